/-! constructor of the class -/
theorem ty_oneQ {D : va_G} {cl : List vw_C} {tys : List (ClassId × FieldType)} {U : State} {c1 c2 : ClassId} {C : String} {i j : Nat} (h : va_K D cl tys U) (hi : tys[i]? = some (c1, .object C)) (hj : tys[j]? = some (c2, .object C)) : c1 = c2 := by
  obtain ⟨_, _, _, _, _, h1⟩ := (h.2 i _ hi).2
  obtain ⟨_, _, _, _, _, h2⟩ := (h.2 j _ hj).2
  exact Option.some.inj (h1.symm.trans h2)
theorem arrVx {cI : ClassId} {N : Nat} {f g : Nat → Value} (h : ∀ j, j < N → f j = g j) : arrV cI N f = arrV cI N g := by
  have e : (fun j : Fin N => f j.val) = (fun j => g j.val) := funext fun j => h j.val j.isLt
  unfold arrV
  rw [e]
theorem setq {D : va_G} {cl : List vw_C} {ws : va_W} {H : Heap} {a : Nat} {cA : ClassId} {n : Nat} {f g : Nat → Option Nat} (hP : va_P D cl ws H) (k0 : Nat) (h : ws[k0]? = some (a, .inl (cA, n, .inr (.inr (.inr (.inr f)))))) (hfg : ∀ i, i < n → f i = g i) : va_P D cl (ws.set k0 (a, .inl (cA, n, .inr (.inr (.inr (.inr g)))))) H := fun k q hk => by
  rw [List.getElem?_set] at hk
  by_cases e : k0 = k
  · subst e
    rw [if_pos rfl, if_pos (List.getElem?_eq_some_iff.mp h).1] at hk
    cases hk
    have h2 := hP k0 _ h
    have e : vp_cell cA (n, .inr (.inr (.inr (.inr f)))) = vp_cell cA (n, .inr (.inr (.inr (.inr g)))) := by
      show arrV cA n (fun j => va_rf (f j)) = arrV cA n (fun j => va_rf (g j))
      exact arrVx (fun j hj => by rw [hfg j hj])
    show H[a]? = some (vp_cell cA (n, .inr (.inr (.inr (.inr g)))))
    rw [← e]
    exact h2
  · rw [if_neg e] at hk
    exact hP k q hk
theorem setqD {A : Nat → Prop} {ws : va_W} {a : Nat} {e e' : va_E} (hD : va_D A ws) (k0 : Nat) (h : ws[k0]? = some (a, e')) : va_D A (ws.set k0 (a, e)) := by
  have key : ∀ (i : Nat) (p : Nat × va_E), (ws.set k0 (a, e))[i]? = some p → ∃ p', ws[i]? = some p' ∧ p'.1 = p.1 := fun i p hp => by
    rw [List.getElem?_set] at hp
    by_cases z : k0 = i
    · subst z
      rw [if_pos rfl, if_pos (List.getElem?_eq_some_iff.mp h).1] at hp
      cases hp
      exact ⟨_, h, rfl⟩
    · rw [if_neg z] at hp
      exact ⟨p, hp, rfl⟩
  refine ⟨fun i j p q hp hq z => ?_, fun k q hk => ?_⟩
  · obtain ⟨p', h1, e1⟩ := key i p hp
    obtain ⟨q', h2, e2⟩ := key j q hq
    exact hD.1 i j p' q' h1 h2 (by rw [e1, e2, z])
  · obtain ⟨q', h1, e1⟩ := key k q hk
    rw [← e1]; exact hD.2 k q' h1
def posK (c n k : Nat) : Nat := bif c == 5 then (bif k == 0 then 0 else bif k == 1 then 1 else k + 13) else bif c == 2 then 2 else bif c == 0 then (bif k == 0 then 4 else 5) else bif c == 4 then (bif n == 99 then 3 else 6 + 8 * n + (k - 5)) else bif c == 3 then 24 + 6 * n + (k - 4) else 60 + 12 * n + (k - 4)
def adK (l : List Nat) (c n k : Nat) : Nat := l.getD (posK c n k) 0
def ws5 (f : Nat → Nat → Nat → Nat) (cI cB cS : ClassId) : va_W := (cellsL.take 95).map (fun q => (f q.1 q.2.1 q.2.2, ent (f, .null, cI, cB, cS) (mem0 (fun _ => 0) 0) q))
theorem dfl_0 : ∀ j, j < 5 → defaultValue (tyX0 j) = vp_V [.int 0, .int 0, .int 0, .int 0, .null] j := fun j hj => by
  rcases (show j = 0 ∨ j = 1 ∨ j = 2 ∨ j = 3 ∨ j = 4 by omega) with rfl | rfl | rfl | rfl | rfl <;> rfl
theorem dfl_1 : ∀ j, j < 15 → defaultValue (tyX1 j) = vp_V [.int 0, .int 0, .int 0, .null, .null, .null, .null, .null, .null, .null, .null, .null, .null, .null, .null] j := fun j hj => by
  rcases (show j = 0 ∨ j = 1 ∨ j = 2 ∨ j = 3 ∨ j = 4 ∨ j = 5 ∨ j = 6 ∨ j = 7 ∨ j = 8 ∨ j = 9 ∨ j = 10 ∨ j = 11 ∨ j = 12 ∨ j = 13 ∨ j = 14 by omega) with rfl | rfl | rfl | rfl | rfl | rfl | rfl | rfl | rfl | rfl | rfl | rfl | rfl | rfl | rfl <;> rfl
theorem dfl_2 : ∀ j, j < 4 → defaultValue (tyX2 j) = vp_V [.null, .int 0, .int 0, .null] j := fun j hj => by
  rcases (show j = 0 ∨ j = 1 ∨ j = 2 ∨ j = 3 by omega) with rfl | rfl | rfl | rfl <;> rfl
theorem dfl_3 : ∀ j, j < 9 → defaultValue (tyX3 j) = vp_V [.int 0, .int 0, .int 0, .int 0, .null, .null, .null, .null, .null] j := fun j hj => by
  rcases (show j = 0 ∨ j = 1 ∨ j = 2 ∨ j = 3 ∨ j = 4 ∨ j = 5 ∨ j = 6 ∨ j = 7 ∨ j = 8 by omega) with rfl | rfl | rfl | rfl | rfl | rfl | rfl | rfl | rfl <;> rfl
theorem dfl_4 : ∀ j, j < 12 → defaultValue (tyX4 j) = vp_V [.int 0, .int 0, .int 0, .int 0, .int 0, .null, .null, .null, .null, .null, .null, .null] j := fun j hj => by
  rcases (show j = 0 ∨ j = 1 ∨ j = 2 ∨ j = 3 ∨ j = 4 ∨ j = 5 ∨ j = 6 ∨ j = 7 ∨ j = 8 ∨ j = 9 ∨ j = 10 ∨ j = 11 by omega) with rfl | rfl | rfl | rfl | rfl | rfl | rfl | rfl | rfl | rfl | rfl | rfl <;> rfl
def wsX5_init_r1 : List Cond := [Cond.methodLink RX5 3 objectInit, Cond.instanceMethod objectInit, Cond.code objectInit ⟨#[0xb1]⟩ 1 none, Cond.classLink RX5 11 RX3, Cond.fieldLink RX5 13 "ChoirRoof" "settings" "[LChoirRoof$Setting;", Cond.classLink RX5 17 RX2, Cond.instantiable RX2 4, Cond.initialized RX2, Cond.fieldLink RX5 20 "ChoirRoof" "reader" "LChoirRoof$Reader;", Cond.classLink RX5 24 RX0, Cond.instantiable RX0 5, Cond.initialized RX0, Cond.fieldLink RX5 27 "ChoirRoof" "acts" "LChoirRoof$Acts;", Cond.classLink RX5 31 RX4, Cond.instantiable RX4 12, Cond.initialized RX4, Cond.fieldLink RX5 34 "ChoirRoof" "sheets" "LChoirRoof$Sheets;", Cond.fieldLink RX5 38 "ChoirRoof" "imageSheets" "LChoirRoof$Sheets;", Cond.arrayClass .int, Cond.fieldLink RX5 41 "ChoirRoof" "chordForces" "[I", Cond.fieldLink RX5 45 "ChoirRoof" "sorted" "[I", Cond.instantiable RX3 9, Cond.initialized RX3, Cond.classLink RX5 49 RX1]
def wsX5_init_r2 : List Cond := [Cond.instantiable RX1 15, Cond.initialized RX1, Cond.fieldLink RX5 54 "ChoirRoof" "now" "LChoirRoof$Choir;", Cond.fieldLink RX5 58 "ChoirRoof" "then" "LChoirRoof$Choir;", Cond.fieldLink RX5 61 "ChoirRoof" "imageChoir" "LChoirRoof$Choir;", Cond.instanceMethod yX2_init, Cond.code yX2_init cX2_init 1 none, Cond.methodLink RX2 3 objectInit, Cond.fieldLink RX2 9 "ChoirRoof$Reader" "tape" "[I", Cond.instanceMethod yX0_init, Cond.code yX0_init cX0_init 1 none, Cond.methodLink RX0 3 objectInit, Cond.fieldLink RX0 9 "ChoirRoof$Acts" "kept" "[I", Cond.instanceMethod yX4_init, Cond.code yX4_init cX4_init 1 none, Cond.methodLink RX4 3 objectInit, Cond.fieldLink RX4 9 "ChoirRoof$Sheets" "tape" "[I", Cond.fieldLink RX4 15 "ChoirRoof$Sheets" "dustBeats" "[I", Cond.fieldLink RX4 18 "ChoirRoof$Sheets" "dustFallen" "[I", Cond.fieldLink RX4 21 "ChoirRoof$Sheets" "planSingers" "[I", Cond.fieldLink RX4 24 "ChoirRoof$Sheets" "planNotes" "[I", Cond.fieldLink RX4 27 "ChoirRoof$Sheets" "bookSingers" "[I", Cond.fieldLink RX4 30 "ChoirRoof$Sheets" "bookBears" "[I", Cond.methodLink RX5 48 yX3_init]
def wsX5_init_r3 : List Cond := [Cond.instanceMethod yX3_init, Cond.code yX3_init cX3_init 1 none, Cond.methodLink RX3 3 objectInit, Cond.fieldLink RX3 9 "ChoirRoof$Setting" "word" "[I", Cond.fieldLink RX3 15 "ChoirRoof$Setting" "number" "[I", Cond.fieldLink RX3 18 "ChoirRoof$Setting" "from" "[I", Cond.fieldLink RX3 21 "ChoirRoof$Setting" "to" "[I", Cond.fieldLink RX3 24 "ChoirRoof$Setting" "code" "[I", Cond.methodLink RX3 27 yX3_clear, Cond.instanceMethod yX3_clear, Cond.selects RX3 yX3_clear yX3_clear, Cond.code yX3_clear cX3_clear 1 none, Cond.fieldLink RX3 30 "ChoirRoof$Setting" "clauses" "I", Cond.fieldLink RX3 34 "ChoirRoof$Setting" "used" "I", Cond.fieldLink RX3 37 "ChoirRoof$Setting" "ease" "I", Cond.fieldLink RX3 40 "ChoirRoof$Setting" "weary" "I", Cond.methodLink RX5 51 yX1_init, Cond.instanceMethod yX1_init, Cond.code yX1_init cX1_init 2 none, Cond.methodLink RX1 3 objectInit, Cond.fieldLink RX1 9 "ChoirRoof$Choir" "kind" "[I", Cond.fieldLink RX1 15 "ChoirRoof$Choir" "v" "[I", Cond.fieldLink RX1 18 "ChoirRoof$Choir" "low" "[I", Cond.fieldLink RX1 21 "ChoirRoof$Choir" "note" "[I"]
def wsX5_init_r4 : List Cond := [Cond.fieldLink RX1 24 "ChoirRoof$Choir" "tired" "[I", Cond.fieldLink RX1 27 "ChoirRoof$Choir" "rows" "[I", Cond.fieldLink RX1 30 "ChoirRoof$Choir" "weight" "[I", Cond.fieldLink RX1 33 "ChoirRoof$Choir" "propped" "[I", Cond.fieldLink RX1 36 "ChoirRoof$Choir" "fallen" "[I", Cond.fieldLink RX1 39 "ChoirRoof$Choir" "force" "[I", Cond.fieldLink RX1 42 "ChoirRoof$Choir" "about" "[I", Cond.fieldLink RX1 45 "ChoirRoof$Choir" "held" "LChoirRoof$Setting;"]
def wsX5_init : List Cond := .code yX5_init cX5_init 2 none :: ((wsX5_init_r1 ++ (wsX5_init_r2 ++ (wsX5_init_r3 ++ wsX5_init_r4))) ++ wsX50 ++ wsX20 ++ wsX00 ++ wsX40 ++ wsX30 ++ wsX10)
set_option maxRecDepth 20000 in
theorem ggX5_init_X2_init : GoodIn wsX5_init wsX2_init := goodIn_r _ [31, 32, 2, 3, 19, 33, 92, 93, 94, 95] (by decide +kernel) (by decide +kernel)
set_option maxRecDepth 20000 in
theorem ggX5_init_X0_init : GoodIn wsX5_init wsX0_init := goodIn_r _ [35, 36, 2, 3, 19, 37, 96, 97, 98, 99, 100] (by decide +kernel) (by decide +kernel)
set_option maxRecDepth 20000 in
theorem ggX5_init_X4_init : GoodIn wsX5_init wsX4_init := goodIn_r _ [39, 40, 2, 3, 19, 41, 42, 43, 44, 45, 46, 47, 101, 102, 103, 104, 105, 106, 107, 108, 109, 110, 111, 112] (by decide +kernel) (by decide +kernel)
set_option maxRecDepth 20000 in
theorem ggX5_init_X3_init : GoodIn wsX5_init wsX3_init := goodIn_r _ [50, 51, 2, 3, 19, 52, 53, 54, 55, 56, 57, 58, 59, 23, 60, 61, 62, 63, 64, 113, 114, 115, 116, 117, 118, 119, 120, 121] (by decide +kernel) (by decide +kernel)
set_option maxRecDepth 20000 in
theorem ggX5_init_X1_init : GoodIn wsX5_init wsX1_init := goodIn_r _ [67, 68, 2, 3, 19, 69, 70, 71, 72, 73, 74, 75, 76, 77, 78, 79, 80, 122, 123, 124, 125, 126, 127, 128, 129, 130, 131, 132, 133, 134, 135, 136] (by decide +kernel) (by decide +kernel)
theorem dX5_init_0 : decode cX5_init 0 = .ok (.aload_n 0, 1) := by decide +kernel
theorem dX5_init_1 : decode cX5_init 1 = .ok (.invokespecial 3, 3) := by decide +kernel
theorem dX5_init_4 : decode cX5_init 4 = .ok (.aload_n 0, 1) := by decide +kernel
theorem dX5_init_5 : decode cX5_init 5 = .ok (.bipush 6, 2) := by decide +kernel
theorem dX5_init_7 : decode cX5_init 7 = .ok (.anewarray 11, 3) := by decide +kernel
theorem dX5_init_10 : decode cX5_init 10 = .ok (.putfield 13, 3) := by decide +kernel
theorem dX5_init_13 : decode cX5_init 13 = .ok (.aload_n 0, 1) := by decide +kernel
theorem dX5_init_14 : decode cX5_init 14 = .ok (.new 17, 3) := by decide +kernel
theorem dX5_init_17 : decode cX5_init 17 = .ok (.dup, 1) := by decide +kernel
theorem dX5_init_18 : decode cX5_init 18 = .ok (.invokespecial 19, 3) := by decide +kernel
theorem dX5_init_21 : decode cX5_init 21 = .ok (.putfield 20, 3) := by decide +kernel
theorem dX5_init_24 : decode cX5_init 24 = .ok (.aload_n 0, 1) := by decide +kernel
theorem dX5_init_25 : decode cX5_init 25 = .ok (.new 24, 3) := by decide +kernel
theorem dX5_init_28 : decode cX5_init 28 = .ok (.dup, 1) := by decide +kernel
theorem dX5_init_29 : decode cX5_init 29 = .ok (.invokespecial 26, 3) := by decide +kernel
theorem dX5_init_32 : decode cX5_init 32 = .ok (.putfield 27, 3) := by decide +kernel
theorem dX5_init_35 : decode cX5_init 35 = .ok (.aload_n 0, 1) := by decide +kernel
theorem dX5_init_36 : decode cX5_init 36 = .ok (.new 31, 3) := by decide +kernel
theorem dX5_init_39 : decode cX5_init 39 = .ok (.dup, 1) := by decide +kernel
theorem dX5_init_40 : decode cX5_init 40 = .ok (.invokespecial 33, 3) := by decide +kernel
theorem dX5_init_43 : decode cX5_init 43 = .ok (.putfield 34, 3) := by decide +kernel
theorem dX5_init_46 : decode cX5_init 46 = .ok (.aload_n 0, 1) := by decide +kernel
theorem dX5_init_47 : decode cX5_init 47 = .ok (.new 31, 3) := by decide +kernel
theorem dX5_init_50 : decode cX5_init 50 = .ok (.dup, 1) := by decide +kernel
theorem dX5_init_51 : decode cX5_init 51 = .ok (.invokespecial 33, 3) := by decide +kernel
theorem dX5_init_54 : decode cX5_init 54 = .ok (.putfield 38, 3) := by decide +kernel
theorem dX5_init_57 : decode cX5_init 57 = .ok (.aload_n 0, 1) := by decide +kernel
theorem dX5_init_58 : decode cX5_init 58 = .ok (.bipush 25, 2) := by decide +kernel
theorem dX5_init_60 : decode cX5_init 60 = .ok (.newarray .int, 2) := by decide +kernel
theorem dX5_init_62 : decode cX5_init 62 = .ok (.putfield 41, 3) := by decide +kernel
theorem dX5_init_65 : decode cX5_init 65 = .ok (.aload_n 0, 1) := by decide +kernel
theorem dX5_init_66 : decode cX5_init 66 = .ok (.bipush 6, 2) := by decide +kernel
theorem dX5_init_68 : decode cX5_init 68 = .ok (.newarray .int, 2) := by decide +kernel
theorem dX5_init_70 : decode cX5_init 70 = .ok (.putfield 45, 3) := by decide +kernel
theorem dX5_init_73 : decode cX5_init 73 = .ok (.iconst 0, 1) := by decide +kernel
theorem dX5_init_74 : decode cX5_init 74 = .ok (.istore_n 1, 1) := by decide +kernel
theorem dX5_init_75 : decode cX5_init 75 = .ok (.iload_n 1, 1) := by decide +kernel
theorem dX5_init_76 : decode cX5_init 76 = .ok (.aload_n 0, 1) := by decide +kernel
theorem dX5_init_77 : decode cX5_init 77 = .ok (.getfield 13, 3) := by decide +kernel
theorem dX5_init_80 : decode cX5_init 80 = .ok (.arraylength, 1) := by decide +kernel
theorem dX5_init_81 : decode cX5_init 81 = .ok (.if_icmp .ge 22, 3) := by decide +kernel
theorem dX5_init_84 : decode cX5_init 84 = .ok (.aload_n 0, 1) := by decide +kernel
theorem dX5_init_85 : decode cX5_init 85 = .ok (.getfield 13, 3) := by decide +kernel
theorem dX5_init_88 : decode cX5_init 88 = .ok (.iload_n 1, 1) := by decide +kernel
theorem dX5_init_89 : decode cX5_init 89 = .ok (.new 11, 3) := by decide +kernel
theorem dX5_init_92 : decode cX5_init 92 = .ok (.dup, 1) := by decide +kernel
theorem dX5_init_93 : decode cX5_init 93 = .ok (.invokespecial 48, 3) := by decide +kernel
theorem dX5_init_96 : decode cX5_init 96 = .ok (.aastore, 1) := by decide +kernel
theorem dX5_init_97 : decode cX5_init 97 = .ok (.iinc 1 1, 3) := by decide +kernel
theorem dX5_init_100 : decode cX5_init 100 = .ok (.goto (-25), 3) := by decide +kernel
theorem dX5_init_103 : decode cX5_init 103 = .ok (.aload_n 0, 1) := by decide +kernel
theorem dX5_init_104 : decode cX5_init 104 = .ok (.new 49, 3) := by decide +kernel
theorem dX5_init_107 : decode cX5_init 107 = .ok (.dup, 1) := by decide +kernel
theorem dX5_init_108 : decode cX5_init 108 = .ok (.aload_n 0, 1) := by decide +kernel
theorem dX5_init_109 : decode cX5_init 109 = .ok (.getfield 13, 3) := by decide +kernel
theorem dX5_init_112 : decode cX5_init 112 = .ok (.iconst 0, 1) := by decide +kernel
theorem dX5_init_113 : decode cX5_init 113 = .ok (.aaload, 1) := by decide +kernel
theorem dX5_init_114 : decode cX5_init 114 = .ok (.invokespecial 51, 3) := by decide +kernel
theorem dX5_init_117 : decode cX5_init 117 = .ok (.putfield 54, 3) := by decide +kernel
theorem dX5_init_120 : decode cX5_init 120 = .ok (.aload_n 0, 1) := by decide +kernel
theorem dX5_init_121 : decode cX5_init 121 = .ok (.new 49, 3) := by decide +kernel
theorem dX5_init_124 : decode cX5_init 124 = .ok (.dup, 1) := by decide +kernel
theorem dX5_init_125 : decode cX5_init 125 = .ok (.aload_n 0, 1) := by decide +kernel
theorem dX5_init_126 : decode cX5_init 126 = .ok (.getfield 13, 3) := by decide +kernel
theorem dX5_init_129 : decode cX5_init 129 = .ok (.iconst 0, 1) := by decide +kernel
theorem dX5_init_130 : decode cX5_init 130 = .ok (.aaload, 1) := by decide +kernel
theorem dX5_init_131 : decode cX5_init 131 = .ok (.invokespecial 51, 3) := by decide +kernel
theorem dX5_init_134 : decode cX5_init 134 = .ok (.putfield 58, 3) := by decide +kernel
theorem dX5_init_137 : decode cX5_init 137 = .ok (.aload_n 0, 1) := by decide +kernel
theorem dX5_init_138 : decode cX5_init 138 = .ok (.new 49, 3) := by decide +kernel
theorem dX5_init_141 : decode cX5_init 141 = .ok (.dup, 1) := by decide +kernel
theorem dX5_init_142 : decode cX5_init 142 = .ok (.aload_n 0, 1) := by decide +kernel
theorem dX5_init_143 : decode cX5_init 143 = .ok (.getfield 13, 3) := by decide +kernel
theorem dX5_init_146 : decode cX5_init 146 = .ok (.iconst 0, 1) := by decide +kernel
theorem dX5_init_147 : decode cX5_init 147 = .ok (.aaload, 1) := by decide +kernel
theorem dX5_init_148 : decode cX5_init 148 = .ok (.invokespecial 51, 3) := by decide +kernel
theorem dX5_init_151 : decode cX5_init 151 = .ok (.putfield 61, 3) := by decide +kernel
theorem dX5_init_154 : decode cX5_init 154 = .ok (.return_, 1) := by decide +kernel
