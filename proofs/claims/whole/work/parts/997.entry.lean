/-! the law from its entry -/
theorem dfl_5 : ∀ j, j < 11 → defaultValue (tyX5 j) = vp_V [.null, .null, .null, .null, .null, .null, .null, .null, .null, .null, .int 0] j := fun j hj => by
  rcases (show j = 0 ∨ j = 1 ∨ j = 2 ∨ j = 3 ∨ j = 4 ∨ j = 5 ∨ j = 6 ∨ j = 7 ∨ j = 8 ∨ j = 9 ∨ j = 10 by omega) with rfl | rfl | rfl | rfl | rfl | rfl | rfl | rfl | rfl | rfl | rfl <;> rfl
theorem dfl_6 : ∀ j, j < 23 → defaultValue (tyX6 j) = vp_V [.int 0, .null, .null, .null, .int 0, .int 0, .int 0, .int 0, .int 0, .int 0, .null, .null, .null, .int 0, .int 0, .null, .null, .null, .null, .int 0, .int 0, .int 0, .int 0] j := fun j hj => by
  rcases (show j = 0 ∨ j = 1 ∨ j = 2 ∨ j = 3 ∨ j = 4 ∨ j = 5 ∨ j = 6 ∨ j = 7 ∨ j = 8 ∨ j = 9 ∨ j = 10 ∨ j = 11 ∨ j = 12 ∨ j = 13 ∨ j = 14 ∨ j = 15 ∨ j = 16 ∨ j = 17 ∨ j = 18 ∨ j = 19 ∨ j = 20 ∨ j = 21 ∨ j = 22 by omega) with rfl | rfl | rfl | rfl | rfl | rfl | rfl | rfl | rfl | rfl | rfl | rfl | rfl | rfl | rfl | rfl | rfl | rfl | rfl | rfl | rfl | rfl | rfl <;> rfl
set_option maxRecDepth 20000 in
theorem gL_init5 : GoodIn lw_tbl wsX5_init := goodIn_r _ [101, 102, 103, 104, 105, 317, 107, 108, 83, 318, 127, 128, 84, 319, 154, 155, 85, 323, 324, 126, 325, 326, 209, 86, 251, 252, 87, 320, 321, 322, 110, 111, 112, 113, 130, 131, 132, 141, 157, 158, 159, 170, 172, 174, 176, 178, 180, 182, 210, 211, 212, 213, 227, 228, 229, 230, 231, 214, 216, 0, 217, 218, 219, 221, 224, 253, 254, 255, 256, 265, 267, 269, 271, 273, 275, 277, 279, 281, 283, 285, 263, 328, 330, 332, 334, 336, 338, 340, 342, 344, 346, 348, 117, 119, 121, 123, 143, 145, 147, 149, 151, 184, 186, 188, 190, 192, 194, 196, 198, 200, 202, 204, 206, 232, 234, 236, 238, 240, 242, 244, 246, 248, 286, 288, 290, 292, 294, 296, 298, 300, 302, 304, 306, 308, 310, 312, 314] (by decide +kernel) (by decide +kernel)
set_option maxRecDepth 20000 in
theorem gL_init6 : GoodIn lw_tbl wsX6_init := goodIn_r _ [895, 896, 103, 104, 126, 897, 898, 899, 906, 966, 907, 908, 911, 912, 913, 914, 919, 921, 923, 925, 927, 929, 931, 933, 935, 937, 939, 941, 943, 945, 947, 949, 951, 953, 955, 957, 959, 961, 963] (by decide +kernel) (by decide +kernel)
theorem dL_law_0 : decode cL_law 0 = .ok (.new 7, 3) := by decide +kernel
theorem dL_law_3 : decode cL_law 3 = .ok (.dup, 1) := by decide +kernel
theorem dL_law_4 : decode cL_law 4 = .ok (.invokespecial 9, 3) := by decide +kernel
theorem dL_law_7 : decode cL_law 7 = .ok (.astore_n 1, 1) := by decide +kernel
theorem dL_law_8 : decode cL_law 8 = .ok (.new 10, 3) := by decide +kernel
theorem dL_law_11 : decode cL_law 11 = .ok (.dup, 1) := by decide +kernel
theorem dL_law_12 : decode cL_law 12 = .ok (.invokespecial 12, 3) := by decide +kernel
theorem dL_law_15 : decode cL_law 15 = .ok (.astore_n 2, 1) := by decide +kernel
theorem dL_law_16 : decode cL_law 16 = .ok (.iconst 0, 1) := by decide +kernel
theorem dL_law_17 : decode cL_law 17 = .ok (.istore_n 3, 1) := by decide +kernel
/-! THE CLAIM OUT OF ONE WALK OF THE LAW'S BODY. Your part is whole_start (and what it stands on); all else here is the same for every law, but numbers. -/
def R_law : String := "ChoirRoofLaw"
def lw_P (b : Addr) (xs : List Int32) (args : Array Value) (s : State) : Prop := args = #[.ref b] ∧ s.IntsAt b xs ∧ xs.length ≤ 2048 ∧ (Jvm.Cond.and given_1 narrow_1).before args s = true
def lw_Q (_ : Array Value) (s : State) (o : Outcome) (t : State) : Prop := o = .returned (some (.int 1)) ∧ Framed s o t [] 600000 7302250
def lw_Z (below : List Frame) (a : Array Value) (s : State) : State → Prop := fun t => ∃ o, t.status = .running ∧ Ended t below o ∧ lw_Q a s o t
/-- the law's own end, with 1 on the stack, nothing written that was there before, its room as the claim has it -/
theorem lw_ret {p : Program} {l : Launch} {e : Env} {s : State} {m : MethodId} {below : List Frame} {meth : Method} {c : Code} {b : Nat} (hx : p.tables.exec = Jvm.exec) (hb : c.code = code) (hr : meth.sig.returnType = ret) (hlocks : meth.locks = false) {pc : Nat} {H : Heap} {ls : Array Slot} (hdg : decode code pc = .ok (.ireturn, 1)) : W p l e room_1 s m #[Value.ref b] below meth c H [] 600000 7302250 (lw_Z below #[Value.ref b] s) (F0 m pc ls [.int 1]) := by
  intro T hT X
  obtain ⟨fs, hret, hrun, hended, hW, hframe⟩ := X.leave (v := some (.int 1)) (hlocks := hlocks) (fun h => by rw [hr] at h; cases h)
  have hmeth' : T.vm.method? m = some meth := X.method'
  refine ⟨T.setFrames fs, ?_, .returned (some (.int 1)), hrun, hended, rfl, ⟨_, rfl⟩, hW, hframe⟩
  jvm_step X.here [X.here.top, hx, hb, hdg, hmeth', hr, ret, narrow_b1]
  (try refine ⟨rfl, ?_⟩); (try refine ⟨rfl, ?_⟩)
  first | (intro acts; rw [hret _ acts rfl rfl rfl]) | rw [hret _ _ rfl rfl rfl]
  exact Steps.refl _
/-- what holds at the law's entry: the machine, the code, the tables' words (any of lw_tbl by 'hts w (by decide +kernel)'), the script of L ints xs at the cell b, what the Statement gives of the start (any of its parts by flat_of_before) -/
def lw_At (p : Program) (s : State) (m : MethodId) (meth : Method) (c : Code) (b L : Nat) (xs : Nat → Int32) : Prop :=
  p.tables.exec = Jvm.exec ∧ c.code = code ∧ meth.sig.returnType = ret ∧ c.maxLocals = 4 ∧ s.vm.findClass R_law = some m.cls ∧ (∀ w ∈ lw_tbl, w.before #[Value.ref b] s = true) ∧ va_X b L xs s s.heap ∧ b < s.heap.size ∧ meth.locks = false ∧ (Jvm.Cond.and given_1 narrow_1).before #[Value.ref b] s = true
theorem law_run {p : Program} {e : Env} {s : State} {m : MethodId} {below : List Frame} {meth : Method} {c : Code} {cells slots : Nat} {H : Heap} {locs : List Loc} {ls : Array Slot} {dC : Nat → ClassId} {dI : Nat → Nat → Nat} {ρ : EnvR} {b q5 q6 L : Nat} {xs : Nat → Int32} (l : Launch) (hx : p.tables.exec = Jvm.exec) (hb : c.code = code) (hr : meth.sig.returnType = ret) (hml : c.maxLocals = 4) (hown : s.vm.findClass R_law = some m.cls) (hts : ∀ w ∈ lw_tbl, w.before #[Value.ref b] s = true) (hlocks : meth.locks = false) (hK : va_K (dC, dI) clsT (tysL ρ) s) (hSt : Sta ρ (fun q : Nat => s.heap.size ≤ q) (xs, L) s s.heap) (hA : ∀ q : Nat, s.heap.size ≤ q → (fun q : Nat => s.heap.size ≤ q) q) (hL : L ≤ 2048) (hP : va_P (dC, dI) clsT (wsO ρ (mem0 xs L)) H) (hD : va_D (fun q : Nat => s.heap.size ≤ q) (wsO ρ (mem0 xs L))) (hS : va_S (fun q : Nat => s.heap.size ≤ q) s.heap H locs) (hl : lv_has ls 4 [(3, .int 0), (2, .ref q6), (1, .ref q5), (0, .ref b)]) (r24 : ρ.1 24 0 0 = b) (r5 : ρ.1 5 0 0 = q5) (r6 : ρ.1 6 0 0 = q6) (hcells : cells ≤ 600000 := by exact Nat.le_of_ble_eq_true rfl) (hslots : slots ≤ 7302250 := by exact Nat.le_of_ble_eq_true rfl) : W p l e room_1 s m #[Value.ref b] below meth c H locs cells slots (lw_Z below #[Value.ref b] s) (F0 m 18 ls []) := by
  obtain ⟨M', hp⟩ := law_pure 0 xs hL
  obtain ⟨n, hn⟩ := X_some.mp hp
  have F9 : Fr p room_1 s m #[Value.ref b] c cells slots dC dI ρ (fun q : Nat => s.heap.size ≤ q) (xs, L) lw_tbl 40 jL_law := ⟨hx, hb, hml, hown, hts, wBig_tbl, hK, hSt, hA, ⟨by decide, by decide⟩, ⟨hcells, hslots⟩⟩
  have key := sound_exec (Q := lw_Z below #[Value.ref b] s) (l := l) (e := e) (below := below) (meth := meth) F9 ⟨chL_law, ekL_law, lnL_law⟩ (res := (some (vI 1), M')) ?_ n (fun n' hn' jj as M o M' h1 h2 h3 h4 => con_all l dC dI ρ (xs, L) n n' hn' 40 jj as M o M' h1 h2 h3 h4) 18 _ [] (mem0 xs L) hn
  · refine key H locs ls rfl (fun i v hv => ?_) (fun v hv => by cases hv) hP hD hS ⟨hl.1, hl.2.1, rfl, fun i v hv => ?_⟩
    · match i, hv with
      | 0, hv => cases hv; rfl
      | 1, hv => cases hv; rfl
      | 2, hv => cases hv; rfl
      | 3, hv => cases hv; trivial
      | i + 4, hv => cases hv
    · match i, hv with
      | 0, hv =>
        cases hv
        have h := lv_at hl 3 rfl
        rw [← r24] at h
        exact h
      | 1, hv =>
        cases hv
        have h := lv_at hl 2 rfl
        rw [← r5] at h
        exact h
      | 2, hv =>
        cases hv
        have h := lv_at hl 1 rfl
        rw [← r6] at h
        exact h
      | 3, hv =>
        cases hv
        exact lv_at hl 0 rfl
      | i + 4, hv => cases hv
  · intro pc v M2 hh hrc H locs la hx2 hP2 hD2 hS2
    cases hh
    obtain ⟨hd, -⟩ := hrc
    refine va_forget (fun q hq => hS2.2.2 q hq) ?_
    refine W.widen (k := 600000) (n := 7302250) hcells hslots ?_
    exact lw_ret hx hb hr hlocks hd
