/-! the words that any method may use: those of the tables that stay good -/
def wBig : List Cond := lw_tbl.filter goodWord
theorem wb_of {w : Cond} (h : w ∈ lw_tbl) (g : goodWord w = true) : w ∈ wBig := List.mem_filter.mpr ⟨h, g⟩
theorem wb_t {w : Cond} (h : w ∈ tables_1) : w ∈ lw_tbl := List.mem_append_right _ h
theorem wb1 {i : Nat} {w : Cond} (h : tables_1_1[i]? = some w) (g : goodWord w = true) : w ∈ wBig := wb_of (wb_t (List.mem_append_left _ (List.mem_of_getElem? h))) g
theorem wb2 {i : Nat} {w : Cond} (h : tables_1_2[i]? = some w) (g : goodWord w = true) : w ∈ wBig := wb_of (wb_t (List.mem_append_right _ (List.mem_append_left _ (List.mem_of_getElem? h)))) g
theorem wb3 {i : Nat} {w : Cond} (h : tables_1_3[i]? = some w) (g : goodWord w = true) : w ∈ wBig := wb_of (wb_t (List.mem_append_right _ (List.mem_append_right _ (List.mem_append_left _ (List.mem_of_getElem? h))))) g
theorem wb4 {i : Nat} {w : Cond} (h : tables_1_4[i]? = some w) (g : goodWord w = true) : w ∈ wBig := wb_of (wb_t (List.mem_append_right _ (List.mem_append_right _ (List.mem_append_right _ (List.mem_append_left _ (List.mem_of_getElem? h)))))) g
theorem wb5 {i : Nat} {w : Cond} (h : tables_1_5[i]? = some w) (g : goodWord w = true) : w ∈ wBig := wb_of (wb_t (List.mem_append_right _ (List.mem_append_right _ (List.mem_append_right _ (List.mem_append_right _ (List.mem_append_left _ (List.mem_of_getElem? h))))))) g
theorem wb6 {i : Nat} {w : Cond} (h : tables_1_6[i]? = some w) (g : goodWord w = true) : w ∈ wBig := wb_of (wb_t (List.mem_append_right _ (List.mem_append_right _ (List.mem_append_right _ (List.mem_append_right _ (List.mem_append_right _ (List.mem_of_getElem? h))))))) g
theorem wbP {i n : Nat} {y : MethodName} (h : lw_privs[i]? = some (y, n)) : Cond.selects y.cls y y ∈ wBig := wb_of (List.mem_append_left _ (List.mem_map.mpr ⟨(y, n), List.mem_of_getElem? h, rfl⟩)) rfl
theorem wBig_good : ∀ w ∈ wBig, goodWord w = true := fun w h => (List.mem_filter.mp h).2
theorem wBig_tbl : ∀ w ∈ wBig, w ∈ lw_tbl := fun w h => (List.mem_filter.mp h).1
abbrev clsT : List vw_C := [(RX0, TX0, 5), (RX1, TX1, 15), (RX2, TX2, 4), (RX3, TX3, 9), (RX4, TX4, 12), (RX5, TX5, 11), (RX6, TX6, 23)]
theorem inB0 : ∀ w ∈ wsX00, w ∈ wBig := by
  intro w h
  obtain ⟨k, hk, rfl⟩ := List.mem_map.mp h
  have hk := List.mem_range.mp hk
  match k, hk with
  | 0, _ => exact wb1 (i := 62) rfl rfl
  | 1, _ => exact wb1 (i := 64) rfl rfl
  | 2, _ => exact wb1 (i := 66) rfl rfl
  | 3, _ => exact wb1 (i := 68) rfl rfl
  | 4, _ => exact wb1 (i := 70) rfl rfl
  | k + 5, hk => exact absurd hk (by omega)
theorem inB1 : ∀ w ∈ wsX10, w ∈ wBig := by
  intro w h
  obtain ⟨k, hk, rfl⟩ := List.mem_map.mp h
  have hk := List.mem_range.mp hk
  match k, hk with
  | 0, _ => exact wb1 (i := 205) rfl rfl
  | 1, _ => exact wb1 (i := 207) rfl rfl
  | 2, _ => exact wb1 (i := 209) rfl rfl
  | 3, _ => exact wb1 (i := 211) rfl rfl
  | 4, _ => exact wb1 (i := 213) rfl rfl
  | 5, _ => exact wb1 (i := 215) rfl rfl
  | 6, _ => exact wb1 (i := 217) rfl rfl
  | 7, _ => exact wb1 (i := 219) rfl rfl
  | 8, _ => exact wb1 (i := 221) rfl rfl
  | 9, _ => exact wb1 (i := 223) rfl rfl
  | 10, _ => exact wb1 (i := 225) rfl rfl
  | 11, _ => exact wb1 (i := 227) rfl rfl
  | 12, _ => exact wb1 (i := 229) rfl rfl
  | 13, _ => exact wb1 (i := 231) rfl rfl
  | 14, _ => exact wb1 (i := 233) rfl rfl
  | k + 15, hk => exact absurd hk (by omega)
theorem inB2 : ∀ w ∈ wsX20, w ∈ wBig := by
  intro w h
  obtain ⟨k, hk, rfl⟩ := List.mem_map.mp h
  have hk := List.mem_range.mp hk
  match k, hk with
  | 0, _ => exact wb1 (i := 36) rfl rfl
  | 1, _ => exact wb1 (i := 38) rfl rfl
  | 2, _ => exact wb1 (i := 40) rfl rfl
  | 3, _ => exact wb1 (i := 42) rfl rfl
  | k + 4, hk => exact absurd hk (by omega)
theorem inB3 : ∀ w ∈ wsX30, w ∈ wBig := by
  intro w h
  obtain ⟨k, hk, rfl⟩ := List.mem_map.mp h
  have hk := List.mem_range.mp hk
  match k, hk with
  | 0, _ => exact wb1 (i := 151) rfl rfl
  | 1, _ => exact wb1 (i := 153) rfl rfl
  | 2, _ => exact wb1 (i := 155) rfl rfl
  | 3, _ => exact wb1 (i := 157) rfl rfl
  | 4, _ => exact wb1 (i := 159) rfl rfl
  | 5, _ => exact wb1 (i := 161) rfl rfl
  | 6, _ => exact wb1 (i := 163) rfl rfl
  | 7, _ => exact wb1 (i := 165) rfl rfl
  | 8, _ => exact wb1 (i := 167) rfl rfl
  | k + 9, hk => exact absurd hk (by omega)
theorem inB4 : ∀ w ∈ wsX40, w ∈ wBig := by
  intro w h
  obtain ⟨k, hk, rfl⟩ := List.mem_map.mp h
  have hk := List.mem_range.mp hk
  match k, hk with
  | 0, _ => exact wb1 (i := 103) rfl rfl
  | 1, _ => exact wb1 (i := 105) rfl rfl
  | 2, _ => exact wb1 (i := 107) rfl rfl
  | 3, _ => exact wb1 (i := 109) rfl rfl
  | 4, _ => exact wb1 (i := 111) rfl rfl
  | 5, _ => exact wb1 (i := 113) rfl rfl
  | 6, _ => exact wb1 (i := 115) rfl rfl
  | 7, _ => exact wb1 (i := 117) rfl rfl
  | 8, _ => exact wb1 (i := 119) rfl rfl
  | 9, _ => exact wb1 (i := 121) rfl rfl
  | 10, _ => exact wb1 (i := 123) rfl rfl
  | 11, _ => exact wb1 (i := 125) rfl rfl
  | k + 12, hk => exact absurd hk (by omega)
theorem inB5 : ∀ w ∈ wsX50, w ∈ wBig := by
  intro w h
  obtain ⟨k, hk, rfl⟩ := List.mem_map.mp h
  have hk := List.mem_range.mp hk
  match k, hk with
  | 0, _ => exact wb2 (i := 7) rfl rfl
  | 1, _ => exact wb2 (i := 9) rfl rfl
  | 2, _ => exact wb2 (i := 11) rfl rfl
  | 3, _ => exact wb2 (i := 13) rfl rfl
  | 4, _ => exact wb2 (i := 15) rfl rfl
  | 5, _ => exact wb2 (i := 17) rfl rfl
  | 6, _ => exact wb2 (i := 19) rfl rfl
  | 7, _ => exact wb2 (i := 21) rfl rfl
  | 8, _ => exact wb2 (i := 23) rfl rfl
  | 9, _ => exact wb2 (i := 25) rfl rfl
  | 10, _ => exact wb2 (i := 27) rfl rfl
  | k + 11, hk => exact absurd hk (by omega)
theorem inB6 : ∀ w ∈ wsX60, w ∈ wBig := by
  intro w h
  obtain ⟨k, hk, rfl⟩ := List.mem_map.mp h
  have hk := List.mem_range.mp hk
  match k, hk with
  | 0, _ => exact wb4 (i := 118) rfl rfl
  | 1, _ => exact wb4 (i := 120) rfl rfl
  | 2, _ => exact wb4 (i := 122) rfl rfl
  | 3, _ => exact wb4 (i := 124) rfl rfl
  | 4, _ => exact wb4 (i := 126) rfl rfl
  | 5, _ => exact wb4 (i := 128) rfl rfl
  | 6, _ => exact wb4 (i := 130) rfl rfl
  | 7, _ => exact wb4 (i := 132) rfl rfl
  | 8, _ => exact wb4 (i := 134) rfl rfl
  | 9, _ => exact wb4 (i := 136) rfl rfl
  | 10, _ => exact wb4 (i := 138) rfl rfl
  | 11, _ => exact wb4 (i := 140) rfl rfl
  | 12, _ => exact wb4 (i := 142) rfl rfl
  | 13, _ => exact wb4 (i := 144) rfl rfl
  | 14, _ => exact wb4 (i := 146) rfl rfl
  | 15, _ => exact wb4 (i := 148) rfl rfl
  | 16, _ => exact wb4 (i := 150) rfl rfl
  | 17, _ => exact wb4 (i := 152) rfl rfl
  | 18, _ => exact wb4 (i := 154) rfl rfl
  | 19, _ => exact wb4 (i := 156) rfl rfl
  | 20, _ => exact wb4 (i := 158) rfl rfl
  | 21, _ => exact wb4 (i := 160) rfl rfl
  | 22, _ => exact wb4 (i := 162) rfl rfl
  | k + 23, hk => exact absurd hk (by omega)
/-- the rows are the bytes' own, one behind the other -/
def chB (b : ByteArray) : Nat → List CE → Bool
  | _, [] => true
  | pc, (p, n, i, _, _, _) :: r => p == pc && decide (decode b p = .ok (i, n)) && chB b (pc + n) r
def endB : Nat → List CE → Nat
  | pc, [] => pc
  | pc, (_, n, _, _, _, _) :: r => endB (pc + n) r
theorem chB_td {b : ByteArray} : ∀ (n pc : Nat) (l : List CE), chB b pc (l.take n) = true → chB b (endB pc (l.take n)) (l.drop n) = true → chB b pc l = true
  | 0, _, _, _, h => h
  | _ + 1, _, [], _, _ => rfl
  | n + 1, pc, (p, z, i, x, y, w) :: r, h1, h2 => by
    simp only [List.take_succ_cons, chB, Bool.and_eq_true] at h1 ⊢
    exact ⟨h1.1, chB_td n (pc + z) r h1.2 h2⟩
theorem chB_at {b : ByteArray} {l : List CE} {pc pc' : Nat} (n : Nat) (h1 : chB b pc (l.take n) = true) (he : endB pc (l.take n) = pc') (h2 : chB b pc' (l.drop n) = true) : chB b pc l = true := chB_td n pc l h1 (by rw [he]; exact h2)
theorem chJ6_compare_7cf53 : chB cJ6_compare_7cf53 0 kJ6_compare_7cf53 = true := by decide +kernel
theorem chJ6_bitCount_0f7a4 : chB cJ6_bitCount_0f7a4 0 kJ6_bitCount_0f7a4 = true := by decide +kernel
theorem chJ0_length_8abf5 : chB cJ0_length_8abf5 0 kJ0_length_8abf5 = true := by decide +kernel
theorem chJ0_charAt_5068e : chB cJ0_charAt_5068e 0 kJ0_charAt_5068e = true := by decide +kernel
theorem chJ0_indexOf_0f7a4 : chB cJ0_indexOf_0f7a4 0 kJ0_indexOf_0f7a4 = true := by decide +kernel
theorem chJ0_indexOf_7cf53 : chB cJ0_indexOf_7cf53 0 kJ0_indexOf_7cf53 = true := by decide +kernel
theorem chJ0_coder_7d493 : chB cJ0_coder_7d493 0 kJ0_coder_7d493 = true := by decide +kernel
theorem chJ0_isLatin1_aae02 : chB cJ0_isLatin1_aae02 0 kJ0_isLatin1_aae02 = true := by decide +kernel
theorem chJ0_checkIndex_df160 : chB cJ0_checkIndex_df160 0 kJ0_checkIndex_df160 = true := by decide +kernel
theorem chJ1_charAt_3b067 : chB cJ1_charAt_3b067 0 kJ1_charAt_3b067 = true := by decide +kernel
theorem chJ1_canEncode_9a6ad : chB cJ1_canEncode_9a6ad 0 kJ1_canEncode_9a6ad = true := by decide +kernel
theorem chJ1_indexOf_4cfef : chB cJ1_indexOf_4cfef 0 kJ1_indexOf_4cfef = true := by decide +kernel
theorem chJ1_indexOfChar_4cfef : chB cJ1_indexOfChar_4cfef 0 kJ1_indexOfChar_4cfef = true := by decide +kernel
theorem chJ3_checkIndex_8e157 : chB cJ3_checkIndex_8e157 0 kJ3_checkIndex_8e157 = true := by decide +kernel
theorem chX0_perform : chB cX0_perform 0 kX0_perform = true := by decide +kernel
theorem chX0_callFrom : chB cX0_callFrom 0 kX0_callFrom = true := by decide +kernel
theorem chX0_runBody_0 : chB cX0_runBody 0 (kX0_runBody.take 40) = true := by decide +kernel
theorem chX0_runBody_40 : chB cX0_runBody 145 ((kX0_runBody.drop 40).take 40) = true := by decide +kernel
theorem chX0_runBody_80 : chB cX0_runBody 196 ((kX0_runBody.drop 40).drop 40) = true := by decide +kernel
theorem chX0_runBody : chB cX0_runBody 0 kX0_runBody = true := chB_at 40 chX0_runBody_0 (by decide +kernel) (chB_at 40 chX0_runBody_40 (by decide +kernel) (chX0_runBody_80))
theorem chX1_become_0 : chB cX1_become 0 (kX1_become.take 40) = true := by decide +kernel
theorem chX1_become_40 : chB cX1_become 77 ((kX1_become.drop 40).take 40) = true := by decide +kernel
theorem chX1_become_80 : chB cX1_become 152 ((kX1_become.drop 40).drop 40) = true := by decide +kernel
theorem chX1_become : chB cX1_become 0 kX1_become = true := chB_at 40 chX1_become_0 (by decide +kernel) (chB_at 40 chX1_become_40 (by decide +kernel) (chX1_become_80))
theorem chX1_addSinger : chB cX1_addSinger 0 kX1_addSinger = true := by decide +kernel
theorem chX1_addStone : chB cX1_addStone 0 kX1_addStone = true := by decide +kernel
theorem chX1_highOf : chB cX1_highOf 0 kX1_highOf = true := by decide +kernel
theorem chX1_canSing : chB cX1_canSing 0 kX1_canSing = true := by decide +kernel
theorem chX1_singing : chB cX1_singing 0 kX1_singing = true := by decide +kernel
theorem chX1_measure : chB cX1_measure 0 kX1_measure = true := by decide +kernel
theorem chX1_forceOf_0 : chB cX1_forceOf 0 (kX1_forceOf.take 40) = true := by decide +kernel
theorem chX1_forceOf_40 : chB cX1_forceOf 59 (kX1_forceOf.drop 40) = true := by decide +kernel
theorem chX1_forceOf : chB cX1_forceOf 0 kX1_forceOf = true := chB_at 40 chX1_forceOf_0 (by decide +kernel) (chX1_forceOf_40)
theorem chX1_strengthOf_0 : chB cX1_strengthOf 0 (kX1_strengthOf.take 40) = true := by decide +kernel
theorem chX1_strengthOf_40 : chB cX1_strengthOf 98 ((kX1_strengthOf.drop 40).take 40) = true := by decide +kernel
theorem chX1_strengthOf_80 : chB cX1_strengthOf 157 ((kX1_strengthOf.drop 40).drop 40) = true := by decide +kernel
theorem chX1_strengthOf : chB cX1_strengthOf 0 kX1_strengthOf = true := chB_at 40 chX1_strengthOf_0 (by decide +kernel) (chB_at 40 chX1_strengthOf_40 (by decide +kernel) (chX1_strengthOf_80))
theorem chX1_partners : chB cX1_partners 0 kX1_partners = true := by decide +kernel
theorem chX1_bearing : chB cX1_bearing 0 kX1_bearing = true := by decide +kernel
theorem chX1_allOf : chB cX1_allOf 0 kX1_allOf = true := by decide +kernel
theorem chX1_allNow : chB cX1_allNow 0 kX1_allNow = true := by decide +kernel
theorem chX1_hangs : chB cX1_hangs 0 kX1_hangs = true := by decide +kernel
theorem chX1_sumHanging : chB cX1_sumHanging 0 kX1_sumHanging = true := by decide +kernel
theorem chX1_looseBits : chB cX1_looseBits 0 kX1_looseBits = true := by decide +kernel
theorem chX1_countFallen : chB cX1_countFallen 0 kX1_countFallen = true := by decide +kernel
theorem chX1_sumTired : chB cX1_sumTired 0 kX1_sumTired = true := by decide +kernel
theorem chX1_goBeat_0 : chB cX1_goBeat 0 (kX1_goBeat.take 40) = true := by decide +kernel
theorem chX1_goBeat_40 : chB cX1_goBeat 70 (kX1_goBeat.drop 40) = true := by decide +kernel
theorem chX1_goBeat : chB cX1_goBeat 0 kX1_goBeat = true := chB_at 40 chX1_goBeat_0 (by decide +kernel) (chX1_goBeat_40)
theorem chX1_goRound : chB cX1_goRound 0 kX1_goRound = true := by decide +kernel
theorem chX1_keepNotes : chB cX1_keepNotes 0 kX1_keepNotes = true := by decide +kernel
theorem chX2_read : chB cX2_read 0 kX2_read = true := by decide +kernel
theorem chX2_peek : chB cX2_peek 0 kX2_peek = true := by decide +kernel
theorem chX2_take : chB cX2_take 0 kX2_take = true := by decide +kernel
theorem chX2_readClause : chB cX2_readClause 0 kX2_readClause = true := by decide +kernel
theorem chX2_readWord : chB cX2_readWord 0 kX2_readWord = true := by decide +kernel
theorem chX2_readRest : chB cX2_readRest 0 kX2_readRest = true := by decide +kernel
theorem chX2_readNumber : chB cX2_readNumber 0 kX2_readNumber = true := by decide +kernel
theorem chX2_readEither : chB cX2_readEither 0 kX2_readEither = true := by decide +kernel
theorem chX2_readBoth : chB cX2_readBoth 0 kX2_readBoth = true := by decide +kernel
theorem chX2_readFactor : chB cX2_readFactor 0 kX2_readFactor = true := by decide +kernel
theorem chX2_readTest : chB cX2_readTest 0 kX2_readTest = true := by decide +kernel
theorem chX2_indexOfNext : chB cX2_indexOfNext 0 kX2_indexOfNext = true := by decide +kernel
theorem chX3_clear : chB cX3_clear 0 kX3_clear = true := by decide +kernel
theorem chX3_addToken : chB cX3_addToken 0 kX3_addToken = true := by decide +kernel
theorem chX3_addClause : chB cX3_addClause 0 kX3_addClause = true := by decide +kernel
theorem chX3_gainOf : chB cX3_gainOf 0 kX3_gainOf = true := by decide +kernel
theorem chX3_holds_0 : chB cX3_holds 0 (kX3_holds.take 40) = true := by decide +kernel
theorem chX3_holds_40 : chB cX3_holds 67 ((kX3_holds.drop 40).take 40) = true := by decide +kernel
theorem chX3_holds_80 : chB cX3_holds 132 ((kX3_holds.drop 40).drop 40) = true := by decide +kernel
theorem chX3_holds : chB cX3_holds 0 kX3_holds = true := chB_at 40 chX3_holds_0 (by decide +kernel) (chB_at 40 chX3_holds_40 (by decide +kernel) (chX3_holds_80))
theorem chX4_become_0 : chB cX4_become 0 (kX4_become.take 40) = true := by decide +kernel
theorem chX4_become_40 : chB cX4_become 76 (kX4_become.drop 40) = true := by decide +kernel
theorem chX4_become : chB cX4_become 0 kX4_become = true := chB_at 40 chX4_become_0 (by decide +kernel) (chX4_become_40)
theorem chX5_feed : chB cX5_feed 0 kX5_feed = true := by decide +kernel
theorem chX5_setting : chB cX5_setting 0 kX5_setting = true := by decide +kernel
theorem chX5_singer : chB cX5_singer 0 kX5_singer = true := by decide +kernel
theorem chX5_of_0 : chB cX5_of 0 (kX5_of.take 40) = true := by decide +kernel
theorem chX5_of_40 : chB cX5_of 114 ((kX5_of.drop 40).take 40) = true := by decide +kernel
theorem chX5_of_80 : chB cX5_of 187 ((kX5_of.drop 40).drop 40) = true := by decide +kernel
theorem chX5_of : chB cX5_of 0 kX5_of = true := chB_at 40 chX5_of_0 (by decide +kernel) (chB_at 40 chX5_of_40 (by decide +kernel) (chX5_of_80))
theorem chX5_row : chB cX5_row 0 kX5_row = true := by decide +kernel
theorem chX5_sing : chB cX5_sing 0 kX5_sing = true := by decide +kernel
theorem chX5_tire : chB cX5_tire 0 kX5_tire = true := by decide +kernel
theorem chX5_stone : chB cX5_stone 0 kX5_stone = true := by decide +kernel
theorem chX5_at : chB cX5_at 0 kX5_at = true := by decide +kernel
theorem chX5_prop : chB cX5_prop 0 kX5_prop = true := by decide +kernel
theorem chX5_told : chB cX5_told 0 kX5_told = true := by decide +kernel
theorem chX5_beat : chB cX5_beat 0 kX5_beat = true := by decide +kernel
theorem chX5_on_0 : chB cX5_on 0 (kX5_on.take 40) = true := by decide +kernel
theorem chX5_on_40 : chB cX5_on 72 (kX5_on.drop 40) = true := by decide +kernel
theorem chX5_on : chB cX5_on 0 kX5_on = true := chB_at 40 chX5_on_0 (by decide +kernel) (chX5_on_40)
theorem chX5_steady : chB cX5_steady 0 kX5_steady = true := by decide +kernel
theorem chX5_best : chB cX5_best 0 kX5_best = true := by decide +kernel
theorem chX5_chord : chB cX5_chord 0 kX5_chord = true := by decide +kernel
theorem chX5_needed : chB cX5_needed 0 kX5_needed = true := by decide +kernel
theorem chX5_spare : chB cX5_spare 0 kX5_spare = true := by decide +kernel
theorem chX5_shift : chB cX5_shift 0 kX5_shift = true := by decide +kernel
theorem chX5_ill_0 : chB cX5_ill 0 (kX5_ill.take 40) = true := by decide +kernel
theorem chX5_ill_40 : chB cX5_ill 73 ((kX5_ill.drop 40).take 40) = true := by decide +kernel
theorem chX5_ill_80 : chB cX5_ill 150 ((kX5_ill.drop 40).drop 40) = true := by decide +kernel
theorem chX5_ill : chB cX5_ill 0 kX5_ill = true := chB_at 40 chX5_ill_0 (by decide +kernel) (chB_at 40 chX5_ill_40 (by decide +kernel) (chX5_ill_80))
theorem chX5_canon : chB cX5_canon 0 kX5_canon = true := by decide +kernel
theorem chX5_props : chB cX5_props 0 kX5_props = true := by decide +kernel
theorem chX5_critical_0 : chB cX5_critical 0 (kX5_critical.take 40) = true := by decide +kernel
theorem chX5_critical_40 : chB cX5_critical 73 ((kX5_critical.drop 40).take 40) = true := by decide +kernel
theorem chX5_critical_80 : chB cX5_critical 150 ((kX5_critical.drop 40).drop 40) = true := by decide +kernel
theorem chX5_critical : chB cX5_critical 0 kX5_critical = true := chB_at 40 chX5_critical_0 (by decide +kernel) (chB_at 40 chX5_critical_40 (by decide +kernel) (chX5_critical_80))
theorem chX5_load : chB cX5_load 0 kX5_load = true := by decide +kernel
theorem chX5_dust : chB cX5_dust 0 kX5_dust = true := by decide +kernel
theorem chX5_flat : chB cX5_flat 0 kX5_flat = true := by decide +kernel
theorem chX5_order_0 : chB cX5_order 0 (kX5_order.take 40) = true := by decide +kernel
theorem chX5_order_40 : chB cX5_order 71 (kX5_order.drop 40) = true := by decide +kernel
theorem chX5_order : chB cX5_order 0 kX5_order = true := chB_at 40 chX5_order_0 (by decide +kernel) (chX5_order_40)
theorem chX5_odds : chB cX5_odds 0 kX5_odds = true := by decide +kernel
theorem chX5_mean : chB cX5_mean 0 kX5_mean = true := by decide +kernel
theorem chX5_wage_0 : chB cX5_wage 0 (kX5_wage.take 40) = true := by decide +kernel
theorem chX5_wage_40 : chB cX5_wage 67 (kX5_wage.drop 40) = true := by decide +kernel
theorem chX5_wage : chB cX5_wage 0 kX5_wage = true := chB_at 40 chX5_wage_0 (by decide +kernel) (chX5_wage_40)
theorem chX5_plan_0 : chB cX5_plan 0 (kX5_plan.take 40) = true := by decide +kernel
theorem chX5_plan_40 : chB cX5_plan 74 (kX5_plan.drop 40) = true := by decide +kernel
theorem chX5_plan : chB cX5_plan 0 kX5_plan = true := chB_at 40 chX5_plan_0 (by decide +kernel) (chX5_plan_40)
theorem chX5_planned_0 : chB cX5_planned 0 (kX5_planned.take 40) = true := by decide +kernel
theorem chX5_planned_40 : chB cX5_planned 73 (kX5_planned.drop 40) = true := by decide +kernel
theorem chX5_planned : chB cX5_planned 0 kX5_planned = true := chB_at 40 chX5_planned_0 (by decide +kernel) (chX5_planned_40)
theorem chX5_book_0 : chB cX5_book 0 (kX5_book.take 40) = true := by decide +kernel
theorem chX5_book_40 : chB cX5_book 77 (kX5_book.drop 40) = true := by decide +kernel
theorem chX5_book : chB cX5_book 0 kX5_book = true := chB_at 40 chX5_book_0 (by decide +kernel) (chX5_book_40)
theorem chX5_looked : chB cX5_looked 0 kX5_looked = true := by decide +kernel
theorem chX5_act : chB cX5_act 0 kX5_act = true := by decide +kernel
theorem chX5_trace : chB cX5_trace 0 kX5_trace = true := by decide +kernel
theorem chX5_as : chB cX5_as 0 kX5_as = true := by decide +kernel
theorem chX5_image : chB cX5_image 0 kX5_image = true := by decide +kernel
theorem chX5_undo : chB cX5_undo 0 kX5_undo = true := by decide +kernel
theorem chX5_count : chB cX5_count 0 kX5_count = true := by decide +kernel
theorem chX5_isSinger : chB cX5_isSinger 0 kX5_isSinger = true := by decide +kernel
theorem chX5_isStone : chB cX5_isStone 0 kX5_isStone = true := by decide +kernel
theorem chX5_hasBit : chB cX5_hasBit 0 kX5_hasBit = true := by decide +kernel
theorem chX5_bestNote : chB cX5_bestNote 0 kX5_bestNote = true := by decide +kernel
theorem chX5_measureChords : chB cX5_measureChords 0 kX5_measureChords = true := by decide +kernel
theorem chX5_chordNote : chB cX5_chordNote 0 kX5_chordNote = true := by decide +kernel
theorem chX5_bestChord : chB cX5_bestChord 0 kX5_bestChord = true := by decide +kernel
theorem chX5_singChord : chB cX5_singChord 0 kX5_singChord = true := by decide +kernel
theorem chX5_looseOf : chB cX5_looseOf 0 kX5_looseOf = true := by decide +kernel
theorem chX5_spareBits : chB cX5_spareBits 0 kX5_spareBits = true := by decide +kernel
theorem chX5_setShift : chB cX5_setShift 0 kX5_setShift = true := by decide +kernel
theorem chX5_isDustBy_0 : chB cX5_isDustBy 0 (kX5_isDustBy.take 40) = true := by decide +kernel
theorem chX5_isDustBy_40 : chB cX5_isDustBy 76 (kX5_isDustBy.drop 40) = true := by decide +kernel
theorem chX5_isDustBy : chB cX5_isDustBy 0 kX5_isDustBy = true := chB_at 40 chX5_isDustBy_0 (by decide +kernel) (chX5_isDustBy_40)
theorem chX5_sortHanging_0 : chB cX5_sortHanging 0 (kX5_sortHanging.take 40) = true := by decide +kernel
theorem chX5_sortHanging_40 : chB cX5_sortHanging 70 (kX5_sortHanging.drop 40) = true := by decide +kernel
theorem chX5_sortHanging : chB cX5_sortHanging 0 kX5_sortHanging = true := chB_at 40 chX5_sortHanging_0 (by decide +kernel) (chX5_sortHanging_40)
theorem chX5_inLowestTerms : chB cX5_inLowestTerms 0 kX5_inLowestTerms = true := by decide +kernel
theorem chX5_commonDivisor : chB cX5_commonDivisor 0 kX5_commonDivisor = true := by decide +kernel
theorem chX6_in : chB cX6_in 0 kX6_in = true := by decide +kernel
theorem chX6_isSinger : chB cX6_isSinger 0 kX6_isSinger = true := by decide +kernel
theorem chX6_isStone : chB cX6_isStone 0 kX6_isStone = true := by decide +kernel
theorem chX6_doesSing : chB cX6_doesSing 0 kX6_doesSing = true := by decide +kernel
theorem chX6_keeps : chB cX6_keeps 0 kX6_keeps = true := by decide +kernel
theorem chX6_goesBack : chB cX6_goesBack 0 kX6_goesBack = true := by decide +kernel
theorem chX6_feed : chB cX6_feed 0 kX6_feed = true := by decide +kernel
theorem chX6_here : chB cX6_here 0 kX6_here = true := by decide +kernel
theorem chX6_must : chB cX6_must 0 kX6_must = true := by decide +kernel
theorem chX6_spells : chB cX6_spells 0 kX6_spells = true := by decide +kernel
theorem chX6_figures : chB cX6_figures 0 kX6_figures = true := by decide +kernel
theorem chX6_among : chB cX6_among 0 kX6_among = true := by decide +kernel
theorem chX6_emits : chB cX6_emits 0 kX6_emits = true := by decide +kernel
theorem chX6_factor_0 : chB cX6_factor 0 (kX6_factor.take 40) = true := by decide +kernel
theorem chX6_factor_40 : chB cX6_factor 74 ((kX6_factor.drop 40).take 40) = true := by decide +kernel
theorem chX6_factor_80 : chB cX6_factor 150 ((kX6_factor.drop 40).drop 40) = true := by decide +kernel
theorem chX6_factor : chB cX6_factor 0 kX6_factor = true := chB_at 40 chX6_factor_0 (by decide +kernel) (chB_at 40 chX6_factor_40 (by decide +kernel) (chX6_factor_80))
theorem chX6_every : chB cX6_every 0 kX6_every = true := by decide +kernel
theorem chX6_some : chB cX6_some 0 kX6_some = true := by decide +kernel
theorem chX6_much : chB cX6_much 0 kX6_much = true := by decide +kernel
theorem chX6_tellsHere : chB cX6_tellsHere 0 kX6_tellsHere = true := by decide +kernel
theorem chX6_clauseHere : chB cX6_clauseHere 0 kX6_clauseHere = true := by decide +kernel
theorem chX6_setting_0 : chB cX6_setting 0 (kX6_setting.take 40) = true := by decide +kernel
theorem chX6_setting_40 : chB cX6_setting 71 ((kX6_setting.drop 40).take 40) = true := by decide +kernel
theorem chX6_setting_80 : chB cX6_setting 143 ((kX6_setting.drop 40).drop 40) = true := by decide +kernel
theorem chX6_setting : chB cX6_setting 0 kX6_setting = true := chB_at 40 chX6_setting_0 (by decide +kernel) (chB_at 40 chX6_setting_40 (by decide +kernel) (chX6_setting_80))
theorem chX6_tellsOf : chB cX6_tellsOf 0 kX6_tellsOf = true := by decide +kernel
theorem chX6_looks_0 : chB cX6_looks 0 (kX6_looks.take 40) = true := by decide +kernel
theorem chX6_looks_40 : chB cX6_looks 60 ((kX6_looks.drop 40).take 40) = true := by decide +kernel
theorem chX6_looks_80 : chB cX6_looks 124 (((kX6_looks.drop 40).drop 40).take 40) = true := by decide +kernel
theorem chX6_looks_120 : chB cX6_looks 199 ((((kX6_looks.drop 40).drop 40).drop 40).take 40) = true := by decide +kernel
theorem chX6_looks_160 : chB cX6_looks 278 (((((kX6_looks.drop 40).drop 40).drop 40).drop 40).take 40) = true := by decide +kernel
theorem chX6_looks_200 : chB cX6_looks 353 (((((kX6_looks.drop 40).drop 40).drop 40).drop 40).drop 40) = true := by decide +kernel
theorem chX6_looks : chB cX6_looks 0 kX6_looks = true := chB_at 40 chX6_looks_0 (by decide +kernel) (chB_at 40 chX6_looks_40 (by decide +kernel) (chB_at 40 chX6_looks_80 (by decide +kernel) (chB_at 40 chX6_looks_120 (by decide +kernel) (chB_at 40 chX6_looks_160 (by decide +kernel) (chX6_looks_200)))))
theorem chX6_strengthOf_0 : chB cX6_strengthOf 0 (kX6_strengthOf.take 40) = true := by decide +kernel
theorem chX6_strengthOf_40 : chB cX6_strengthOf 97 ((kX6_strengthOf.drop 40).take 40) = true := by decide +kernel
theorem chX6_strengthOf_80 : chB cX6_strengthOf 155 ((kX6_strengthOf.drop 40).drop 40) = true := by decide +kernel
theorem chX6_strengthOf : chB cX6_strengthOf 0 kX6_strengthOf = true := chB_at 40 chX6_strengthOf_0 (by decide +kernel) (chB_at 40 chX6_strengthOf_40 (by decide +kernel) (chX6_strengthOf_80))
theorem chX6_forceOf : chB cX6_forceOf 0 kX6_forceOf = true := by decide +kernel
theorem chX6_isTune : chB cX6_isTune 0 kX6_isTune = true := by decide +kernel
theorem chX6_looksForForces : chB cX6_looksForForces 0 kX6_looksForForces = true := by decide +kernel
theorem chX6_isOf : chB cX6_isOf 0 kX6_isOf = true := by decide +kernel
theorem chX6_tunesOf : chB cX6_tunesOf 0 kX6_tunesOf = true := by decide +kernel
theorem chX6_bearsOf : chB cX6_bearsOf 0 kX6_bearsOf = true := by decide +kernel
theorem chX6_allBy : chB cX6_allBy 0 kX6_allBy = true := by decide +kernel
theorem chX6_singing : chB cX6_singing 0 kX6_singing = true := by decide +kernel
theorem chX6_allNow : chB cX6_allNow 0 kX6_allNow = true := by decide +kernel
theorem chX6_doesHang : chB cX6_doesHang 0 kX6_doesHang = true := by decide +kernel
theorem chX6_looseBy : chB cX6_looseBy 0 kX6_looseBy = true := by decide +kernel
theorem chX6_fallenMany : chB cX6_fallenMany 0 kX6_fallenMany = true := by decide +kernel
theorem chX6_sizeOf : chB cX6_sizeOf 0 kX6_sizeOf = true := by decide +kernel
theorem chX6_hangingWeight : chB cX6_hangingWeight 0 kX6_hangingWeight = true := by decide +kernel
theorem chX6_singer_0 : chB cX6_singer 0 (kX6_singer.take 40) = true := by decide +kernel
theorem chX6_singer_40 : chB cX6_singer 71 ((kX6_singer.drop 40).take 40) = true := by decide +kernel
theorem chX6_singer_80 : chB cX6_singer 135 ((kX6_singer.drop 40).drop 40) = true := by decide +kernel
theorem chX6_singer : chB cX6_singer 0 kX6_singer = true := chB_at 40 chX6_singer_0 (by decide +kernel) (chB_at 40 chX6_singer_40 (by decide +kernel) (chX6_singer_80))
theorem chX6_highOf : chB cX6_highOf 0 kX6_highOf = true := by decide +kernel
theorem chX6_canSing : chB cX6_canSing 0 kX6_canSing = true := by decide +kernel
theorem chX6_of_0 : chB cX6_of 0 (kX6_of.take 40) = true := by decide +kernel
theorem chX6_of_40 : chB cX6_of 106 (kX6_of.drop 40) = true := by decide +kernel
theorem chX6_of : chB cX6_of 0 kX6_of = true := chB_at 40 chX6_of_0 (by decide +kernel) (chX6_of_40)
theorem chX6_row : chB cX6_row 0 kX6_row = true := by decide +kernel
theorem chX6_sing : chB cX6_sing 0 kX6_sing = true := by decide +kernel
theorem chX6_tire : chB cX6_tire 0 kX6_tire = true := by decide +kernel
theorem chX6_stone : chB cX6_stone 0 kX6_stone = true := by decide +kernel
theorem chX6_at : chB cX6_at 0 kX6_at = true := by decide +kernel
theorem chX6_prop : chB cX6_prop 0 kX6_prop = true := by decide +kernel
theorem chX6_told : chB cX6_told 0 kX6_told = true := by decide +kernel
theorem chX6_goesBy_0 : chB cX6_goesBy 0 (kX6_goesBy.take 40) = true := by decide +kernel
theorem chX6_goesBy_40 : chB cX6_goesBy 63 ((kX6_goesBy.drop 40).take 40) = true := by decide +kernel
theorem chX6_goesBy_80 : chB cX6_goesBy 139 ((kX6_goesBy.drop 40).drop 40) = true := by decide +kernel
theorem chX6_goesBy : chB cX6_goesBy 0 kX6_goesBy = true := chB_at 40 chX6_goesBy_0 (by decide +kernel) (chB_at 40 chX6_goesBy_40 (by decide +kernel) (chX6_goesBy_80))
theorem chX6_goes : chB cX6_goes 0 kX6_goes = true := by decide +kernel
theorem chX6_beat : chB cX6_beat 0 kX6_beat = true := by decide +kernel
theorem chX6_on_0 : chB cX6_on 0 (kX6_on.take 40) = true := by decide +kernel
theorem chX6_on_40 : chB cX6_on 74 (kX6_on.drop 40) = true := by decide +kernel
theorem chX6_on : chB cX6_on 0 kX6_on = true := chB_at 40 chX6_on_0 (by decide +kernel) (chX6_on_40)
theorem chX6_steady : chB cX6_steady 0 kX6_steady = true := by decide +kernel
theorem chX6_looksForNote_0 : chB cX6_looksForNote 0 (kX6_looksForNote.take 40) = true := by decide +kernel
theorem chX6_looksForNote_40 : chB cX6_looksForNote 63 (kX6_looksForNote.drop 40) = true := by decide +kernel
theorem chX6_looksForNote : chB cX6_looksForNote 0 kX6_looksForNote = true := chB_at 40 chX6_looksForNote_0 (by decide +kernel) (chX6_looksForNote_40)
theorem chX6_best : chB cX6_best 0 kX6_best = true := by decide +kernel
theorem chX6_noteAbove : chB cX6_noteAbove 0 kX6_noteAbove = true := by decide +kernel
theorem chX6_chordsFrom_0 : chB cX6_chordsFrom 0 (kX6_chordsFrom.take 40) = true := by decide +kernel
theorem chX6_chordsFrom_40 : chB cX6_chordsFrom 66 (kX6_chordsFrom.drop 40) = true := by decide +kernel
theorem chX6_chordsFrom : chB cX6_chordsFrom 0 kX6_chordsFrom = true := chB_at 40 chX6_chordsFrom_0 (by decide +kernel) (chX6_chordsFrom_40)
theorem chX6_chord_0 : chB cX6_chord 0 (kX6_chord.take 40) = true := by decide +kernel
theorem chX6_chord_40 : chB cX6_chord 63 ((kX6_chord.drop 40).take 40) = true := by decide +kernel
theorem chX6_chord_80 : chB cX6_chord 136 ((kX6_chord.drop 40).drop 40) = true := by decide +kernel
theorem chX6_chord : chB cX6_chord 0 kX6_chord = true := chB_at 40 chX6_chord_0 (by decide +kernel) (chB_at 40 chX6_chord_40 (by decide +kernel) (chX6_chord_80))
theorem chX6_needed : chB cX6_needed 0 kX6_needed = true := by decide +kernel
theorem chX6_looseMany : chB cX6_looseMany 0 kX6_looseMany = true := by decide +kernel
theorem chX6_spare : chB cX6_spare 0 kX6_spare = true := by decide +kernel
theorem chX6_fewestOf : chB cX6_fewestOf 0 kX6_fewestOf = true := by decide +kernel
theorem chX6_shift_0 : chB cX6_shift 0 (kX6_shift.take 40) = true := by decide +kernel
theorem chX6_shift_40 : chB cX6_shift 71 (kX6_shift.drop 40) = true := by decide +kernel
theorem chX6_shift : chB cX6_shift 0 kX6_shift = true := chB_at 40 chX6_shift_0 (by decide +kernel) (chX6_shift_40)
theorem chX6_ill_0 : chB cX6_ill 0 (kX6_ill.take 40) = true := by decide +kernel
theorem chX6_ill_40 : chB cX6_ill 63 ((kX6_ill.drop 40).take 40) = true := by decide +kernel
theorem chX6_ill_80 : chB cX6_ill 140 ((kX6_ill.drop 40).drop 40) = true := by decide +kernel
theorem chX6_ill : chB cX6_ill 0 kX6_ill = true := chB_at 40 chX6_ill_0 (by decide +kernel) (chB_at 40 chX6_ill_40 (by decide +kernel) (chX6_ill_80))
theorem chX6_goesRound : chB cX6_goesRound 0 kX6_goesRound = true := by decide +kernel
theorem chX6_canon : chB cX6_canon 0 kX6_canon = true := by decide +kernel
theorem chX6_weightOf : chB cX6_weightOf 0 kX6_weightOf = true := by decide +kernel
theorem chX6_props : chB cX6_props 0 kX6_props = true := by decide +kernel
theorem chX6_critical_0 : chB cX6_critical 0 (kX6_critical.take 40) = true := by decide +kernel
theorem chX6_critical_40 : chB cX6_critical 68 ((kX6_critical.drop 40).take 40) = true := by decide +kernel
theorem chX6_critical_80 : chB cX6_critical 132 ((kX6_critical.drop 40).drop 40) = true := by decide +kernel
theorem chX6_critical : chB cX6_critical 0 kX6_critical = true := chB_at 40 chX6_critical_0 (by decide +kernel) (chB_at 40 chX6_critical_40 (by decide +kernel) (chX6_critical_80))
theorem chX6_load : chB cX6_load 0 kX6_load = true := by decide +kernel
theorem chX6_dust_0 : chB cX6_dust 0 (kX6_dust.take 40) = true := by decide +kernel
theorem chX6_dust_40 : chB cX6_dust 69 (kX6_dust.drop 40) = true := by decide +kernel
theorem chX6_dust : chB cX6_dust 0 kX6_dust = true := chB_at 40 chX6_dust_0 (by decide +kernel) (chX6_dust_40)
theorem chX6_isDust : chB cX6_isDust 0 kX6_isDust = true := by decide +kernel
theorem chX6_isFlat : chB cX6_isFlat 0 kX6_isFlat = true := by decide +kernel
theorem chX6_flat : chB cX6_flat 0 kX6_flat = true := by decide +kernel
theorem chX6_lightest_0 : chB cX6_lightest 0 (kX6_lightest.take 40) = true := by decide +kernel
theorem chX6_lightest_40 : chB cX6_lightest 70 (kX6_lightest.drop 40) = true := by decide +kernel
theorem chX6_lightest : chB cX6_lightest 0 kX6_lightest = true := chB_at 40 chX6_lightest_0 (by decide +kernel) (chX6_lightest_40)
theorem chX6_order : chB cX6_order 0 kX6_order = true := by decide +kernel
theorem chX6_lowest : chB cX6_lowest 0 kX6_lowest = true := by decide +kernel
theorem chX6_odds : chB cX6_odds 0 kX6_odds = true := by decide +kernel
theorem chX6_mean : chB cX6_mean 0 kX6_mean = true := by decide +kernel
theorem chX6_wage_0 : chB cX6_wage 0 (kX6_wage.take 40) = true := by decide +kernel
theorem chX6_wage_40 : chB cX6_wage 66 (kX6_wage.drop 40) = true := by decide +kernel
theorem chX6_wage : chB cX6_wage 0 kX6_wage = true := chB_at 40 chX6_wage_0 (by decide +kernel) (chX6_wage_40)
theorem chX6_plan_0 : chB cX6_plan 0 (kX6_plan.take 40) = true := by decide +kernel
theorem chX6_plan_40 : chB cX6_plan 68 (kX6_plan.drop 40) = true := by decide +kernel
theorem chX6_plan : chB cX6_plan 0 kX6_plan = true := chB_at 40 chX6_plan_0 (by decide +kernel) (chX6_plan_40)
theorem chX6_planned_0 : chB cX6_planned 0 (kX6_planned.take 40) = true := by decide +kernel
theorem chX6_planned_40 : chB cX6_planned 63 (kX6_planned.drop 40) = true := by decide +kernel
theorem chX6_planned : chB cX6_planned 0 kX6_planned = true := chB_at 40 chX6_planned_0 (by decide +kernel) (chX6_planned_40)
theorem chX6_book_0 : chB cX6_book 0 (kX6_book.take 40) = true := by decide +kernel
theorem chX6_book_40 : chB cX6_book 69 (kX6_book.drop 40) = true := by decide +kernel
theorem chX6_book : chB cX6_book 0 kX6_book = true := chB_at 40 chX6_book_0 (by decide +kernel) (chX6_book_40)
theorem chX6_looked : chB cX6_looked 0 kX6_looked = true := by decide +kernel
theorem chX6_ranBody : chB cX6_ranBody 0 kX6_ranBody = true := by decide +kernel
theorem chX6_isUnder : chB cX6_isUnder 0 kX6_isUnder = true := by decide +kernel
theorem chX6_plainSings : chB cX6_plainSings 0 kX6_plainSings = true := by decide +kernel
theorem chX6_singsActs : chB cX6_singsActs 0 kX6_singsActs = true := by decide +kernel
theorem chX6_plainBears : chB cX6_plainBears 0 kX6_plainBears = true := by decide +kernel
theorem chX6_bearsActs : chB cX6_bearsActs 0 kX6_bearsActs = true := by decide +kernel
theorem chX6_plainTells : chB cX6_plainTells 0 kX6_plainTells = true := by decide +kernel
theorem chX6_tellsActs : chB cX6_tellsActs 0 kX6_tellsActs = true := by decide +kernel
theorem chX6_act : chB cX6_act 0 kX6_act = true := by decide +kernel
theorem chX6_trace : chB cX6_trace 0 kX6_trace = true := by decide +kernel
theorem chX6_as : chB cX6_as 0 kX6_as = true := by decide +kernel
theorem chX6_image : chB cX6_image 0 kX6_image = true := by decide +kernel
theorem chX6_undo : chB cX6_undo 0 kX6_undo = true := by decide +kernel
theorem chX6_count : chB cX6_count 0 kX6_count = true := by decide +kernel
theorem chL_law_0 : chB cL_law 0 (kL_law.take 40) = true := by decide +kernel
theorem chL_law_40 : chB cL_law 232 ((kL_law.drop 40).take 40) = true := by decide +kernel
theorem chL_law_80 : chB cL_law 282 (((kL_law.drop 40).drop 40).take 40) = true := by decide +kernel
theorem chL_law_120 : chB cL_law 330 ((((kL_law.drop 40).drop 40).drop 40).take 40) = true := by decide +kernel
theorem chL_law_160 : chB cL_law 378 (((((kL_law.drop 40).drop 40).drop 40).drop 40).take 40) = true := by decide +kernel
theorem chL_law_200 : chB cL_law 428 ((((((kL_law.drop 40).drop 40).drop 40).drop 40).drop 40).take 40) = true := by decide +kernel
theorem chL_law_240 : chB cL_law 476 (((((((kL_law.drop 40).drop 40).drop 40).drop 40).drop 40).drop 40).take 40) = true := by decide +kernel
theorem chL_law_280 : chB cL_law 534 ((((((((kL_law.drop 40).drop 40).drop 40).drop 40).drop 40).drop 40).drop 40).take 40) = true := by decide +kernel
theorem chL_law_320 : chB cL_law 588 (((((((((kL_law.drop 40).drop 40).drop 40).drop 40).drop 40).drop 40).drop 40).drop 40).take 40) = true := by decide +kernel
theorem chL_law_360 : chB cL_law 640 ((((((((((kL_law.drop 40).drop 40).drop 40).drop 40).drop 40).drop 40).drop 40).drop 40).drop 40).take 40) = true := by decide +kernel
theorem chL_law_400 : chB cL_law 702 (((((((((((kL_law.drop 40).drop 40).drop 40).drop 40).drop 40).drop 40).drop 40).drop 40).drop 40).drop 40).take 40) = true := by decide +kernel
theorem chL_law_440 : chB cL_law 754 ((((((((((((kL_law.drop 40).drop 40).drop 40).drop 40).drop 40).drop 40).drop 40).drop 40).drop 40).drop 40).drop 40).take 40) = true := by decide +kernel
theorem chL_law_480 : chB cL_law 802 (((((((((((((kL_law.drop 40).drop 40).drop 40).drop 40).drop 40).drop 40).drop 40).drop 40).drop 40).drop 40).drop 40).drop 40).take 40) = true := by decide +kernel
theorem chL_law_520 : chB cL_law 860 ((((((((((((((kL_law.drop 40).drop 40).drop 40).drop 40).drop 40).drop 40).drop 40).drop 40).drop 40).drop 40).drop 40).drop 40).drop 40).take 40) = true := by decide +kernel
theorem chL_law_560 : chB cL_law 916 (((((((((((((((kL_law.drop 40).drop 40).drop 40).drop 40).drop 40).drop 40).drop 40).drop 40).drop 40).drop 40).drop 40).drop 40).drop 40).drop 40).take 40) = true := by decide +kernel
theorem chL_law_600 : chB cL_law 964 ((((((((((((((((kL_law.drop 40).drop 40).drop 40).drop 40).drop 40).drop 40).drop 40).drop 40).drop 40).drop 40).drop 40).drop 40).drop 40).drop 40).drop 40).take 40) = true := by decide +kernel
theorem chL_law_640 : chB cL_law 1014 (((((((((((((((((kL_law.drop 40).drop 40).drop 40).drop 40).drop 40).drop 40).drop 40).drop 40).drop 40).drop 40).drop 40).drop 40).drop 40).drop 40).drop 40).drop 40).take 40) = true := by decide +kernel
theorem chL_law_680 : chB cL_law 1066 ((((((((((((((((((kL_law.drop 40).drop 40).drop 40).drop 40).drop 40).drop 40).drop 40).drop 40).drop 40).drop 40).drop 40).drop 40).drop 40).drop 40).drop 40).drop 40).drop 40).take 40) = true := by decide +kernel
theorem chL_law_720 : chB cL_law 1118 (((((((((((((((((((kL_law.drop 40).drop 40).drop 40).drop 40).drop 40).drop 40).drop 40).drop 40).drop 40).drop 40).drop 40).drop 40).drop 40).drop 40).drop 40).drop 40).drop 40).drop 40).take 40) = true := by decide +kernel
theorem chL_law_760 : chB cL_law 1166 ((((((((((((((((((((kL_law.drop 40).drop 40).drop 40).drop 40).drop 40).drop 40).drop 40).drop 40).drop 40).drop 40).drop 40).drop 40).drop 40).drop 40).drop 40).drop 40).drop 40).drop 40).drop 40).take 40) = true := by decide +kernel
theorem chL_law_800 : chB cL_law 1222 ((((((((((((((((((((kL_law.drop 40).drop 40).drop 40).drop 40).drop 40).drop 40).drop 40).drop 40).drop 40).drop 40).drop 40).drop 40).drop 40).drop 40).drop 40).drop 40).drop 40).drop 40).drop 40).drop 40) = true := by decide +kernel
theorem chL_law : chB cL_law 0 kL_law = true := chB_at 40 chL_law_0 (by decide +kernel) (chB_at 40 chL_law_40 (by decide +kernel) (chB_at 40 chL_law_80 (by decide +kernel) (chB_at 40 chL_law_120 (by decide +kernel) (chB_at 40 chL_law_160 (by decide +kernel) (chB_at 40 chL_law_200 (by decide +kernel) (chB_at 40 chL_law_240 (by decide +kernel) (chB_at 40 chL_law_280 (by decide +kernel) (chB_at 40 chL_law_320 (by decide +kernel) (chB_at 40 chL_law_360 (by decide +kernel) (chB_at 40 chL_law_400 (by decide +kernel) (chB_at 40 chL_law_440 (by decide +kernel) (chB_at 40 chL_law_480 (by decide +kernel) (chB_at 40 chL_law_520 (by decide +kernel) (chB_at 40 chL_law_560 (by decide +kernel) (chB_at 40 chL_law_600 (by decide +kernel) (chB_at 40 chL_law_640 (by decide +kernel) (chB_at 40 chL_law_680 (by decide +kernel) (chB_at 40 chL_law_720 (by decide +kernel) (chB_at 40 chL_law_760 (by decide +kernel) (chL_law_800))))))))))))))))))))
