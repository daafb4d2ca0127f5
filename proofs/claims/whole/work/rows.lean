section
-- ===== PART A: goes FIRST, ahead of the names: the tables' words, and 'selects' of the private methods out of them =====
/-- a private method of a class that the tables say can be made, by its rows of tables_1 -/
def lw_okq (q : MethodName × Nat) : Prop := (q.1.cls ≠ "java/lang/invoke/MethodHandle" ∧ q.1.cls ≠ "java/lang/invoke/VarHandle") ∧ Cond.instantiable q.1.cls q.2 ∈ tables_1 ∧ Cond.privateMethod q.1 ∈ tables_1 ∧ Cond.instanceMethod q.1 ∈ tables_1
theorem lw_p0 : lw_okq (⟨"ChoirRoof$Setting", "clear", "()V"⟩, 9) := ⟨⟨by decide +kernel, by decide +kernel⟩, List.mem_of_getElem? (i := 128) (by decide +kernel), List.mem_of_getElem? (i := 134) (by decide +kernel), List.mem_of_getElem? (i := 135) (by decide +kernel)⟩
theorem lw_p1 : lw_okq (⟨"ChoirRoof$Reader", "readClause", "()Z"⟩, 4) := ⟨⟨by decide +kernel, by decide +kernel⟩, List.mem_of_getElem? (i := 27) (by decide +kernel), List.mem_of_getElem? (i := 287) (by decide +kernel), List.mem_of_getElem? (i := 288) (by decide +kernel)⟩
theorem lw_p2 : lw_okq (⟨"ChoirRoof$Reader", "peek", "()I"⟩, 4) := ⟨⟨by decide +kernel, by decide +kernel⟩, List.mem_of_getElem? (i := 27) (by decide +kernel), List.mem_of_getElem? (i := 291) (by decide +kernel), List.mem_of_getElem? (i := 292) (by decide +kernel)⟩
theorem lw_p3 : lw_okq (⟨"ChoirRoof$Reader", "readWord", "(Ljava/lang/String;)Z"⟩, 4) := ⟨⟨by decide +kernel, by decide +kernel⟩, List.mem_of_getElem? (i := 27) (by decide +kernel), List.mem_of_getElem? (i := 296) (by decide +kernel), List.mem_of_getElem? (i := 297) (by decide +kernel)⟩
theorem lw_p4 : lw_okq (⟨"ChoirRoof$Reader", "take", "(C)Z"⟩, 4) := ⟨⟨by decide +kernel, by decide +kernel⟩, List.mem_of_getElem? (i := 27) (by decide +kernel), List.mem_of_getElem? (i := 348) (by decide +kernel), List.mem_of_getElem? (i := 349) (by decide +kernel)⟩
theorem lw_p5 : lw_okq (⟨"ChoirRoof$Reader", "readRest", "(I)Z"⟩, 4) := ⟨⟨by decide +kernel, by decide +kernel⟩, List.mem_of_getElem? (i := 27) (by decide +kernel), List.mem_of_getElem? (i := 352) (by decide +kernel), List.mem_of_getElem? (i := 353) (by decide +kernel)⟩
theorem lw_p6 : lw_okq (⟨"ChoirRoof$Reader", "readNumber", "()I"⟩, 4) := ⟨⟨by decide +kernel, by decide +kernel⟩, List.mem_of_getElem? (i := 27) (by decide +kernel), List.mem_of_getElem? (i := 356) (by decide +kernel), List.mem_of_getElem? (i := 357) (by decide +kernel)⟩
theorem lw_p7 : lw_okq (⟨"ChoirRoof$Reader", "readEither", "(I)Z"⟩, 4) := ⟨⟨by decide +kernel, by decide +kernel⟩, List.mem_of_getElem? (i := 27) (by decide +kernel), List.mem_of_getElem? (i := 360) (by decide +kernel), List.mem_of_getElem? (i := 361) (by decide +kernel)⟩
theorem lw_p8 : lw_okq (⟨"ChoirRoof$Reader", "readBoth", "(I)Z"⟩, 4) := ⟨⟨by decide +kernel, by decide +kernel⟩, List.mem_of_getElem? (i := 27) (by decide +kernel), List.mem_of_getElem? (i := 364) (by decide +kernel), List.mem_of_getElem? (i := 365) (by decide +kernel)⟩
theorem lw_p9 : lw_okq (⟨"ChoirRoof$Reader", "readFactor", "(I)Z"⟩, 4) := ⟨⟨by decide +kernel, by decide +kernel⟩, List.mem_of_getElem? (i := 27) (by decide +kernel), List.mem_of_getElem? (i := 368) (by decide +kernel), List.mem_of_getElem? (i := 369) (by decide +kernel)⟩
theorem lw_p10 : lw_okq (⟨"ChoirRoof$Reader", "readTest", "()Z"⟩, 4) := ⟨⟨by decide +kernel, by decide +kernel⟩, List.mem_of_getElem? (i := 27) (by decide +kernel), List.mem_of_getElem? (i := 372) (by decide +kernel), List.mem_of_getElem? (i := 373) (by decide +kernel)⟩
theorem lw_p11 : lw_okq (⟨"ChoirRoof$Reader", "indexOfNext", "(Ljava/lang/String;)I"⟩, 4) := ⟨⟨by decide +kernel, by decide +kernel⟩, List.mem_of_getElem? (i := 27) (by decide +kernel), List.mem_of_getElem? (i := 377) (by decide +kernel), List.mem_of_getElem? (i := 378) (by decide +kernel)⟩
theorem lw_p12 : lw_okq (⟨"ChoirRoof", "isSinger", "(I)Z"⟩, 11) := ⟨⟨by decide +kernel, by decide +kernel⟩, List.mem_of_getElem? (i := 17) (by decide +kernel), List.mem_of_getElem? (i := 463) (by decide +kernel), List.mem_of_getElem? (i := 464) (by decide +kernel)⟩
theorem lw_p13 : lw_okq (⟨"ChoirRoof$Choir", "strengthOf", "(I)I"⟩, 15) := ⟨⟨by decide +kernel, by decide +kernel⟩, List.mem_of_getElem? (i := 171) (by decide +kernel), List.mem_of_getElem? (i := 475) (by decide +kernel), List.mem_of_getElem? (i := 476) (by decide +kernel)⟩
theorem lw_p14 : lw_okq (⟨"ChoirRoof$Setting", "holds", "(I[I)Z"⟩, 9) := ⟨⟨by decide +kernel, by decide +kernel⟩, List.mem_of_getElem? (i := 128) (by decide +kernel), List.mem_of_getElem? (i := 483) (by decide +kernel), List.mem_of_getElem? (i := 484) (by decide +kernel)⟩
theorem lw_p15 : lw_okq (⟨"ChoirRoof", "isStone", "(I)Z"⟩, 11) := ⟨⟨by decide +kernel, by decide +kernel⟩, List.mem_of_getElem? (i := 17) (by decide +kernel), List.mem_of_getElem? (i := 544) (by decide +kernel), List.mem_of_getElem? (i := 545) (by decide +kernel)⟩
def lw_privs_1 : List (MethodName × Nat) := [(⟨"ChoirRoof$Setting", "clear", "()V"⟩, 9), (⟨"ChoirRoof$Reader", "readClause", "()Z"⟩, 4), (⟨"ChoirRoof$Reader", "peek", "()I"⟩, 4), (⟨"ChoirRoof$Reader", "readWord", "(Ljava/lang/String;)Z"⟩, 4), (⟨"ChoirRoof$Reader", "take", "(C)Z"⟩, 4), (⟨"ChoirRoof$Reader", "readRest", "(I)Z"⟩, 4), (⟨"ChoirRoof$Reader", "readNumber", "()I"⟩, 4), (⟨"ChoirRoof$Reader", "readEither", "(I)Z"⟩, 4), (⟨"ChoirRoof$Reader", "readBoth", "(I)Z"⟩, 4), (⟨"ChoirRoof$Reader", "readFactor", "(I)Z"⟩, 4), (⟨"ChoirRoof$Reader", "readTest", "()Z"⟩, 4), (⟨"ChoirRoof$Reader", "indexOfNext", "(Ljava/lang/String;)I"⟩, 4), (⟨"ChoirRoof", "isSinger", "(I)Z"⟩, 11), (⟨"ChoirRoof$Choir", "strengthOf", "(I)I"⟩, 15), (⟨"ChoirRoof$Setting", "holds", "(I[I)Z"⟩, 9), (⟨"ChoirRoof", "isStone", "(I)Z"⟩, 11)]
theorem lw_r1 : ∀ q ∈ lw_privs_1, lw_okq q := List.forall_mem_cons.mpr ⟨lw_p0, List.forall_mem_cons.mpr ⟨lw_p1, List.forall_mem_cons.mpr ⟨lw_p2, List.forall_mem_cons.mpr ⟨lw_p3, List.forall_mem_cons.mpr ⟨lw_p4, List.forall_mem_cons.mpr ⟨lw_p5, List.forall_mem_cons.mpr ⟨lw_p6, List.forall_mem_cons.mpr ⟨lw_p7, List.forall_mem_cons.mpr ⟨lw_p8, List.forall_mem_cons.mpr ⟨lw_p9, List.forall_mem_cons.mpr ⟨lw_p10, List.forall_mem_cons.mpr ⟨lw_p11, List.forall_mem_cons.mpr ⟨lw_p12, List.forall_mem_cons.mpr ⟨lw_p13, List.forall_mem_cons.mpr ⟨lw_p14, List.forall_mem_cons.mpr ⟨lw_p15, fun _ h => absurd h List.not_mem_nil⟩⟩⟩⟩⟩⟩⟩⟩⟩⟩⟩⟩⟩⟩⟩⟩
theorem lw_p16 : lw_okq (⟨"ChoirRoof", "bestNote", "(I)I"⟩, 11) := ⟨⟨by decide +kernel, by decide +kernel⟩, List.mem_of_getElem? (i := 17) (by decide +kernel), List.mem_of_getElem? (i := 614) (by decide +kernel), List.mem_of_getElem? (i := 615) (by decide +kernel)⟩
theorem lw_p17 : lw_okq (⟨"ChoirRoof", "measureChords", "()V"⟩, 11) := ⟨⟨by decide +kernel, by decide +kernel⟩, List.mem_of_getElem? (i := 17) (by decide +kernel), List.mem_of_getElem? (i := 623) (by decide +kernel), List.mem_of_getElem? (i := 624) (by decide +kernel)⟩
theorem lw_p18 : lw_okq (⟨"ChoirRoof", "chordNote", "(II)I"⟩, 11) := ⟨⟨by decide +kernel, by decide +kernel⟩, List.mem_of_getElem? (i := 17) (by decide +kernel), List.mem_of_getElem? (i := 627) (by decide +kernel), List.mem_of_getElem? (i := 628) (by decide +kernel)⟩
theorem lw_p19 : lw_okq (⟨"ChoirRoof", "bestChord", "()I"⟩, 11) := ⟨⟨by decide +kernel, by decide +kernel⟩, List.mem_of_getElem? (i := 17) (by decide +kernel), List.mem_of_getElem? (i := 635) (by decide +kernel), List.mem_of_getElem? (i := 636) (by decide +kernel)⟩
theorem lw_p20 : lw_okq (⟨"ChoirRoof", "singChord", "(I)I"⟩, 11) := ⟨⟨by decide +kernel, by decide +kernel⟩, List.mem_of_getElem? (i := 17) (by decide +kernel), List.mem_of_getElem? (i := 639) (by decide +kernel), List.mem_of_getElem? (i := 640) (by decide +kernel)⟩
theorem lw_p21 : lw_okq (⟨"ChoirRoof", "spareBits", "(I)I"⟩, 11) := ⟨⟨by decide +kernel, by decide +kernel⟩, List.mem_of_getElem? (i := 17) (by decide +kernel), List.mem_of_getElem? (i := 653) (by decide +kernel), List.mem_of_getElem? (i := 654) (by decide +kernel)⟩
theorem lw_p22 : lw_okq (⟨"ChoirRoof", "looseOf", "(I)I"⟩, 11) := ⟨⟨by decide +kernel, by decide +kernel⟩, List.mem_of_getElem? (i := 17) (by decide +kernel), List.mem_of_getElem? (i := 657) (by decide +kernel), List.mem_of_getElem? (i := 658) (by decide +kernel)⟩
theorem lw_p23 : lw_okq (⟨"ChoirRoof", "setShift", "()I"⟩, 11) := ⟨⟨by decide +kernel, by decide +kernel⟩, List.mem_of_getElem? (i := 17) (by decide +kernel), List.mem_of_getElem? (i := 666) (by decide +kernel), List.mem_of_getElem? (i := 667) (by decide +kernel)⟩
theorem lw_p24 : lw_okq (⟨"ChoirRoof", "sortHanging", "()I"⟩, 11) := ⟨⟨by decide +kernel, by decide +kernel⟩, List.mem_of_getElem? (i := 17) (by decide +kernel), List.mem_of_getElem? (i := 695) (by decide +kernel), List.mem_of_getElem? (i := 696) (by decide +kernel)⟩
theorem lw_p25 : lw_okq (⟨"ChoirRoof", "isDustBy", "(I)Z"⟩, 11) := ⟨⟨by decide +kernel, by decide +kernel⟩, List.mem_of_getElem? (i := 17) (by decide +kernel), List.mem_of_getElem? (i := 720) (by decide +kernel), List.mem_of_getElem? (i := 721) (by decide +kernel)⟩
theorem lw_p26 : lw_okq (⟨"ChoirRoof$Acts", "callFrom", "(IIII)I"⟩, 5) := ⟨⟨by decide +kernel, by decide +kernel⟩, List.mem_of_getElem? (i := 47) (by decide +kernel), List.mem_of_getElem? (i := 773) (by decide +kernel), List.mem_of_getElem? (i := 774) (by decide +kernel)⟩
theorem lw_p27 : lw_okq (⟨"ChoirRoof$Acts", "runBody", "(III)I"⟩, 5) := ⟨⟨by decide +kernel, by decide +kernel⟩, List.mem_of_getElem? (i := 47) (by decide +kernel), List.mem_of_getElem? (i := 779) (by decide +kernel), List.mem_of_getElem? (i := 780) (by decide +kernel)⟩
theorem lw_p28 : lw_okq (⟨"ChoirRoofModel", "clauseHere", "()V"⟩, 23) := ⟨⟨by decide +kernel, by decide +kernel⟩, List.mem_of_getElem? (i := 811) (by decide +kernel), List.mem_of_getElem? (i := 898) (by decide +kernel), List.mem_of_getElem? (i := 899) (by decide +kernel)⟩
theorem lw_p29 : lw_okq (⟨"ChoirRoofModel", "here", "()I"⟩, 23) := ⟨⟨by decide +kernel, by decide +kernel⟩, List.mem_of_getElem? (i := 811) (by decide +kernel), List.mem_of_getElem? (i := 902) (by decide +kernel), List.mem_of_getElem? (i := 903) (by decide +kernel)⟩
theorem lw_p30 : lw_okq (⟨"ChoirRoofModel", "tellsHere", "(ILjava/lang/String;)V"⟩, 23) := ⟨⟨by decide +kernel, by decide +kernel⟩, List.mem_of_getElem? (i := 811) (by decide +kernel), List.mem_of_getElem? (i := 907) (by decide +kernel), List.mem_of_getElem? (i := 908) (by decide +kernel)⟩
theorem lw_p31 : lw_okq (⟨"ChoirRoofModel", "spells", "(Ljava/lang/String;)V"⟩, 23) := ⟨⟨by decide +kernel, by decide +kernel⟩, List.mem_of_getElem? (i := 811) (by decide +kernel), List.mem_of_getElem? (i := 911) (by decide +kernel), List.mem_of_getElem? (i := 912) (by decide +kernel)⟩
def lw_privs_2 : List (MethodName × Nat) := [(⟨"ChoirRoof", "bestNote", "(I)I"⟩, 11), (⟨"ChoirRoof", "measureChords", "()V"⟩, 11), (⟨"ChoirRoof", "chordNote", "(II)I"⟩, 11), (⟨"ChoirRoof", "bestChord", "()I"⟩, 11), (⟨"ChoirRoof", "singChord", "(I)I"⟩, 11), (⟨"ChoirRoof", "spareBits", "(I)I"⟩, 11), (⟨"ChoirRoof", "looseOf", "(I)I"⟩, 11), (⟨"ChoirRoof", "setShift", "()I"⟩, 11), (⟨"ChoirRoof", "sortHanging", "()I"⟩, 11), (⟨"ChoirRoof", "isDustBy", "(I)Z"⟩, 11), (⟨"ChoirRoof$Acts", "callFrom", "(IIII)I"⟩, 5), (⟨"ChoirRoof$Acts", "runBody", "(III)I"⟩, 5), (⟨"ChoirRoofModel", "clauseHere", "()V"⟩, 23), (⟨"ChoirRoofModel", "here", "()I"⟩, 23), (⟨"ChoirRoofModel", "tellsHere", "(ILjava/lang/String;)V"⟩, 23), (⟨"ChoirRoofModel", "spells", "(Ljava/lang/String;)V"⟩, 23)]
theorem lw_r2 : ∀ q ∈ lw_privs_2, lw_okq q := List.forall_mem_cons.mpr ⟨lw_p16, List.forall_mem_cons.mpr ⟨lw_p17, List.forall_mem_cons.mpr ⟨lw_p18, List.forall_mem_cons.mpr ⟨lw_p19, List.forall_mem_cons.mpr ⟨lw_p20, List.forall_mem_cons.mpr ⟨lw_p21, List.forall_mem_cons.mpr ⟨lw_p22, List.forall_mem_cons.mpr ⟨lw_p23, List.forall_mem_cons.mpr ⟨lw_p24, List.forall_mem_cons.mpr ⟨lw_p25, List.forall_mem_cons.mpr ⟨lw_p26, List.forall_mem_cons.mpr ⟨lw_p27, List.forall_mem_cons.mpr ⟨lw_p28, List.forall_mem_cons.mpr ⟨lw_p29, List.forall_mem_cons.mpr ⟨lw_p30, List.forall_mem_cons.mpr ⟨lw_p31, fun _ h => absurd h List.not_mem_nil⟩⟩⟩⟩⟩⟩⟩⟩⟩⟩⟩⟩⟩⟩⟩⟩
theorem lw_p32 : lw_okq (⟨"ChoirRoofModel", "must", "(I)V"⟩, 23) := ⟨⟨by decide +kernel, by decide +kernel⟩, List.mem_of_getElem? (i := 811) (by decide +kernel), List.mem_of_getElem? (i := 917) (by decide +kernel), List.mem_of_getElem? (i := 918) (by decide +kernel)⟩
theorem lw_p33 : lw_okq (⟨"ChoirRoofModel", "figures", "()I"⟩, 23) := ⟨⟨by decide +kernel, by decide +kernel⟩, List.mem_of_getElem? (i := 811) (by decide +kernel), List.mem_of_getElem? (i := 921) (by decide +kernel), List.mem_of_getElem? (i := 922) (by decide +kernel)⟩
theorem lw_p34 : lw_okq (⟨"ChoirRoofModel", "much", "(ILjava/lang/String;)V"⟩, 23) := ⟨⟨by decide +kernel, by decide +kernel⟩, List.mem_of_getElem? (i := 811) (by decide +kernel), List.mem_of_getElem? (i := 927) (by decide +kernel), List.mem_of_getElem? (i := 928) (by decide +kernel)⟩
theorem lw_p35 : lw_okq (⟨"ChoirRoofModel", "some", "()V"⟩, 23) := ⟨⟨by decide +kernel, by decide +kernel⟩, List.mem_of_getElem? (i := 811) (by decide +kernel), List.mem_of_getElem? (i := 931) (by decide +kernel), List.mem_of_getElem? (i := 932) (by decide +kernel)⟩
theorem lw_p36 : lw_okq (⟨"ChoirRoofModel", "every", "()V"⟩, 23) := ⟨⟨by decide +kernel, by decide +kernel⟩, List.mem_of_getElem? (i := 811) (by decide +kernel), List.mem_of_getElem? (i := 935) (by decide +kernel), List.mem_of_getElem? (i := 936) (by decide +kernel)⟩
theorem lw_p37 : lw_okq (⟨"ChoirRoofModel", "factor", "()V"⟩, 23) := ⟨⟨by decide +kernel, by decide +kernel⟩, List.mem_of_getElem? (i := 811) (by decide +kernel), List.mem_of_getElem? (i := 939) (by decide +kernel), List.mem_of_getElem? (i := 940) (by decide +kernel)⟩
theorem lw_p38 : lw_okq (⟨"ChoirRoofModel", "emits", "(I)V"⟩, 23) := ⟨⟨by decide +kernel, by decide +kernel⟩, List.mem_of_getElem? (i := 811) (by decide +kernel), List.mem_of_getElem? (i := 943) (by decide +kernel), List.mem_of_getElem? (i := 944) (by decide +kernel)⟩
theorem lw_p39 : lw_okq (⟨"ChoirRoofModel", "among", "(Ljava/lang/String;)I"⟩, 23) := ⟨⟨by decide +kernel, by decide +kernel⟩, List.mem_of_getElem? (i := 811) (by decide +kernel), List.mem_of_getElem? (i := 948) (by decide +kernel), List.mem_of_getElem? (i := 949) (by decide +kernel)⟩
theorem lw_p40 : lw_okq (⟨"ChoirRoofModel", "isSinger", "(I)Z"⟩, 23) := ⟨⟨by decide +kernel, by decide +kernel⟩, List.mem_of_getElem? (i := 811) (by decide +kernel), List.mem_of_getElem? (i := 962) (by decide +kernel), List.mem_of_getElem? (i := 963) (by decide +kernel)⟩
theorem lw_p41 : lw_okq (⟨"ChoirRoofModel", "doesSing", "(I)Z"⟩, 23) := ⟨⟨by decide +kernel, by decide +kernel⟩, List.mem_of_getElem? (i := 811) (by decide +kernel), List.mem_of_getElem? (i := 966) (by decide +kernel), List.mem_of_getElem? (i := 967) (by decide +kernel)⟩
theorem lw_p42 : lw_okq (⟨"ChoirRoofModel", "forceOf", "(I)I"⟩, 23) := ⟨⟨by decide +kernel, by decide +kernel⟩, List.mem_of_getElem? (i := 811) (by decide +kernel), List.mem_of_getElem? (i := 970) (by decide +kernel), List.mem_of_getElem? (i := 971) (by decide +kernel)⟩
theorem lw_p43 : lw_okq (⟨"ChoirRoofModel", "strengthOf", "(I)I"⟩, 23) := ⟨⟨by decide +kernel, by decide +kernel⟩, List.mem_of_getElem? (i := 811) (by decide +kernel), List.mem_of_getElem? (i := 974) (by decide +kernel), List.mem_of_getElem? (i := 975) (by decide +kernel)⟩
theorem lw_p44 : lw_okq (⟨"ChoirRoofModel", "looks", "(I)I"⟩, 23) := ⟨⟨by decide +kernel, by decide +kernel⟩, List.mem_of_getElem? (i := 811) (by decide +kernel), List.mem_of_getElem? (i := 978) (by decide +kernel), List.mem_of_getElem? (i := 979) (by decide +kernel)⟩
theorem lw_p45 : lw_okq (⟨"ChoirRoofModel", "tellsOf", "(II)I"⟩, 23) := ⟨⟨by decide +kernel, by decide +kernel⟩, List.mem_of_getElem? (i := 811) (by decide +kernel), List.mem_of_getElem? (i := 982) (by decide +kernel), List.mem_of_getElem? (i := 983) (by decide +kernel)⟩
theorem lw_p46 : lw_okq (⟨"ChoirRoofModel", "looksForForces", "()V"⟩, 23) := ⟨⟨by decide +kernel, by decide +kernel⟩, List.mem_of_getElem? (i := 811) (by decide +kernel), List.mem_of_getElem? (i := 986) (by decide +kernel), List.mem_of_getElem? (i := 987) (by decide +kernel)⟩
theorem lw_p47 : lw_okq (⟨"ChoirRoofModel", "bearsOf", "(II)I"⟩, 23) := ⟨⟨by decide +kernel, by decide +kernel⟩, List.mem_of_getElem? (i := 811) (by decide +kernel), List.mem_of_getElem? (i := 990) (by decide +kernel), List.mem_of_getElem? (i := 991) (by decide +kernel)⟩
def lw_privs_3 : List (MethodName × Nat) := [(⟨"ChoirRoofModel", "must", "(I)V"⟩, 23), (⟨"ChoirRoofModel", "figures", "()I"⟩, 23), (⟨"ChoirRoofModel", "much", "(ILjava/lang/String;)V"⟩, 23), (⟨"ChoirRoofModel", "some", "()V"⟩, 23), (⟨"ChoirRoofModel", "every", "()V"⟩, 23), (⟨"ChoirRoofModel", "factor", "()V"⟩, 23), (⟨"ChoirRoofModel", "emits", "(I)V"⟩, 23), (⟨"ChoirRoofModel", "among", "(Ljava/lang/String;)I"⟩, 23), (⟨"ChoirRoofModel", "isSinger", "(I)Z"⟩, 23), (⟨"ChoirRoofModel", "doesSing", "(I)Z"⟩, 23), (⟨"ChoirRoofModel", "forceOf", "(I)I"⟩, 23), (⟨"ChoirRoofModel", "strengthOf", "(I)I"⟩, 23), (⟨"ChoirRoofModel", "looks", "(I)I"⟩, 23), (⟨"ChoirRoofModel", "tellsOf", "(II)I"⟩, 23), (⟨"ChoirRoofModel", "looksForForces", "()V"⟩, 23), (⟨"ChoirRoofModel", "bearsOf", "(II)I"⟩, 23)]
theorem lw_r3 : ∀ q ∈ lw_privs_3, lw_okq q := List.forall_mem_cons.mpr ⟨lw_p32, List.forall_mem_cons.mpr ⟨lw_p33, List.forall_mem_cons.mpr ⟨lw_p34, List.forall_mem_cons.mpr ⟨lw_p35, List.forall_mem_cons.mpr ⟨lw_p36, List.forall_mem_cons.mpr ⟨lw_p37, List.forall_mem_cons.mpr ⟨lw_p38, List.forall_mem_cons.mpr ⟨lw_p39, List.forall_mem_cons.mpr ⟨lw_p40, List.forall_mem_cons.mpr ⟨lw_p41, List.forall_mem_cons.mpr ⟨lw_p42, List.forall_mem_cons.mpr ⟨lw_p43, List.forall_mem_cons.mpr ⟨lw_p44, List.forall_mem_cons.mpr ⟨lw_p45, List.forall_mem_cons.mpr ⟨lw_p46, List.forall_mem_cons.mpr ⟨lw_p47, fun _ h => absurd h List.not_mem_nil⟩⟩⟩⟩⟩⟩⟩⟩⟩⟩⟩⟩⟩⟩⟩⟩
theorem lw_p48 : lw_okq (⟨"ChoirRoofModel", "isOf", "(II)Z"⟩, 23) := ⟨⟨by decide +kernel, by decide +kernel⟩, List.mem_of_getElem? (i := 811) (by decide +kernel), List.mem_of_getElem? (i := 994) (by decide +kernel), List.mem_of_getElem? (i := 995) (by decide +kernel)⟩
theorem lw_p49 : lw_okq (⟨"ChoirRoofModel", "tunesOf", "(II)I"⟩, 23) := ⟨⟨by decide +kernel, by decide +kernel⟩, List.mem_of_getElem? (i := 811) (by decide +kernel), List.mem_of_getElem? (i := 998) (by decide +kernel), List.mem_of_getElem? (i := 999) (by decide +kernel)⟩
theorem lw_p50 : lw_okq (⟨"ChoirRoofModel", "canSing", "(II)Z"⟩, 23) := ⟨⟨by decide +kernel, by decide +kernel⟩, List.mem_of_getElem? (i := 811) (by decide +kernel), List.mem_of_getElem? (i := 1013) (by decide +kernel), List.mem_of_getElem? (i := 1014) (by decide +kernel)⟩
theorem lw_p51 : lw_okq (⟨"ChoirRoofModel", "highOf", "(I)I"⟩, 23) := ⟨⟨by decide +kernel, by decide +kernel⟩, List.mem_of_getElem? (i := 811) (by decide +kernel), List.mem_of_getElem? (i := 1017) (by decide +kernel), List.mem_of_getElem? (i := 1018) (by decide +kernel)⟩
theorem lw_p52 : lw_okq (⟨"ChoirRoofModel", "isStone", "(I)Z"⟩, 23) := ⟨⟨by decide +kernel, by decide +kernel⟩, List.mem_of_getElem? (i := 811) (by decide +kernel), List.mem_of_getElem? (i := 1033) (by decide +kernel), List.mem_of_getElem? (i := 1034) (by decide +kernel)⟩
theorem lw_p53 : lw_okq (⟨"ChoirRoofModel", "allNow", "()I"⟩, 23) := ⟨⟨by decide +kernel, by decide +kernel⟩, List.mem_of_getElem? (i := 811) (by decide +kernel), List.mem_of_getElem? (i := 1037) (by decide +kernel), List.mem_of_getElem? (i := 1038) (by decide +kernel)⟩
theorem lw_p54 : lw_okq (⟨"ChoirRoofModel", "allBy", "(I)I"⟩, 23) := ⟨⟨by decide +kernel, by decide +kernel⟩, List.mem_of_getElem? (i := 811) (by decide +kernel), List.mem_of_getElem? (i := 1041) (by decide +kernel), List.mem_of_getElem? (i := 1042) (by decide +kernel)⟩
theorem lw_p55 : lw_okq (⟨"ChoirRoofModel", "looseBy", "(I)I"⟩, 23) := ⟨⟨by decide +kernel, by decide +kernel⟩, List.mem_of_getElem? (i := 811) (by decide +kernel), List.mem_of_getElem? (i := 1045) (by decide +kernel), List.mem_of_getElem? (i := 1046) (by decide +kernel)⟩
theorem lw_p56 : lw_okq (⟨"ChoirRoofModel", "doesHang", "(I)Z"⟩, 23) := ⟨⟨by decide +kernel, by decide +kernel⟩, List.mem_of_getElem? (i := 811) (by decide +kernel), List.mem_of_getElem? (i := 1049) (by decide +kernel), List.mem_of_getElem? (i := 1050) (by decide +kernel)⟩
theorem lw_p57 : lw_okq (⟨"ChoirRoofModel", "fallenMany", "()I"⟩, 23) := ⟨⟨by decide +kernel, by decide +kernel⟩, List.mem_of_getElem? (i := 811) (by decide +kernel), List.mem_of_getElem? (i := 1061) (by decide +kernel), List.mem_of_getElem? (i := 1062) (by decide +kernel)⟩
theorem lw_p58 : lw_okq (⟨"ChoirRoofModel", "goes", "()I"⟩, 23) := ⟨⟨by decide +kernel, by decide +kernel⟩, List.mem_of_getElem? (i := 811) (by decide +kernel), List.mem_of_getElem? (i := 1070) (by decide +kernel), List.mem_of_getElem? (i := 1071) (by decide +kernel)⟩
theorem lw_p59 : lw_okq (⟨"ChoirRoofModel", "goesBy", "(I)I"⟩, 23) := ⟨⟨by decide +kernel, by decide +kernel⟩, List.mem_of_getElem? (i := 811) (by decide +kernel), List.mem_of_getElem? (i := 1074) (by decide +kernel), List.mem_of_getElem? (i := 1075) (by decide +kernel)⟩
theorem lw_p60 : lw_okq (⟨"ChoirRoofModel", "keeps", "()V"⟩, 23) := ⟨⟨by decide +kernel, by decide +kernel⟩, List.mem_of_getElem? (i := 811) (by decide +kernel), List.mem_of_getElem? (i := 1085) (by decide +kernel), List.mem_of_getElem? (i := 1086) (by decide +kernel)⟩
theorem lw_p61 : lw_okq (⟨"ChoirRoofModel", "goesBack", "()V"⟩, 23) := ⟨⟨by decide +kernel, by decide +kernel⟩, List.mem_of_getElem? (i := 811) (by decide +kernel), List.mem_of_getElem? (i := 1089) (by decide +kernel), List.mem_of_getElem? (i := 1090) (by decide +kernel)⟩
theorem lw_p62 : lw_okq (⟨"ChoirRoofModel", "looksForNote", "(I)V"⟩, 23) := ⟨⟨by decide +kernel, by decide +kernel⟩, List.mem_of_getElem? (i := 811) (by decide +kernel), List.mem_of_getElem? (i := 1101) (by decide +kernel), List.mem_of_getElem? (i := 1102) (by decide +kernel)⟩
theorem lw_p63 : lw_okq (⟨"ChoirRoofModel", "noteAbove", "(II)I"⟩, 23) := ⟨⟨by decide +kernel, by decide +kernel⟩, List.mem_of_getElem? (i := 811) (by decide +kernel), List.mem_of_getElem? (i := 1109) (by decide +kernel), List.mem_of_getElem? (i := 1110) (by decide +kernel)⟩
def lw_privs_4 : List (MethodName × Nat) := [(⟨"ChoirRoofModel", "isOf", "(II)Z"⟩, 23), (⟨"ChoirRoofModel", "tunesOf", "(II)I"⟩, 23), (⟨"ChoirRoofModel", "canSing", "(II)Z"⟩, 23), (⟨"ChoirRoofModel", "highOf", "(I)I"⟩, 23), (⟨"ChoirRoofModel", "isStone", "(I)Z"⟩, 23), (⟨"ChoirRoofModel", "allNow", "()I"⟩, 23), (⟨"ChoirRoofModel", "allBy", "(I)I"⟩, 23), (⟨"ChoirRoofModel", "looseBy", "(I)I"⟩, 23), (⟨"ChoirRoofModel", "doesHang", "(I)Z"⟩, 23), (⟨"ChoirRoofModel", "fallenMany", "()I"⟩, 23), (⟨"ChoirRoofModel", "goes", "()I"⟩, 23), (⟨"ChoirRoofModel", "goesBy", "(I)I"⟩, 23), (⟨"ChoirRoofModel", "keeps", "()V"⟩, 23), (⟨"ChoirRoofModel", "goesBack", "()V"⟩, 23), (⟨"ChoirRoofModel", "looksForNote", "(I)V"⟩, 23), (⟨"ChoirRoofModel", "noteAbove", "(II)I"⟩, 23)]
theorem lw_r4 : ∀ q ∈ lw_privs_4, lw_okq q := List.forall_mem_cons.mpr ⟨lw_p48, List.forall_mem_cons.mpr ⟨lw_p49, List.forall_mem_cons.mpr ⟨lw_p50, List.forall_mem_cons.mpr ⟨lw_p51, List.forall_mem_cons.mpr ⟨lw_p52, List.forall_mem_cons.mpr ⟨lw_p53, List.forall_mem_cons.mpr ⟨lw_p54, List.forall_mem_cons.mpr ⟨lw_p55, List.forall_mem_cons.mpr ⟨lw_p56, List.forall_mem_cons.mpr ⟨lw_p57, List.forall_mem_cons.mpr ⟨lw_p58, List.forall_mem_cons.mpr ⟨lw_p59, List.forall_mem_cons.mpr ⟨lw_p60, List.forall_mem_cons.mpr ⟨lw_p61, List.forall_mem_cons.mpr ⟨lw_p62, List.forall_mem_cons.mpr ⟨lw_p63, fun _ h => absurd h List.not_mem_nil⟩⟩⟩⟩⟩⟩⟩⟩⟩⟩⟩⟩⟩⟩⟩⟩
theorem lw_p64 : lw_okq (⟨"ChoirRoofModel", "chordsFrom", "(I)V"⟩, 23) := ⟨⟨by decide +kernel, by decide +kernel⟩, List.mem_of_getElem? (i := 811) (by decide +kernel), List.mem_of_getElem? (i := 1113) (by decide +kernel), List.mem_of_getElem? (i := 1114) (by decide +kernel)⟩
theorem lw_p65 : lw_okq (⟨"ChoirRoofModel", "looseMany", "(I)I"⟩, 23) := ⟨⟨by decide +kernel, by decide +kernel⟩, List.mem_of_getElem? (i := 811) (by decide +kernel), List.mem_of_getElem? (i := 1126) (by decide +kernel), List.mem_of_getElem? (i := 1127) (by decide +kernel)⟩
theorem lw_p66 : lw_okq (⟨"ChoirRoofModel", "singing", "()I"⟩, 23) := ⟨⟨by decide +kernel, by decide +kernel⟩, List.mem_of_getElem? (i := 811) (by decide +kernel), List.mem_of_getElem? (i := 1134) (by decide +kernel), List.mem_of_getElem? (i := 1135) (by decide +kernel)⟩
theorem lw_p67 : lw_okq (⟨"ChoirRoofModel", "fewestOf", "(I)I"⟩, 23) := ⟨⟨by decide +kernel, by decide +kernel⟩, List.mem_of_getElem? (i := 811) (by decide +kernel), List.mem_of_getElem? (i := 1138) (by decide +kernel), List.mem_of_getElem? (i := 1139) (by decide +kernel)⟩
theorem lw_p68 : lw_okq (⟨"ChoirRoofModel", "goesRound", "()V"⟩, 23) := ⟨⟨by decide +kernel, by decide +kernel⟩, List.mem_of_getElem? (i := 811) (by decide +kernel), List.mem_of_getElem? (i := 1150) (by decide +kernel), List.mem_of_getElem? (i := 1151) (by decide +kernel)⟩
theorem lw_p69 : lw_okq (⟨"ChoirRoofModel", "weightOf", "(I)I"⟩, 23) := ⟨⟨by decide +kernel, by decide +kernel⟩, List.mem_of_getElem? (i := 811) (by decide +kernel), List.mem_of_getElem? (i := 1158) (by decide +kernel), List.mem_of_getElem? (i := 1159) (by decide +kernel)⟩
theorem lw_p70 : lw_okq (⟨"ChoirRoofModel", "hangingWeight", "()I"⟩, 23) := ⟨⟨by decide +kernel, by decide +kernel⟩, List.mem_of_getElem? (i := 811) (by decide +kernel), List.mem_of_getElem? (i := 1171) (by decide +kernel), List.mem_of_getElem? (i := 1172) (by decide +kernel)⟩
theorem lw_p71 : lw_okq (⟨"ChoirRoofModel", "isFlat", "(I)Z"⟩, 23) := ⟨⟨by decide +kernel, by decide +kernel⟩, List.mem_of_getElem? (i := 811) (by decide +kernel), List.mem_of_getElem? (i := 1183) (by decide +kernel), List.mem_of_getElem? (i := 1184) (by decide +kernel)⟩
theorem lw_p72 : lw_okq (⟨"ChoirRoofModel", "isDust", "(I)Z"⟩, 23) := ⟨⟨by decide +kernel, by decide +kernel⟩, List.mem_of_getElem? (i := 811) (by decide +kernel), List.mem_of_getElem? (i := 1187) (by decide +kernel), List.mem_of_getElem? (i := 1188) (by decide +kernel)⟩
theorem lw_p73 : lw_okq (⟨"ChoirRoofModel", "lightest", "(I)I"⟩, 23) := ⟨⟨by decide +kernel, by decide +kernel⟩, List.mem_of_getElem? (i := 811) (by decide +kernel), List.mem_of_getElem? (i := 1195) (by decide +kernel), List.mem_of_getElem? (i := 1196) (by decide +kernel)⟩
theorem lw_p74 : lw_okq (⟨"ChoirRoofModel", "singsActs", "(I)I"⟩, 23) := ⟨⟨by decide +kernel, by decide +kernel⟩, List.mem_of_getElem? (i := 811) (by decide +kernel), List.mem_of_getElem? (i := 1235) (by decide +kernel), List.mem_of_getElem? (i := 1236) (by decide +kernel)⟩
theorem lw_p75 : lw_okq (⟨"ChoirRoofModel", "ranBody", "(I)V"⟩, 23) := ⟨⟨by decide +kernel, by decide +kernel⟩, List.mem_of_getElem? (i := 811) (by decide +kernel), List.mem_of_getElem? (i := 1242) (by decide +kernel), List.mem_of_getElem? (i := 1243) (by decide +kernel)⟩
theorem lw_p76 : lw_okq (⟨"ChoirRoofModel", "plainSings", "(I)I"⟩, 23) := ⟨⟨by decide +kernel, by decide +kernel⟩, List.mem_of_getElem? (i := 811) (by decide +kernel), List.mem_of_getElem? (i := 1246) (by decide +kernel), List.mem_of_getElem? (i := 1247) (by decide +kernel)⟩
theorem lw_p77 : lw_okq (⟨"ChoirRoofModel", "bearsActs", "(I)I"⟩, 23) := ⟨⟨by decide +kernel, by decide +kernel⟩, List.mem_of_getElem? (i := 811) (by decide +kernel), List.mem_of_getElem? (i := 1250) (by decide +kernel), List.mem_of_getElem? (i := 1251) (by decide +kernel)⟩
theorem lw_p78 : lw_okq (⟨"ChoirRoofModel", "plainBears", "(I)I"⟩, 23) := ⟨⟨by decide +kernel, by decide +kernel⟩, List.mem_of_getElem? (i := 811) (by decide +kernel), List.mem_of_getElem? (i := 1254) (by decide +kernel), List.mem_of_getElem? (i := 1255) (by decide +kernel)⟩
theorem lw_p79 : lw_okq (⟨"ChoirRoofModel", "tellsActs", "(I)I"⟩, 23) := ⟨⟨by decide +kernel, by decide +kernel⟩, List.mem_of_getElem? (i := 811) (by decide +kernel), List.mem_of_getElem? (i := 1258) (by decide +kernel), List.mem_of_getElem? (i := 1259) (by decide +kernel)⟩
def lw_privs_5 : List (MethodName × Nat) := [(⟨"ChoirRoofModel", "chordsFrom", "(I)V"⟩, 23), (⟨"ChoirRoofModel", "looseMany", "(I)I"⟩, 23), (⟨"ChoirRoofModel", "singing", "()I"⟩, 23), (⟨"ChoirRoofModel", "fewestOf", "(I)I"⟩, 23), (⟨"ChoirRoofModel", "goesRound", "()V"⟩, 23), (⟨"ChoirRoofModel", "weightOf", "(I)I"⟩, 23), (⟨"ChoirRoofModel", "hangingWeight", "()I"⟩, 23), (⟨"ChoirRoofModel", "isFlat", "(I)Z"⟩, 23), (⟨"ChoirRoofModel", "isDust", "(I)Z"⟩, 23), (⟨"ChoirRoofModel", "lightest", "(I)I"⟩, 23), (⟨"ChoirRoofModel", "singsActs", "(I)I"⟩, 23), (⟨"ChoirRoofModel", "ranBody", "(I)V"⟩, 23), (⟨"ChoirRoofModel", "plainSings", "(I)I"⟩, 23), (⟨"ChoirRoofModel", "bearsActs", "(I)I"⟩, 23), (⟨"ChoirRoofModel", "plainBears", "(I)I"⟩, 23), (⟨"ChoirRoofModel", "tellsActs", "(I)I"⟩, 23)]
theorem lw_r5 : ∀ q ∈ lw_privs_5, lw_okq q := List.forall_mem_cons.mpr ⟨lw_p64, List.forall_mem_cons.mpr ⟨lw_p65, List.forall_mem_cons.mpr ⟨lw_p66, List.forall_mem_cons.mpr ⟨lw_p67, List.forall_mem_cons.mpr ⟨lw_p68, List.forall_mem_cons.mpr ⟨lw_p69, List.forall_mem_cons.mpr ⟨lw_p70, List.forall_mem_cons.mpr ⟨lw_p71, List.forall_mem_cons.mpr ⟨lw_p72, List.forall_mem_cons.mpr ⟨lw_p73, List.forall_mem_cons.mpr ⟨lw_p74, List.forall_mem_cons.mpr ⟨lw_p75, List.forall_mem_cons.mpr ⟨lw_p76, List.forall_mem_cons.mpr ⟨lw_p77, List.forall_mem_cons.mpr ⟨lw_p78, List.forall_mem_cons.mpr ⟨lw_p79, fun _ h => absurd h List.not_mem_nil⟩⟩⟩⟩⟩⟩⟩⟩⟩⟩⟩⟩⟩⟩⟩⟩
theorem lw_p80 : lw_okq (⟨"ChoirRoofModel", "plainTells", "(I)I"⟩, 23) := ⟨⟨by decide +kernel, by decide +kernel⟩, List.mem_of_getElem? (i := 811) (by decide +kernel), List.mem_of_getElem? (i := 1262) (by decide +kernel), List.mem_of_getElem? (i := 1263) (by decide +kernel)⟩
def lw_privs_6 : List (MethodName × Nat) := [(⟨"ChoirRoofModel", "plainTells", "(I)I"⟩, 23)]
theorem lw_r6 : ∀ q ∈ lw_privs_6, lw_okq q := List.forall_mem_cons.mpr ⟨lw_p80, fun _ h => absurd h List.not_mem_nil⟩
def lw_privs : List (MethodName × Nat) := lw_privs_1 ++ (lw_privs_2 ++ (lw_privs_3 ++ (lw_privs_4 ++ (lw_privs_5 ++ (lw_privs_6)))))
def lw_tbl : List Cond := k2_sels lw_privs ++ tables_1
theorem lw_privs_ok : ∀ q ∈ lw_privs, lw_okq q := by
  show ∀ q ∈ lw_privs_1 ++ (lw_privs_2 ++ (lw_privs_3 ++ (lw_privs_4 ++ (lw_privs_5 ++ (lw_privs_6))))), lw_okq q
  exact List.forall_mem_append.mpr ⟨lw_r1, List.forall_mem_append.mpr ⟨lw_r2, List.forall_mem_append.mpr ⟨lw_r3, List.forall_mem_append.mpr ⟨lw_r4, List.forall_mem_append.mpr ⟨lw_r5, lw_r6⟩⟩⟩⟩⟩
/-! ===== BEGIN words of one list among another's, by their places ===== -/
theorem goodIn_r {big : List Cond} (ws : List Cond) (ps : List Nat) (hp : ws = ps.filterMap (fun i => big[i]?)) (h : ws.all goodWord = true) : GoodIn big ws := by
  intro w hw
  have h1 := List.all_eq_true.mp h w hw
  rw [hp] at hw
  obtain ⟨i, -, hi⟩ := List.mem_filterMap.mp hw
  have hm : w ∈ big := by first | exact List.mem_of_getElem? hi | exact List.getElem?_mem hi
  exact ⟨hm, good_of_word h1⟩
theorem goodIn_app {big a b : List Cond} (ha : GoodIn big a) (hb : GoodIn big b) : GoodIn big (a ++ b) := fun w h => (List.mem_append.mp h).elim (ha w) (hb w)
theorem goodIn_ca {big a b : List Cond} {c : Cond} (ha : GoodIn big (c :: a)) (hb : GoodIn big b) : GoodIn big (c :: (a ++ b)) := fun w h => (List.mem_cons.mp h).elim (fun e => ha w (List.mem_cons.mpr (Or.inl e))) (fun h => (List.mem_append.mp h).elim (fun h => ha w (List.mem_cons.mpr (Or.inr h))) (hb w))
theorem goodIn_sub {big ws : List Cond} (hm : ∀ w ∈ ws, w ∈ big) (h : ws.all goodWord = true) : GoodIn big ws := fun w hw => ⟨hm w hw, good_of_word (List.all_eq_true.mp h w hw)⟩
/-! ===== END ===== -/
def RX0 : String := "ChoirRoof$Acts"
def TX0 : u_T := fun k => match k with
  | 0 => ("ChoirRoof$Acts", "number", "I", false)
  | 1 => ("ChoirRoof$Acts", "kind", "I", false)
  | 2 => ("ChoirRoof$Acts", "v", "I", false)
  | 3 => ("ChoirRoof$Acts", "ran", "I", false)
  | _ => ("ChoirRoof$Acts", "kept", "[I", true)
def tyX0 : Nat → FieldType := fun k => match k with
  | 0 => .int
  | 1 => .int
  | 2 => .int
  | 3 => .int
  | _ => .array .int
abbrev wsX00 : List Cond := u_ws RX0 TX0 5
theorem nmX0 : ∀ a, a < 5 → ∀ b, b < 5 → a ≠ b → (TX0 a).2.1 ≠ (TX0 b).2.1 := by decide +kernel
theorem tyX0_ok : ∀ k, k < 5 → parseFieldDescriptor (TX0 k).2.2.1 = some (tyX0 k) := by decide +kernel
abbrev cX0_init : ByteArray := prog_2_method_1_code
def yX0_init : MethodName := ⟨RX0, "<init>", "()V"⟩
abbrev cX0_perform : ByteArray := prog_2_method_2_code
def yX0_perform : MethodName := ⟨RX0, "perform", "(II)I"⟩
abbrev cX0_callFrom : ByteArray := prog_2_method_3_code
def yX0_callFrom : MethodName := ⟨RX0, "callFrom", "(IIII)I"⟩
abbrev cX0_runBody : ByteArray := prog_2_method_4_code
def yX0_runBody : MethodName := ⟨RX0, "runBody", "(III)I"⟩
def RX1 : String := "ChoirRoof$Choir"
def TX1 : u_T := fun k => match k with
  | 0 => ("ChoirRoof$Choir", "singers", "I", false)
  | 1 => ("ChoirRoof$Choir", "stones", "I", false)
  | 2 => ("ChoirRoof$Choir", "beat", "I", false)
  | 3 => ("ChoirRoof$Choir", "held", "LChoirRoof$Setting;", false)
  | 4 => ("ChoirRoof$Choir", "kind", "[I", true)
  | 5 => ("ChoirRoof$Choir", "v", "[I", true)
  | 6 => ("ChoirRoof$Choir", "low", "[I", true)
  | 7 => ("ChoirRoof$Choir", "note", "[I", true)
  | 8 => ("ChoirRoof$Choir", "tired", "[I", true)
  | 9 => ("ChoirRoof$Choir", "rows", "[I", true)
  | 10 => ("ChoirRoof$Choir", "weight", "[I", true)
  | 11 => ("ChoirRoof$Choir", "propped", "[I", true)
  | 12 => ("ChoirRoof$Choir", "fallen", "[I", true)
  | 13 => ("ChoirRoof$Choir", "force", "[I", true)
  | _ => ("ChoirRoof$Choir", "about", "[I", true)
def tyX1 : Nat → FieldType := fun k => match k with
  | 0 => .int
  | 1 => .int
  | 2 => .int
  | 3 => .object "ChoirRoof$Setting"
  | 4 => .array .int
  | 5 => .array .int
  | 6 => .array .int
  | 7 => .array .int
  | 8 => .array .int
  | 9 => .array .int
  | 10 => .array .int
  | 11 => .array .int
  | 12 => .array .int
  | 13 => .array .int
  | _ => .array .int
abbrev wsX10 : List Cond := u_ws RX1 TX1 15
theorem nmX1 : ∀ a, a < 15 → ∀ b, b < 15 → a ≠ b → (TX1 a).2.1 ≠ (TX1 b).2.1 := by decide +kernel
theorem tyX1_ok : ∀ k, k < 15 → parseFieldDescriptor (TX1 k).2.2.1 = some (tyX1 k) := by decide +kernel
abbrev cX1_init : ByteArray := prog_3_method_1_code
def yX1_init : MethodName := ⟨RX1, "<init>", "(LChoirRoof$Setting;)V"⟩
abbrev cX1_become : ByteArray := prog_3_method_2_code
def yX1_become : MethodName := ⟨RX1, "become", "(LChoirRoof$Choir;)V"⟩
abbrev cX1_addSinger : ByteArray := prog_3_method_3_code
def yX1_addSinger : MethodName := ⟨RX1, "addSinger", "(III)I"⟩
abbrev cX1_addStone : ByteArray := prog_3_method_4_code
def yX1_addStone : MethodName := ⟨RX1, "addStone", "(I)I"⟩
abbrev cX1_highOf : ByteArray := prog_3_method_5_code
def yX1_highOf : MethodName := ⟨RX1, "highOf", "(I)I"⟩
abbrev cX1_canSing : ByteArray := prog_3_method_6_code
def yX1_canSing : MethodName := ⟨RX1, "canSing", "(II)Z"⟩
abbrev cX1_singing : ByteArray := prog_3_method_7_code
def yX1_singing : MethodName := ⟨RX1, "singing", "()I"⟩
abbrev cX1_measure : ByteArray := prog_3_method_8_code
def yX1_measure : MethodName := ⟨RX1, "measure", "()V"⟩
abbrev cX1_forceOf : ByteArray := prog_3_method_9_code
def yX1_forceOf : MethodName := ⟨RX1, "forceOf", "(I)I"⟩
abbrev cX1_strengthOf : ByteArray := prog_3_method_10_code
def yX1_strengthOf : MethodName := ⟨RX1, "strengthOf", "(I)I"⟩
abbrev cX1_partners : ByteArray := prog_3_method_11_code
def yX1_partners : MethodName := ⟨RX1, "partners", "(II)I"⟩
abbrev cX1_bearing : ByteArray := prog_3_method_12_code
def yX1_bearing : MethodName := ⟨RX1, "bearing", "(II)I"⟩
abbrev cX1_allOf : ByteArray := prog_3_method_13_code
def yX1_allOf : MethodName := ⟨RX1, "allOf", "(I)I"⟩
abbrev cX1_allNow : ByteArray := prog_3_method_14_code
def yX1_allNow : MethodName := ⟨RX1, "allNow", "()I"⟩
abbrev cX1_hangs : ByteArray := prog_3_method_15_code
def yX1_hangs : MethodName := ⟨RX1, "hangs", "(I)Z"⟩
abbrev cX1_sumHanging : ByteArray := prog_3_method_16_code
def yX1_sumHanging : MethodName := ⟨RX1, "sumHanging", "()I"⟩
abbrev cX1_looseBits : ByteArray := prog_3_method_17_code
def yX1_looseBits : MethodName := ⟨RX1, "looseBits", "(I)I"⟩
abbrev cX1_countFallen : ByteArray := prog_3_method_18_code
def yX1_countFallen : MethodName := ⟨RX1, "countFallen", "()I"⟩
abbrev cX1_sumTired : ByteArray := prog_3_method_19_code
def yX1_sumTired : MethodName := ⟨RX1, "sumTired", "()I"⟩
abbrev cX1_goBeat : ByteArray := prog_3_method_20_code
def yX1_goBeat : MethodName := ⟨RX1, "goBeat", "()I"⟩
abbrev cX1_goRound : ByteArray := prog_3_method_21_code
def yX1_goRound : MethodName := ⟨RX1, "goRound", "()V"⟩
abbrev cX1_keepNotes : ByteArray := prog_3_method_22_code
def yX1_keepNotes : MethodName := ⟨RX1, "keepNotes", "(LChoirRoof$Choir;I)V"⟩
def RX2 : String := "ChoirRoof$Reader"
def TX2 : u_T := fun k => match k with
  | 0 => ("ChoirRoof$Reader", "tape", "[I", false)
  | 1 => ("ChoirRoof$Reader", "size", "I", false)
  | 2 => ("ChoirRoof$Reader", "place", "I", false)
  | _ => ("ChoirRoof$Reader", "into", "LChoirRoof$Setting;", false)
def tyX2 : Nat → FieldType := fun k => match k with
  | 0 => .array .int
  | 1 => .int
  | 2 => .int
  | _ => .object "ChoirRoof$Setting"
abbrev wsX20 : List Cond := u_ws RX2 TX2 4
theorem nmX2 : ∀ a, a < 4 → ∀ b, b < 4 → a ≠ b → (TX2 a).2.1 ≠ (TX2 b).2.1 := by decide +kernel
theorem tyX2_ok : ∀ k, k < 4 → parseFieldDescriptor (TX2 k).2.2.1 = some (tyX2 k) := by decide +kernel
abbrev cX2_init : ByteArray := prog_4_method_1_code
def yX2_init : MethodName := ⟨RX2, "<init>", "()V"⟩
abbrev cX2_read : ByteArray := prog_4_method_2_code
def yX2_read : MethodName := ⟨RX2, "read", "([IILChoirRoof$Setting;)I"⟩
abbrev cX2_peek : ByteArray := prog_4_method_3_code
def yX2_peek : MethodName := ⟨RX2, "peek", "()I"⟩
abbrev cX2_take : ByteArray := prog_4_method_4_code
def yX2_take : MethodName := ⟨RX2, "take", "(C)Z"⟩
abbrev cX2_readClause : ByteArray := prog_4_method_5_code
def yX2_readClause : MethodName := ⟨RX2, "readClause", "()Z"⟩
abbrev cX2_readWord : ByteArray := prog_4_method_6_code
def yX2_readWord : MethodName := ⟨RX2, "readWord", "(Ljava/lang/String;)Z"⟩
abbrev cX2_readRest : ByteArray := prog_4_method_7_code
def yX2_readRest : MethodName := ⟨RX2, "readRest", "(I)Z"⟩
abbrev cX2_readNumber : ByteArray := prog_4_method_8_code
def yX2_readNumber : MethodName := ⟨RX2, "readNumber", "()I"⟩
abbrev cX2_readEither : ByteArray := prog_4_method_9_code
def yX2_readEither : MethodName := ⟨RX2, "readEither", "(I)Z"⟩
abbrev cX2_readBoth : ByteArray := prog_4_method_10_code
def yX2_readBoth : MethodName := ⟨RX2, "readBoth", "(I)Z"⟩
abbrev cX2_readFactor : ByteArray := prog_4_method_11_code
def yX2_readFactor : MethodName := ⟨RX2, "readFactor", "(I)Z"⟩
abbrev cX2_readTest : ByteArray := prog_4_method_12_code
def yX2_readTest : MethodName := ⟨RX2, "readTest", "()Z"⟩
abbrev cX2_indexOfNext : ByteArray := prog_4_method_13_code
def yX2_indexOfNext : MethodName := ⟨RX2, "indexOfNext", "(Ljava/lang/String;)I"⟩
def RX3 : String := "ChoirRoof$Setting"
def TX3 : u_T := fun k => match k with
  | 0 => ("ChoirRoof$Setting", "clauses", "I", false)
  | 1 => ("ChoirRoof$Setting", "used", "I", false)
  | 2 => ("ChoirRoof$Setting", "ease", "I", false)
  | 3 => ("ChoirRoof$Setting", "weary", "I", false)
  | 4 => ("ChoirRoof$Setting", "word", "[I", true)
  | 5 => ("ChoirRoof$Setting", "number", "[I", true)
  | 6 => ("ChoirRoof$Setting", "from", "[I", true)
  | 7 => ("ChoirRoof$Setting", "to", "[I", true)
  | _ => ("ChoirRoof$Setting", "code", "[I", true)
def tyX3 : Nat → FieldType := fun k => match k with
  | 0 => .int
  | 1 => .int
  | 2 => .int
  | 3 => .int
  | 4 => .array .int
  | 5 => .array .int
  | 6 => .array .int
  | 7 => .array .int
  | _ => .array .int
abbrev wsX30 : List Cond := u_ws RX3 TX3 9
theorem nmX3 : ∀ a, a < 9 → ∀ b, b < 9 → a ≠ b → (TX3 a).2.1 ≠ (TX3 b).2.1 := by decide +kernel
theorem tyX3_ok : ∀ k, k < 9 → parseFieldDescriptor (TX3 k).2.2.1 = some (tyX3 k) := by decide +kernel
abbrev cX3_init : ByteArray := prog_5_method_1_code
def yX3_init : MethodName := ⟨RX3, "<init>", "()V"⟩
abbrev cX3_clear : ByteArray := prog_5_method_2_code
def yX3_clear : MethodName := ⟨RX3, "clear", "()V"⟩
abbrev cX3_addToken : ByteArray := prog_5_method_3_code
def yX3_addToken : MethodName := ⟨RX3, "addToken", "(I)V"⟩
abbrev cX3_addClause : ByteArray := prog_5_method_4_code
def yX3_addClause : MethodName := ⟨RX3, "addClause", "(III)V"⟩
abbrev cX3_gainOf : ByteArray := prog_5_method_5_code
def yX3_gainOf : MethodName := ⟨RX3, "gainOf", "([I)I"⟩
abbrev cX3_holds : ByteArray := prog_5_method_6_code
def yX3_holds : MethodName := ⟨RX3, "holds", "(I[I)Z"⟩
def RX4 : String := "ChoirRoof$Sheets"
def TX4 : u_T := fun k => match k with
  | 0 => ("ChoirRoof$Sheets", "signs", "I", false)
  | 1 => ("ChoirRoof$Sheets", "settings", "I", false)
  | 2 => ("ChoirRoof$Sheets", "dusts", "I", false)
  | 3 => ("ChoirRoof$Sheets", "plans", "I", false)
  | 4 => ("ChoirRoof$Sheets", "books", "I", false)
  | 5 => ("ChoirRoof$Sheets", "tape", "[I", true)
  | 6 => ("ChoirRoof$Sheets", "dustBeats", "[I", true)
  | 7 => ("ChoirRoof$Sheets", "dustFallen", "[I", true)
  | 8 => ("ChoirRoof$Sheets", "planSingers", "[I", true)
  | 9 => ("ChoirRoof$Sheets", "planNotes", "[I", true)
  | 10 => ("ChoirRoof$Sheets", "bookSingers", "[I", true)
  | _ => ("ChoirRoof$Sheets", "bookBears", "[I", true)
def tyX4 : Nat → FieldType := fun k => match k with
  | 0 => .int
  | 1 => .int
  | 2 => .int
  | 3 => .int
  | 4 => .int
  | 5 => .array .int
  | 6 => .array .int
  | 7 => .array .int
  | 8 => .array .int
  | 9 => .array .int
  | 10 => .array .int
  | _ => .array .int
abbrev wsX40 : List Cond := u_ws RX4 TX4 12
theorem nmX4 : ∀ a, a < 12 → ∀ b, b < 12 → a ≠ b → (TX4 a).2.1 ≠ (TX4 b).2.1 := by decide +kernel
theorem tyX4_ok : ∀ k, k < 12 → parseFieldDescriptor (TX4 k).2.2.1 = some (tyX4 k) := by decide +kernel
abbrev cX4_init : ByteArray := prog_6_method_1_code
def yX4_init : MethodName := ⟨RX4, "<init>", "()V"⟩
abbrev cX4_become : ByteArray := prog_6_method_2_code
def yX4_become : MethodName := ⟨RX4, "become", "(LChoirRoof$Sheets;)V"⟩
def RX5 : String := "ChoirRoof"
def TX5 : u_T := fun k => match k with
  | 0 => ("ChoirRoof", "settings", "[LChoirRoof$Setting;", true)
  | 1 => ("ChoirRoof", "reader", "LChoirRoof$Reader;", true)
  | 2 => ("ChoirRoof", "acts", "LChoirRoof$Acts;", true)
  | 3 => ("ChoirRoof", "now", "LChoirRoof$Choir;", true)
  | 4 => ("ChoirRoof", "then", "LChoirRoof$Choir;", true)
  | 5 => ("ChoirRoof", "imageChoir", "LChoirRoof$Choir;", true)
  | 6 => ("ChoirRoof", "sheets", "LChoirRoof$Sheets;", true)
  | 7 => ("ChoirRoof", "imageSheets", "LChoirRoof$Sheets;", true)
  | 8 => ("ChoirRoof", "chordForces", "[I", true)
  | 9 => ("ChoirRoof", "sorted", "[I", true)
  | _ => ("ChoirRoof", "imaged", "Z", false)
def tyX5 : Nat → FieldType := fun k => match k with
  | 0 => .array (.object "ChoirRoof$Setting")
  | 1 => .object "ChoirRoof$Reader"
  | 2 => .object "ChoirRoof$Acts"
  | 3 => .object "ChoirRoof$Choir"
  | 4 => .object "ChoirRoof$Choir"
  | 5 => .object "ChoirRoof$Choir"
  | 6 => .object "ChoirRoof$Sheets"
  | 7 => .object "ChoirRoof$Sheets"
  | 8 => .array .int
  | 9 => .array .int
  | _ => .boolean
abbrev wsX50 : List Cond := u_ws RX5 TX5 11
theorem nmX5 : ∀ a, a < 11 → ∀ b, b < 11 → a ≠ b → (TX5 a).2.1 ≠ (TX5 b).2.1 := by decide +kernel
theorem tyX5_ok : ∀ k, k < 11 → parseFieldDescriptor (TX5 k).2.2.1 = some (tyX5 k) := by decide +kernel
abbrev cX5_init : ByteArray := prog_1_method_1_code
def yX5_init : MethodName := ⟨RX5, "<init>", "()V"⟩
abbrev cX5_feed : ByteArray := prog_1_method_2_code
def yX5_feed : MethodName := ⟨RX5, "feed", "(I)I"⟩
abbrev cX5_setting : ByteArray := prog_1_method_3_code
def yX5_setting : MethodName := ⟨RX5, "setting", "()I"⟩
abbrev cX5_singer : ByteArray := prog_1_method_4_code
def yX5_singer : MethodName := ⟨RX5, "singer", "(III)I"⟩
abbrev cX5_of : ByteArray := prog_1_method_5_code
def yX5_of : MethodName := ⟨RX5, "of", "(II)I"⟩
abbrev cX5_row : ByteArray := prog_1_method_6_code
def yX5_row : MethodName := ⟨RX5, "row", "(III)I"⟩
abbrev cX5_sing : ByteArray := prog_1_method_7_code
def yX5_sing : MethodName := ⟨RX5, "sing", "(II)I"⟩
abbrev cX5_tire : ByteArray := prog_1_method_8_code
def yX5_tire : MethodName := ⟨RX5, "tire", "(II)I"⟩
abbrev cX5_stone : ByteArray := prog_1_method_9_code
def yX5_stone : MethodName := ⟨RX5, "stone", "(I)I"⟩
abbrev cX5_at : ByteArray := prog_1_method_10_code
def yX5_at : MethodName := ⟨RX5, "at", "(II)I"⟩
abbrev cX5_prop : ByteArray := prog_1_method_11_code
def yX5_prop : MethodName := ⟨RX5, "prop", "(IZ)I"⟩
abbrev cX5_told : ByteArray := prog_1_method_12_code
def yX5_told : MethodName := ⟨RX5, "told", "(I)I"⟩
abbrev cX5_beat : ByteArray := prog_1_method_13_code
def yX5_beat : MethodName := ⟨RX5, "beat", "()I"⟩
abbrev cX5_on : ByteArray := prog_1_method_14_code
def yX5_on : MethodName := ⟨RX5, "on", "(II)I"⟩
abbrev cX5_steady : ByteArray := prog_1_method_15_code
def yX5_steady : MethodName := ⟨RX5, "steady", "()I"⟩
abbrev cX5_best : ByteArray := prog_1_method_16_code
def yX5_best : MethodName := ⟨RX5, "best", "(II)I"⟩
abbrev cX5_chord : ByteArray := prog_1_method_17_code
def yX5_chord : MethodName := ⟨RX5, "chord", "(I)I"⟩
abbrev cX5_needed : ByteArray := prog_1_method_18_code
def yX5_needed : MethodName := ⟨RX5, "needed", "()I"⟩
abbrev cX5_spare : ByteArray := prog_1_method_19_code
def yX5_spare : MethodName := ⟨RX5, "spare", "()I"⟩
abbrev cX5_shift : ByteArray := prog_1_method_20_code
def yX5_shift : MethodName := ⟨RX5, "shift", "(II)I"⟩
abbrev cX5_ill : ByteArray := prog_1_method_21_code
def yX5_ill : MethodName := ⟨RX5, "ill", "(I)I"⟩
abbrev cX5_canon : ByteArray := prog_1_method_22_code
def yX5_canon : MethodName := ⟨RX5, "canon", "(II)I"⟩
abbrev cX5_props : ByteArray := prog_1_method_23_code
def yX5_props : MethodName := ⟨RX5, "props", "(I)I"⟩
abbrev cX5_critical : ByteArray := prog_1_method_24_code
def yX5_critical : MethodName := ⟨RX5, "critical", "(I)I"⟩
abbrev cX5_load : ByteArray := prog_1_method_25_code
def yX5_load : MethodName := ⟨RX5, "load", "()I"⟩
abbrev cX5_dust : ByteArray := prog_1_method_26_code
def yX5_dust : MethodName := ⟨RX5, "dust", "(II)I"⟩
abbrev cX5_flat : ByteArray := prog_1_method_27_code
def yX5_flat : MethodName := ⟨RX5, "flat", "()I"⟩
abbrev cX5_order : ByteArray := prog_1_method_28_code
def yX5_order : MethodName := ⟨RX5, "order", "(I)I"⟩
abbrev cX5_odds : ByteArray := prog_1_method_29_code
def yX5_odds : MethodName := ⟨RX5, "odds", "(I)J"⟩
abbrev cX5_mean : ByteArray := prog_1_method_30_code
def yX5_mean : MethodName := ⟨RX5, "mean", "(II)J"⟩
abbrev cX5_wage : ByteArray := prog_1_method_31_code
def yX5_wage : MethodName := ⟨RX5, "wage", "(II)J"⟩
abbrev cX5_plan : ByteArray := prog_1_method_32_code
def yX5_plan : MethodName := ⟨RX5, "plan", "(II)I"⟩
abbrev cX5_planned : ByteArray := prog_1_method_33_code
def yX5_planned : MethodName := ⟨RX5, "planned", "(I)I"⟩
abbrev cX5_book : ByteArray := prog_1_method_34_code
def yX5_book : MethodName := ⟨RX5, "book", "(II)I"⟩
abbrev cX5_looked : ByteArray := prog_1_method_35_code
def yX5_looked : MethodName := ⟨RX5, "looked", "()I"⟩
abbrev cX5_act : ByteArray := prog_1_method_36_code
def yX5_act : MethodName := ⟨RX5, "act", "(III)I"⟩
abbrev cX5_trace : ByteArray := prog_1_method_37_code
def yX5_trace : MethodName := ⟨RX5, "trace", "(I)I"⟩
abbrev cX5_as : ByteArray := prog_1_method_38_code
def yX5_as : MethodName := ⟨RX5, "as", "(II)I"⟩
abbrev cX5_image : ByteArray := prog_1_method_39_code
def yX5_image : MethodName := ⟨RX5, "image", "()I"⟩
abbrev cX5_undo : ByteArray := prog_1_method_40_code
def yX5_undo : MethodName := ⟨RX5, "undo", "()I"⟩
abbrev cX5_count : ByteArray := prog_1_method_41_code
def yX5_count : MethodName := ⟨RX5, "count", "(I)I"⟩
abbrev cX5_isSinger : ByteArray := prog_1_method_42_code
def yX5_isSinger : MethodName := ⟨RX5, "isSinger", "(I)Z"⟩
abbrev cX5_isStone : ByteArray := prog_1_method_43_code
def yX5_isStone : MethodName := ⟨RX5, "isStone", "(I)Z"⟩
abbrev cX5_hasBit : ByteArray := prog_1_method_44_code
def yX5_hasBit : MethodName := ⟨RX5, "hasBit", "(II)Z"⟩
abbrev cX5_bestNote : ByteArray := prog_1_method_45_code
def yX5_bestNote : MethodName := ⟨RX5, "bestNote", "(I)I"⟩
abbrev cX5_measureChords : ByteArray := prog_1_method_46_code
def yX5_measureChords : MethodName := ⟨RX5, "measureChords", "()V"⟩
abbrev cX5_chordNote : ByteArray := prog_1_method_47_code
def yX5_chordNote : MethodName := ⟨RX5, "chordNote", "(II)I"⟩
abbrev cX5_bestChord : ByteArray := prog_1_method_48_code
def yX5_bestChord : MethodName := ⟨RX5, "bestChord", "()I"⟩
abbrev cX5_singChord : ByteArray := prog_1_method_49_code
def yX5_singChord : MethodName := ⟨RX5, "singChord", "(I)I"⟩
abbrev cX5_looseOf : ByteArray := prog_1_method_50_code
def yX5_looseOf : MethodName := ⟨RX5, "looseOf", "(I)I"⟩
abbrev cX5_spareBits : ByteArray := prog_1_method_51_code
def yX5_spareBits : MethodName := ⟨RX5, "spareBits", "(I)I"⟩
abbrev cX5_setShift : ByteArray := prog_1_method_52_code
def yX5_setShift : MethodName := ⟨RX5, "setShift", "()I"⟩
abbrev cX5_isDustBy : ByteArray := prog_1_method_53_code
def yX5_isDustBy : MethodName := ⟨RX5, "isDustBy", "(I)Z"⟩
abbrev cX5_sortHanging : ByteArray := prog_1_method_54_code
def yX5_sortHanging : MethodName := ⟨RX5, "sortHanging", "()I"⟩
abbrev cX5_inLowestTerms : ByteArray := prog_1_method_55_code
def yX5_inLowestTerms : MethodName := ⟨RX5, "inLowestTerms", "(III)J"⟩
abbrev cX5_commonDivisor : ByteArray := prog_1_method_56_code
def yX5_commonDivisor : MethodName := ⟨RX5, "commonDivisor", "(II)I"⟩
def RX6 : String := "ChoirRoofModel"
def TX6 : u_T := fun k => match k with
  | 0 => ("ChoirRoofModel", "thrown", "I", false)
  | 1 => ("ChoirRoofModel", "s", "[I", true)
  | 2 => ("ChoirRoofModel", "image", "[I", true)
  | 3 => ("ChoirRoofModel", "frame", "[I", true)
  | 4 => ("ChoirRoofModel", "hasImage", "Z", false)
  | 5 => ("ChoirRoofModel", "act", "I", false)
  | 6 => ("ChoirRoofModel", "spot", "I", false)
  | 7 => ("ChoirRoofModel", "end", "I", false)
  | 8 => ("ChoirRoofModel", "isWrong", "Z", false)
  | 9 => ("ChoirRoofModel", "open", "I", false)
  | 10 => ("ChoirRoofModel", "by", "[I", true)
  | 11 => ("ChoirRoofModel", "truths", "[Z", true)
  | 12 => ("ChoirRoofModel", "forces", "[I", true)
  | 13 => ("ChoirRoofModel", "bestNote", "I", false)
  | 14 => ("ChoirRoofModel", "mostAll", "I", false)
  | 15 => ("ChoirRoofModel", "fives", "[I", true)
  | 16 => ("ChoirRoofModel", "bestChord", "[I", true)
  | 17 => ("ChoirRoofModel", "notes", "[I", true)
  | 18 => ("ChoirRoofModel", "bodies", "[I", true)
  | 19 => ("ChoirRoofModel", "ran", "I", false)
  | 20 => ("ChoirRoofModel", "kind", "I", false)
  | 21 => ("ChoirRoofModel", "number", "I", false)
  | _ => ("ChoirRoofModel", "tellsV", "I", false)
def tyX6 : Nat → FieldType := fun k => match k with
  | 0 => .int
  | 1 => .array .int
  | 2 => .array .int
  | 3 => .array .int
  | 4 => .boolean
  | 5 => .int
  | 6 => .int
  | 7 => .int
  | 8 => .boolean
  | 9 => .int
  | 10 => .array .int
  | 11 => .array .boolean
  | 12 => .array .int
  | 13 => .int
  | 14 => .int
  | 15 => .array .int
  | 16 => .array .int
  | 17 => .array .int
  | 18 => .array .int
  | 19 => .int
  | 20 => .int
  | 21 => .int
  | _ => .int
abbrev wsX60 : List Cond := u_ws RX6 TX6 23
theorem nmX6 : ∀ a, a < 23 → ∀ b, b < 23 → a ≠ b → (TX6 a).2.1 ≠ (TX6 b).2.1 := by decide +kernel
theorem tyX6_ok : ∀ k, k < 23 → parseFieldDescriptor (TX6 k).2.2.1 = some (tyX6 k) := by decide +kernel
abbrev cX6_init : ByteArray := prog_8_method_1_code
def yX6_init : MethodName := ⟨RX6, "<init>", "()V"⟩
abbrev cX6_in : ByteArray := prog_8_method_3_code
def yX6_in : MethodName := ⟨RX6, "in", "(III)Z"⟩
abbrev cX6_isSinger : ByteArray := prog_8_method_4_code
def yX6_isSinger : MethodName := ⟨RX6, "isSinger", "(I)Z"⟩
abbrev cX6_isStone : ByteArray := prog_8_method_5_code
def yX6_isStone : MethodName := ⟨RX6, "isStone", "(I)Z"⟩
abbrev cX6_doesSing : ByteArray := prog_8_method_6_code
def yX6_doesSing : MethodName := ⟨RX6, "doesSing", "(I)Z"⟩
abbrev cX6_keeps : ByteArray := prog_8_method_7_code
def yX6_keeps : MethodName := ⟨RX6, "keeps", "()V"⟩
abbrev cX6_goesBack : ByteArray := prog_8_method_8_code
def yX6_goesBack : MethodName := ⟨RX6, "goesBack", "()V"⟩
abbrev cX6_feed : ByteArray := prog_8_method_9_code
def yX6_feed : MethodName := ⟨RX6, "feed", "(I)I"⟩
abbrev cX6_here : ByteArray := prog_8_method_10_code
def yX6_here : MethodName := ⟨RX6, "here", "()I"⟩
abbrev cX6_must : ByteArray := prog_8_method_11_code
def yX6_must : MethodName := ⟨RX6, "must", "(I)V"⟩
abbrev cX6_spells : ByteArray := prog_8_method_12_code
def yX6_spells : MethodName := ⟨RX6, "spells", "(Ljava/lang/String;)V"⟩
abbrev cX6_figures : ByteArray := prog_8_method_13_code
def yX6_figures : MethodName := ⟨RX6, "figures", "()I"⟩
abbrev cX6_among : ByteArray := prog_8_method_14_code
def yX6_among : MethodName := ⟨RX6, "among", "(Ljava/lang/String;)I"⟩
abbrev cX6_emits : ByteArray := prog_8_method_15_code
def yX6_emits : MethodName := ⟨RX6, "emits", "(I)V"⟩
abbrev cX6_factor : ByteArray := prog_8_method_16_code
def yX6_factor : MethodName := ⟨RX6, "factor", "()V"⟩
abbrev cX6_every : ByteArray := prog_8_method_17_code
def yX6_every : MethodName := ⟨RX6, "every", "()V"⟩
abbrev cX6_some : ByteArray := prog_8_method_18_code
def yX6_some : MethodName := ⟨RX6, "some", "()V"⟩
abbrev cX6_much : ByteArray := prog_8_method_19_code
def yX6_much : MethodName := ⟨RX6, "much", "(ILjava/lang/String;)V"⟩
abbrev cX6_tellsHere : ByteArray := prog_8_method_20_code
def yX6_tellsHere : MethodName := ⟨RX6, "tellsHere", "(ILjava/lang/String;)V"⟩
abbrev cX6_clauseHere : ByteArray := prog_8_method_21_code
def yX6_clauseHere : MethodName := ⟨RX6, "clauseHere", "()V"⟩
abbrev cX6_setting : ByteArray := prog_8_method_22_code
def yX6_setting : MethodName := ⟨RX6, "setting", "()I"⟩
abbrev cX6_tellsOf : ByteArray := prog_8_method_23_code
def yX6_tellsOf : MethodName := ⟨RX6, "tellsOf", "(II)I"⟩
abbrev cX6_looks : ByteArray := prog_8_method_24_code
def yX6_looks : MethodName := ⟨RX6, "looks", "(I)I"⟩
abbrev cX6_strengthOf : ByteArray := prog_8_method_25_code
def yX6_strengthOf : MethodName := ⟨RX6, "strengthOf", "(I)I"⟩
abbrev cX6_forceOf : ByteArray := prog_8_method_26_code
def yX6_forceOf : MethodName := ⟨RX6, "forceOf", "(I)I"⟩
abbrev cX6_isTune : ByteArray := prog_8_method_27_code
def yX6_isTune : MethodName := ⟨RX6, "isTune", "(II)Z"⟩
abbrev cX6_looksForForces : ByteArray := prog_8_method_28_code
def yX6_looksForForces : MethodName := ⟨RX6, "looksForForces", "()V"⟩
abbrev cX6_isOf : ByteArray := prog_8_method_29_code
def yX6_isOf : MethodName := ⟨RX6, "isOf", "(II)Z"⟩
abbrev cX6_tunesOf : ByteArray := prog_8_method_30_code
def yX6_tunesOf : MethodName := ⟨RX6, "tunesOf", "(II)I"⟩
abbrev cX6_bearsOf : ByteArray := prog_8_method_31_code
def yX6_bearsOf : MethodName := ⟨RX6, "bearsOf", "(II)I"⟩
abbrev cX6_allBy : ByteArray := prog_8_method_32_code
def yX6_allBy : MethodName := ⟨RX6, "allBy", "(I)I"⟩
abbrev cX6_singing : ByteArray := prog_8_method_33_code
def yX6_singing : MethodName := ⟨RX6, "singing", "()I"⟩
abbrev cX6_allNow : ByteArray := prog_8_method_34_code
def yX6_allNow : MethodName := ⟨RX6, "allNow", "()I"⟩
abbrev cX6_doesHang : ByteArray := prog_8_method_35_code
def yX6_doesHang : MethodName := ⟨RX6, "doesHang", "(I)Z"⟩
abbrev cX6_looseBy : ByteArray := prog_8_method_36_code
def yX6_looseBy : MethodName := ⟨RX6, "looseBy", "(I)I"⟩
abbrev cX6_fallenMany : ByteArray := prog_8_method_37_code
def yX6_fallenMany : MethodName := ⟨RX6, "fallenMany", "()I"⟩
abbrev cX6_sizeOf : ByteArray := prog_8_method_38_code
def yX6_sizeOf : MethodName := ⟨RX6, "sizeOf", "(I)I"⟩
abbrev cX6_hangingWeight : ByteArray := prog_8_method_39_code
def yX6_hangingWeight : MethodName := ⟨RX6, "hangingWeight", "()I"⟩
abbrev cX6_singer : ByteArray := prog_8_method_40_code
def yX6_singer : MethodName := ⟨RX6, "singer", "(III)I"⟩
abbrev cX6_highOf : ByteArray := prog_8_method_41_code
def yX6_highOf : MethodName := ⟨RX6, "highOf", "(I)I"⟩
abbrev cX6_canSing : ByteArray := prog_8_method_42_code
def yX6_canSing : MethodName := ⟨RX6, "canSing", "(II)Z"⟩
abbrev cX6_of : ByteArray := prog_8_method_43_code
def yX6_of : MethodName := ⟨RX6, "of", "(II)I"⟩
abbrev cX6_row : ByteArray := prog_8_method_44_code
def yX6_row : MethodName := ⟨RX6, "row", "(III)I"⟩
abbrev cX6_sing : ByteArray := prog_8_method_45_code
def yX6_sing : MethodName := ⟨RX6, "sing", "(II)I"⟩
abbrev cX6_tire : ByteArray := prog_8_method_46_code
def yX6_tire : MethodName := ⟨RX6, "tire", "(II)I"⟩
abbrev cX6_stone : ByteArray := prog_8_method_47_code
def yX6_stone : MethodName := ⟨RX6, "stone", "(I)I"⟩
abbrev cX6_at : ByteArray := prog_8_method_48_code
def yX6_at : MethodName := ⟨RX6, "at", "(II)I"⟩
abbrev cX6_prop : ByteArray := prog_8_method_49_code
def yX6_prop : MethodName := ⟨RX6, "prop", "(IZ)I"⟩
abbrev cX6_told : ByteArray := prog_8_method_50_code
def yX6_told : MethodName := ⟨RX6, "told", "(I)I"⟩
abbrev cX6_goesBy : ByteArray := prog_8_method_51_code
def yX6_goesBy : MethodName := ⟨RX6, "goesBy", "(I)I"⟩
abbrev cX6_goes : ByteArray := prog_8_method_52_code
def yX6_goes : MethodName := ⟨RX6, "goes", "()I"⟩
abbrev cX6_beat : ByteArray := prog_8_method_53_code
def yX6_beat : MethodName := ⟨RX6, "beat", "()I"⟩
abbrev cX6_on : ByteArray := prog_8_method_54_code
def yX6_on : MethodName := ⟨RX6, "on", "(II)I"⟩
abbrev cX6_steady : ByteArray := prog_8_method_55_code
def yX6_steady : MethodName := ⟨RX6, "steady", "()I"⟩
abbrev cX6_looksForNote : ByteArray := prog_8_method_56_code
def yX6_looksForNote : MethodName := ⟨RX6, "looksForNote", "(I)V"⟩
abbrev cX6_best : ByteArray := prog_8_method_57_code
def yX6_best : MethodName := ⟨RX6, "best", "(II)I"⟩
abbrev cX6_noteAbove : ByteArray := prog_8_method_58_code
def yX6_noteAbove : MethodName := ⟨RX6, "noteAbove", "(II)I"⟩
abbrev cX6_chordsFrom : ByteArray := prog_8_method_59_code
def yX6_chordsFrom : MethodName := ⟨RX6, "chordsFrom", "(I)V"⟩
abbrev cX6_chord : ByteArray := prog_8_method_60_code
def yX6_chord : MethodName := ⟨RX6, "chord", "(I)I"⟩
abbrev cX6_needed : ByteArray := prog_8_method_61_code
def yX6_needed : MethodName := ⟨RX6, "needed", "()I"⟩
abbrev cX6_looseMany : ByteArray := prog_8_method_62_code
def yX6_looseMany : MethodName := ⟨RX6, "looseMany", "(I)I"⟩
abbrev cX6_spare : ByteArray := prog_8_method_63_code
def yX6_spare : MethodName := ⟨RX6, "spare", "()I"⟩
abbrev cX6_fewestOf : ByteArray := prog_8_method_64_code
def yX6_fewestOf : MethodName := ⟨RX6, "fewestOf", "(I)I"⟩
abbrev cX6_shift : ByteArray := prog_8_method_65_code
def yX6_shift : MethodName := ⟨RX6, "shift", "(II)I"⟩
abbrev cX6_ill : ByteArray := prog_8_method_66_code
def yX6_ill : MethodName := ⟨RX6, "ill", "(I)I"⟩
abbrev cX6_goesRound : ByteArray := prog_8_method_67_code
def yX6_goesRound : MethodName := ⟨RX6, "goesRound", "()V"⟩
abbrev cX6_canon : ByteArray := prog_8_method_68_code
def yX6_canon : MethodName := ⟨RX6, "canon", "(II)I"⟩
abbrev cX6_weightOf : ByteArray := prog_8_method_69_code
def yX6_weightOf : MethodName := ⟨RX6, "weightOf", "(I)I"⟩
abbrev cX6_props : ByteArray := prog_8_method_70_code
def yX6_props : MethodName := ⟨RX6, "props", "(I)I"⟩
abbrev cX6_critical : ByteArray := prog_8_method_71_code
def yX6_critical : MethodName := ⟨RX6, "critical", "(I)I"⟩
abbrev cX6_load : ByteArray := prog_8_method_72_code
def yX6_load : MethodName := ⟨RX6, "load", "()I"⟩
abbrev cX6_dust : ByteArray := prog_8_method_73_code
def yX6_dust : MethodName := ⟨RX6, "dust", "(II)I"⟩
abbrev cX6_isDust : ByteArray := prog_8_method_74_code
def yX6_isDust : MethodName := ⟨RX6, "isDust", "(I)Z"⟩
abbrev cX6_isFlat : ByteArray := prog_8_method_75_code
def yX6_isFlat : MethodName := ⟨RX6, "isFlat", "(I)Z"⟩
abbrev cX6_flat : ByteArray := prog_8_method_76_code
def yX6_flat : MethodName := ⟨RX6, "flat", "()I"⟩
abbrev cX6_lightest : ByteArray := prog_8_method_77_code
def yX6_lightest : MethodName := ⟨RX6, "lightest", "(I)I"⟩
abbrev cX6_order : ByteArray := prog_8_method_78_code
def yX6_order : MethodName := ⟨RX6, "order", "(I)I"⟩
abbrev cX6_lowest : ByteArray := prog_8_method_79_code
def yX6_lowest : MethodName := ⟨RX6, "lowest", "(JJI)J"⟩
abbrev cX6_odds : ByteArray := prog_8_method_80_code
def yX6_odds : MethodName := ⟨RX6, "odds", "(I)J"⟩
abbrev cX6_mean : ByteArray := prog_8_method_81_code
def yX6_mean : MethodName := ⟨RX6, "mean", "(II)J"⟩
abbrev cX6_wage : ByteArray := prog_8_method_82_code
def yX6_wage : MethodName := ⟨RX6, "wage", "(II)J"⟩
abbrev cX6_plan : ByteArray := prog_8_method_83_code
def yX6_plan : MethodName := ⟨RX6, "plan", "(II)I"⟩
abbrev cX6_planned : ByteArray := prog_8_method_84_code
def yX6_planned : MethodName := ⟨RX6, "planned", "(I)I"⟩
abbrev cX6_book : ByteArray := prog_8_method_85_code
def yX6_book : MethodName := ⟨RX6, "book", "(II)I"⟩
abbrev cX6_looked : ByteArray := prog_8_method_86_code
def yX6_looked : MethodName := ⟨RX6, "looked", "()I"⟩
abbrev cX6_ranBody : ByteArray := prog_8_method_87_code
def yX6_ranBody : MethodName := ⟨RX6, "ranBody", "(I)V"⟩
abbrev cX6_isUnder : ByteArray := prog_8_method_88_code
def yX6_isUnder : MethodName := ⟨RX6, "isUnder", "(II)Z"⟩
abbrev cX6_plainSings : ByteArray := prog_8_method_89_code
def yX6_plainSings : MethodName := ⟨RX6, "plainSings", "(I)I"⟩
abbrev cX6_singsActs : ByteArray := prog_8_method_90_code
def yX6_singsActs : MethodName := ⟨RX6, "singsActs", "(I)I"⟩
abbrev cX6_plainBears : ByteArray := prog_8_method_91_code
def yX6_plainBears : MethodName := ⟨RX6, "plainBears", "(I)I"⟩
abbrev cX6_bearsActs : ByteArray := prog_8_method_92_code
def yX6_bearsActs : MethodName := ⟨RX6, "bearsActs", "(I)I"⟩
abbrev cX6_plainTells : ByteArray := prog_8_method_93_code
def yX6_plainTells : MethodName := ⟨RX6, "plainTells", "(I)I"⟩
abbrev cX6_tellsActs : ByteArray := prog_8_method_94_code
def yX6_tellsActs : MethodName := ⟨RX6, "tellsActs", "(I)I"⟩
abbrev cX6_act : ByteArray := prog_8_method_95_code
def yX6_act : MethodName := ⟨RX6, "act", "(III)I"⟩
abbrev cX6_trace : ByteArray := prog_8_method_96_code
def yX6_trace : MethodName := ⟨RX6, "trace", "(I)I"⟩
abbrev cX6_as : ByteArray := prog_8_method_97_code
def yX6_as : MethodName := ⟨RX6, "as", "(II)I"⟩
abbrev cX6_image : ByteArray := prog_8_method_98_code
def yX6_image : MethodName := ⟨RX6, "image", "()I"⟩
abbrev cX6_undo : ByteArray := prog_8_method_99_code
def yX6_undo : MethodName := ⟨RX6, "undo", "()I"⟩
abbrev cX6_count : ByteArray := prog_8_method_100_code
def yX6_count : MethodName := ⟨RX6, "count", "(I)I"⟩
def RJ11 : String := "java/lang/Character"
def TJ11 : u_T := fun k => match k with
  | _ => ("", "", "", false)
def tyJ11 : Nat → FieldType := fun k => match k with
  | _ => .int
abbrev wsJ110 : List Cond := u_ws RJ11 TJ11 0
theorem nmJ11 : ∀ a, a < 0 → ∀ b, b < 0 → a ≠ b → (TJ11 a).2.1 ≠ (TJ11 b).2.1 := by decide +kernel
theorem tyJ11_ok : ∀ k, k < 0 → parseFieldDescriptor (TJ11 k).2.2.1 = some (tyJ11 k) := by decide +kernel
abbrev cJ11_isValidCodePoint_9a6ad : ByteArray := prog_9_method_11_code
def yJ11_isValidCodePoint_9a6ad : MethodName := ⟨RJ11, "isValidCodePoint", "(I)Z"⟩
abbrev cJ11_highSurrogate_5068e : ByteArray := prog_9_method_28_code
def yJ11_highSurrogate_5068e : MethodName := ⟨RJ11, "highSurrogate", "(I)C"⟩
abbrev cJ11_lowSurrogate_5068e : ByteArray := prog_9_method_29_code
def yJ11_lowSurrogate_5068e : MethodName := ⟨RJ11, "lowSurrogate", "(I)C"⟩
def RJ6 : String := "java/lang/Integer"
def TJ6 : u_T := fun k => match k with
  | _ => ("", "", "", false)
def tyJ6 : Nat → FieldType := fun k => match k with
  | _ => .int
abbrev wsJ60 : List Cond := u_ws RJ6 TJ6 0
theorem nmJ6 : ∀ a, a < 0 → ∀ b, b < 0 → a ≠ b → (TJ6 a).2.1 ≠ (TJ6 b).2.1 := by decide +kernel
theorem tyJ6_ok : ∀ k, k < 0 → parseFieldDescriptor (TJ6 k).2.2.1 = some (tyJ6 k) := by decide +kernel
abbrev cJ6_compare_7cf53 : ByteArray := prog_10_method_40_code
def yJ6_compare_7cf53 : MethodName := ⟨RJ6, "compare", "(II)I"⟩
abbrev cJ6_bitCount_0f7a4 : ByteArray := prog_10_method_49_code
def yJ6_bitCount_0f7a4 : MethodName := ⟨RJ6, "bitCount", "(I)I"⟩
def RJ9 : String := "java/lang/Math"
def TJ9 : u_T := fun k => match k with
  | _ => ("", "", "", false)
def tyJ9 : Nat → FieldType := fun k => match k with
  | _ => .int
abbrev wsJ90 : List Cond := u_ws RJ9 TJ9 0
theorem nmJ9 : ∀ a, a < 0 → ∀ b, b < 0 → a ≠ b → (TJ9 a).2.1 ≠ (TJ9 b).2.1 := by decide +kernel
theorem tyJ9_ok : ∀ k, k < 0 → parseFieldDescriptor (TJ9 k).2.2.1 = some (tyJ9 k) := by decide +kernel
abbrev cJ9_abs_0f7a4 : ByteArray := prog_11_method_59_code
def yJ9_abs_0f7a4 : MethodName := ⟨RJ9, "abs", "(I)I"⟩
abbrev cJ9_max_7cf53 : ByteArray := prog_11_method_65_code
def yJ9_max_7cf53 : MethodName := ⟨RJ9, "max", "(II)I"⟩
abbrev cJ9_min_7cf53 : ByteArray := prog_11_method_69_code
def yJ9_min_7cf53 : MethodName := ⟨RJ9, "min", "(II)I"⟩
def RJ0 : String := "java/lang/String"
def TJ0 : u_T := fun k => match k with
  | _ => ("", "", "", false)
def tyJ0 : Nat → FieldType := fun k => match k with
  | _ => .int
abbrev wsJ00 : List Cond := u_ws RJ0 TJ0 0
theorem nmJ0 : ∀ a, a < 0 → ∀ b, b < 0 → a ≠ b → (TJ0 a).2.1 ≠ (TJ0 b).2.1 := by decide +kernel
theorem tyJ0_ok : ∀ k, k < 0 → parseFieldDescriptor (TJ0 k).2.2.1 = some (tyJ0 k) := by decide +kernel
abbrev cJ0_length_8abf5 : ByteArray := prog_12_method_54_code
def yJ0_length_8abf5 : MethodName := ⟨RJ0, "length", "()I"⟩
abbrev cJ0_charAt_5068e : ByteArray := prog_12_method_56_code
def yJ0_charAt_5068e : MethodName := ⟨RJ0, "charAt", "(I)C"⟩
abbrev cJ0_indexOf_0f7a4 : ByteArray := prog_12_method_79_code
def yJ0_indexOf_0f7a4 : MethodName := ⟨RJ0, "indexOf", "(I)I"⟩
abbrev cJ0_indexOf_7cf53 : ByteArray := prog_12_method_80_code
def yJ0_indexOf_7cf53 : MethodName := ⟨RJ0, "indexOf", "(II)I"⟩
abbrev cJ0_coder_7d493 : ByteArray := prog_12_method_152_code
def yJ0_coder_7d493 : MethodName := ⟨RJ0, "coder", "()B"⟩
abbrev cJ0_isLatin1_aae02 : ByteArray := prog_12_method_154_code
def yJ0_isLatin1_aae02 : MethodName := ⟨RJ0, "isLatin1", "()Z"⟩
abbrev cJ0_checkIndex_df160 : ByteArray := prog_12_method_155_code
def yJ0_checkIndex_df160 : MethodName := ⟨RJ0, "checkIndex", "(II)V"⟩
abbrev cJ0_checkBoundsBeginEnd_23922 : ByteArray := prog_12_method_158_code
def yJ0_checkBoundsBeginEnd_23922 : MethodName := ⟨RJ0, "checkBoundsBeginEnd", "(III)V"⟩
def RJ1 : String := "java/lang/StringLatin1"
def TJ1 : u_T := fun k => match k with
  | _ => ("", "", "", false)
def tyJ1 : Nat → FieldType := fun k => match k with
  | _ => .int
abbrev wsJ10 : List Cond := u_ws RJ1 TJ1 0
theorem nmJ1 : ∀ a, a < 0 → ∀ b, b < 0 → a ≠ b → (TJ1 a).2.1 ≠ (TJ1 b).2.1 := by decide +kernel
theorem tyJ1_ok : ∀ k, k < 0 → parseFieldDescriptor (TJ1 k).2.2.1 = some (tyJ1 k) := by decide +kernel
abbrev cJ1_charAt_3b067 : ByteArray := prog_13_method_2_code
def yJ1_charAt_3b067 : MethodName := ⟨RJ1, "charAt", "([BI)C"⟩
abbrev cJ1_canEncode_9a6ad : ByteArray := prog_13_method_4_code
def yJ1_canEncode_9a6ad : MethodName := ⟨RJ1, "canEncode", "(I)Z"⟩
abbrev cJ1_indexOf_4cfef : ByteArray := prog_13_method_22_code
def yJ1_indexOf_4cfef : MethodName := ⟨RJ1, "indexOf", "([BIII)I"⟩
abbrev cJ1_indexOfChar_4cfef : ByteArray := prog_13_method_23_code
def yJ1_indexOfChar_4cfef : MethodName := ⟨RJ1, "indexOfChar", "([BIII)I"⟩
def RJ2 : String := "java/lang/StringUTF16"
def TJ2 : u_T := fun k => match k with
  | _ => ("", "", "", false)
def tyJ2 : Nat → FieldType := fun k => match k with
  | _ => .int
abbrev wsJ20 : List Cond := u_ws RJ2 TJ2 0
theorem nmJ2 : ∀ a, a < 0 → ∀ b, b < 0 → a ≠ b → (TJ2 a).2.1 ≠ (TJ2 b).2.1 := by decide +kernel
theorem tyJ2_ok : ∀ k, k < 0 → parseFieldDescriptor (TJ2 k).2.2.1 = some (tyJ2 k) := by decide +kernel
abbrev cJ2_getChar_3b067 : ByteArray := prog_14_method_5_code
def yJ2_getChar_3b067 : MethodName := ⟨RJ2, "getChar", "([BI)C"⟩
abbrev cJ2_length_9d52b : ByteArray := prog_14_method_6_code
def yJ2_length_9d52b : MethodName := ⟨RJ2, "length", "([B)I"⟩
abbrev cJ2_indexOf_4cfef : ByteArray := prog_14_method_40_code
def yJ2_indexOf_4cfef : MethodName := ⟨RJ2, "indexOf", "([BIII)I"⟩
abbrev cJ2_indexOfChar_4cfef : ByteArray := prog_14_method_47_code
def yJ2_indexOfChar_4cfef : MethodName := ⟨RJ2, "indexOfChar", "([BIII)I"⟩
abbrev cJ2_indexOfCharUnsafe_4cfef : ByteArray := prog_14_method_48_code
def yJ2_indexOfCharUnsafe_4cfef : MethodName := ⟨RJ2, "indexOfCharUnsafe", "([BIII)I"⟩
abbrev cJ2_indexOfSupplementary_4cfef : ByteArray := prog_14_method_49_code
def yJ2_indexOfSupplementary_4cfef : MethodName := ⟨RJ2, "indexOfSupplementary", "([BIII)I"⟩
abbrev cJ2_charAt_3b067 : ByteArray := prog_14_method_83_code
def yJ2_charAt_3b067 : MethodName := ⟨RJ2, "charAt", "([BI)C"⟩
abbrev cJ2_checkIndex_2214a : ByteArray := prog_14_method_91_code
def yJ2_checkIndex_2214a : MethodName := ⟨RJ2, "checkIndex", "(I[B)V"⟩
abbrev cJ2_checkBoundsBeginEnd_d044e : ByteArray := prog_14_method_93_code
def yJ2_checkBoundsBeginEnd_d044e : MethodName := ⟨RJ2, "checkBoundsBeginEnd", "(II[B)V"⟩
def RJ10 : String := "java/lang/System"
def TJ10 : u_T := fun k => match k with
  | _ => ("", "", "", false)
def tyJ10 : Nat → FieldType := fun k => match k with
  | _ => .int
abbrev wsJ100 : List Cond := u_ws RJ10 TJ10 0
theorem nmJ10 : ∀ a, a < 0 → ∀ b, b < 0 → a ≠ b → (TJ10 a).2.1 ≠ (TJ10 b).2.1 := by decide +kernel
theorem tyJ10_ok : ∀ k, k < 0 → parseFieldDescriptor (TJ10 k).2.2.1 = some (tyJ10 k) := by decide +kernel
def RJ3 : String := "jdk/internal/util/Preconditions"
def TJ3 : u_T := fun k => match k with
  | _ => ("", "", "", false)
def tyJ3 : Nat → FieldType := fun k => match k with
  | _ => .int
abbrev wsJ30 : List Cond := u_ws RJ3 TJ3 0
theorem nmJ3 : ∀ a, a < 0 → ∀ b, b < 0 → a ≠ b → (TJ3 a).2.1 ≠ (TJ3 b).2.1 := by decide +kernel
theorem tyJ3_ok : ∀ k, k < 0 → parseFieldDescriptor (TJ3 k).2.2.1 = some (tyJ3 k) := by decide +kernel
abbrev cJ3_checkIndex_8e157 : ByteArray := prog_16_method_11_code
def yJ3_checkIndex_8e157 : MethodName := ⟨RJ3, "checkIndex", "(IILjava/util/function/BiFunction;)I"⟩
abbrev cJ3_checkFromToIndex_8c36e : ByteArray := prog_16_method_12_code
def yJ3_checkFromToIndex_8c36e : MethodName := ⟨RJ3, "checkFromToIndex", "(IIILjava/util/function/BiFunction;)I"⟩
def RL : String := "ChoirRoofLaw"
abbrev cL_law : ByteArray := code
def yL_law : MethodName := ⟨RL, "law", "([I)Z"⟩
end
section
/-! the words that any method may use: those of the tables that stay good -/
def wBig : List Cond := lw_tbl.filter goodWord
theorem wb_of {w : Cond} (h : w ∈ lw_tbl) (g : goodWord w = true) : w ∈ wBig := List.mem_filter.mpr ⟨h, g⟩
theorem wb_t {w : Cond} (h : w ∈ tables_1) : w ∈ lw_tbl := List.mem_append_right _ h
theorem wb1 {i : Nat} {w : Cond} (h : tables_1_1[i]? = some w) (g : goodWord w = true) : w ∈ wBig := wb_of (wb_t (List.mem_append_left _ (List.mem_of_getElem? h))) g
theorem wb2 {i : Nat} {w : Cond} (h : tables_1_2[i]? = some w) (g : goodWord w = true) : w ∈ wBig := wb_of (wb_t (List.mem_append_right _ (List.mem_append_left _ (List.mem_of_getElem? h)))) g
theorem wb3 {i : Nat} {w : Cond} (h : tables_1_3[i]? = some w) (g : goodWord w = true) : w ∈ wBig := wb_of (wb_t (List.mem_append_right _ (List.mem_append_right _ (List.mem_append_left _ (List.mem_of_getElem? h))))) g
theorem wb4 {i : Nat} {w : Cond} (h : tables_1_4[i]? = some w) (g : goodWord w = true) : w ∈ wBig := wb_of (wb_t (List.mem_append_right _ (List.mem_append_right _ (List.mem_append_right _ (List.mem_append_left _ (List.mem_of_getElem? h)))))) g
theorem wb5 {i : Nat} {w : Cond} (h : tables_1_5[i]? = some w) (g : goodWord w = true) : w ∈ wBig := wb_of (wb_t (List.mem_append_right _ (List.mem_append_right _ (List.mem_append_right _ (List.mem_append_right _ (List.mem_append_left _ (List.mem_of_getElem? h))))))) g
theorem wb6 {i : Nat} {w : Cond} (h : tables_1_6[i]? = some w) (g : goodWord w = true) : w ∈ wBig := wb_of (wb_t (List.mem_append_right _ (List.mem_append_right _ (List.mem_append_right _ (List.mem_append_right _ (List.mem_append_right _ (List.mem_of_getElem? h))))))) g
theorem wbP {i n : Nat} {y : MethodName} (h : lw_privs[i]? = some (y, n)) : Cond.selects y.cls y y ∈ wBig := wb_of (List.mem_append_left _ (List.mem_map.mpr ⟨(y, n), List.mem_of_getElem? h, rfl⟩)) rfl
theorem wBig_good : ∀ w ∈ wBig, goodWord w = true := fun w h => (List.mem_filter.mp h).2
theorem wBig_tbl : ∀ w ∈ wBig, w ∈ lw_tbl := fun w h => (List.mem_filter.mp h).1
/-! a row of code: place, length, instruction, what its operand names (resolved) -/
abbrev CE : Type := Nat × Nat × Instr × Nat × Nat
abbrev clsT : List vw_C := [(RX0, TX0, 5), (RX1, TX1, 15), (RX2, TX2, 4), (RX3, TX3, 9), (RX4, TX4, 12), (RX5, TX5, 11), (RX6, TX6, 23)]
theorem inB0 : ∀ w ∈ wsX00, w ∈ wBig := by
  intro w h
  obtain ⟨k, hk, rfl⟩ := List.mem_map.mp h
  have hk := List.mem_range.mp hk
  match k, hk with
  | 0, _ => exact wb1 (i := 62) rfl rfl
  | 1, _ => exact wb1 (i := 64) rfl rfl
  | 2, _ => exact wb1 (i := 66) rfl rfl
  | 3, _ => exact wb1 (i := 68) rfl rfl
  | 4, _ => exact wb1 (i := 70) rfl rfl
  | k + 5, hk => exact absurd hk (by omega)
theorem inB1 : ∀ w ∈ wsX10, w ∈ wBig := by
  intro w h
  obtain ⟨k, hk, rfl⟩ := List.mem_map.mp h
  have hk := List.mem_range.mp hk
  match k, hk with
  | 0, _ => exact wb1 (i := 205) rfl rfl
  | 1, _ => exact wb1 (i := 207) rfl rfl
  | 2, _ => exact wb1 (i := 209) rfl rfl
  | 3, _ => exact wb1 (i := 211) rfl rfl
  | 4, _ => exact wb1 (i := 213) rfl rfl
  | 5, _ => exact wb1 (i := 215) rfl rfl
  | 6, _ => exact wb1 (i := 217) rfl rfl
  | 7, _ => exact wb1 (i := 219) rfl rfl
  | 8, _ => exact wb1 (i := 221) rfl rfl
  | 9, _ => exact wb1 (i := 223) rfl rfl
  | 10, _ => exact wb1 (i := 225) rfl rfl
  | 11, _ => exact wb1 (i := 227) rfl rfl
  | 12, _ => exact wb1 (i := 229) rfl rfl
  | 13, _ => exact wb1 (i := 231) rfl rfl
  | 14, _ => exact wb1 (i := 233) rfl rfl
  | k + 15, hk => exact absurd hk (by omega)
theorem inB2 : ∀ w ∈ wsX20, w ∈ wBig := by
  intro w h
  obtain ⟨k, hk, rfl⟩ := List.mem_map.mp h
  have hk := List.mem_range.mp hk
  match k, hk with
  | 0, _ => exact wb1 (i := 36) rfl rfl
  | 1, _ => exact wb1 (i := 38) rfl rfl
  | 2, _ => exact wb1 (i := 40) rfl rfl
  | 3, _ => exact wb1 (i := 42) rfl rfl
  | k + 4, hk => exact absurd hk (by omega)
theorem inB3 : ∀ w ∈ wsX30, w ∈ wBig := by
  intro w h
  obtain ⟨k, hk, rfl⟩ := List.mem_map.mp h
  have hk := List.mem_range.mp hk
  match k, hk with
  | 0, _ => exact wb1 (i := 151) rfl rfl
  | 1, _ => exact wb1 (i := 153) rfl rfl
  | 2, _ => exact wb1 (i := 155) rfl rfl
  | 3, _ => exact wb1 (i := 157) rfl rfl
  | 4, _ => exact wb1 (i := 159) rfl rfl
  | 5, _ => exact wb1 (i := 161) rfl rfl
  | 6, _ => exact wb1 (i := 163) rfl rfl
  | 7, _ => exact wb1 (i := 165) rfl rfl
  | 8, _ => exact wb1 (i := 167) rfl rfl
  | k + 9, hk => exact absurd hk (by omega)
theorem inB4 : ∀ w ∈ wsX40, w ∈ wBig := by
  intro w h
  obtain ⟨k, hk, rfl⟩ := List.mem_map.mp h
  have hk := List.mem_range.mp hk
  match k, hk with
  | 0, _ => exact wb1 (i := 103) rfl rfl
  | 1, _ => exact wb1 (i := 105) rfl rfl
  | 2, _ => exact wb1 (i := 107) rfl rfl
  | 3, _ => exact wb1 (i := 109) rfl rfl
  | 4, _ => exact wb1 (i := 111) rfl rfl
  | 5, _ => exact wb1 (i := 113) rfl rfl
  | 6, _ => exact wb1 (i := 115) rfl rfl
  | 7, _ => exact wb1 (i := 117) rfl rfl
  | 8, _ => exact wb1 (i := 119) rfl rfl
  | 9, _ => exact wb1 (i := 121) rfl rfl
  | 10, _ => exact wb1 (i := 123) rfl rfl
  | 11, _ => exact wb1 (i := 125) rfl rfl
  | k + 12, hk => exact absurd hk (by omega)
theorem inB5 : ∀ w ∈ wsX50, w ∈ wBig := by
  intro w h
  obtain ⟨k, hk, rfl⟩ := List.mem_map.mp h
  have hk := List.mem_range.mp hk
  match k, hk with
  | 0, _ => exact wb2 (i := 7) rfl rfl
  | 1, _ => exact wb2 (i := 9) rfl rfl
  | 2, _ => exact wb2 (i := 11) rfl rfl
  | 3, _ => exact wb2 (i := 13) rfl rfl
  | 4, _ => exact wb2 (i := 15) rfl rfl
  | 5, _ => exact wb2 (i := 17) rfl rfl
  | 6, _ => exact wb2 (i := 19) rfl rfl
  | 7, _ => exact wb2 (i := 21) rfl rfl
  | 8, _ => exact wb2 (i := 23) rfl rfl
  | 9, _ => exact wb2 (i := 25) rfl rfl
  | 10, _ => exact wb2 (i := 27) rfl rfl
  | k + 11, hk => exact absurd hk (by omega)
theorem inB6 : ∀ w ∈ wsX60, w ∈ wBig := by
  intro w h
  obtain ⟨k, hk, rfl⟩ := List.mem_map.mp h
  have hk := List.mem_range.mp hk
  match k, hk with
  | 0, _ => exact wb4 (i := 118) rfl rfl
  | 1, _ => exact wb4 (i := 120) rfl rfl
  | 2, _ => exact wb4 (i := 122) rfl rfl
  | 3, _ => exact wb4 (i := 124) rfl rfl
  | 4, _ => exact wb4 (i := 126) rfl rfl
  | 5, _ => exact wb4 (i := 128) rfl rfl
  | 6, _ => exact wb4 (i := 130) rfl rfl
  | 7, _ => exact wb4 (i := 132) rfl rfl
  | 8, _ => exact wb4 (i := 134) rfl rfl
  | 9, _ => exact wb4 (i := 136) rfl rfl
  | 10, _ => exact wb4 (i := 138) rfl rfl
  | 11, _ => exact wb4 (i := 140) rfl rfl
  | 12, _ => exact wb4 (i := 142) rfl rfl
  | 13, _ => exact wb4 (i := 144) rfl rfl
  | 14, _ => exact wb4 (i := 146) rfl rfl
  | 15, _ => exact wb4 (i := 148) rfl rfl
  | 16, _ => exact wb4 (i := 150) rfl rfl
  | 17, _ => exact wb4 (i := 152) rfl rfl
  | 18, _ => exact wb4 (i := 154) rfl rfl
  | 19, _ => exact wb4 (i := 156) rfl rfl
  | 20, _ => exact wb4 (i := 158) rfl rfl
  | 21, _ => exact wb4 (i := 160) rfl rfl
  | 22, _ => exact wb4 (i := 162) rfl rfl
  | k + 23, hk => exact absurd hk (by omega)
def yT : List MethodName := [yJ6_compare_7cf53, yJ6_bitCount_0f7a4, yJ0_length_8abf5, yJ0_charAt_5068e, yJ0_indexOf_0f7a4, yJ0_indexOf_7cf53, yJ0_coder_7d493, yJ0_isLatin1_aae02, yJ0_checkIndex_df160, yJ1_charAt_3b067, yJ1_canEncode_9a6ad, yJ1_indexOf_4cfef, yJ1_indexOfChar_4cfef, yJ3_checkIndex_8e157, yX0_perform, yX0_callFrom, yX0_runBody, yX1_become, yX1_addSinger, yX1_addStone, yX1_highOf, yX1_canSing, yX1_singing, yX1_measure, yX1_forceOf, yX1_strengthOf, yX1_partners, yX1_bearing, yX1_allOf, yX1_allNow, yX1_hangs, yX1_sumHanging, yX1_looseBits, yX1_countFallen, yX1_sumTired, yX1_goBeat, yX1_goRound, yX1_keepNotes, yX2_read, yX2_peek, yX2_take, yX2_readClause, yX2_readWord, yX2_readRest, yX2_readNumber, yX2_readEither, yX2_readBoth, yX2_readFactor, yX2_readTest, yX2_indexOfNext, yX3_clear, yX3_addToken, yX3_addClause, yX3_gainOf, yX3_holds, yX4_become, yX5_feed, yX5_setting, yX5_singer, yX5_of, yX5_row, yX5_sing, yX5_tire, yX5_stone, yX5_at, yX5_prop, yX5_told, yX5_beat, yX5_on, yX5_steady, yX5_best, yX5_chord, yX5_needed, yX5_spare, yX5_shift, yX5_ill, yX5_canon, yX5_props, yX5_critical, yX5_load, yX5_dust, yX5_flat, yX5_order, yX5_odds, yX5_mean, yX5_wage, yX5_plan, yX5_planned, yX5_book, yX5_looked, yX5_act, yX5_trace, yX5_as, yX5_image, yX5_undo, yX5_count, yX5_isSinger, yX5_isStone, yX5_hasBit, yX5_bestNote, yX5_measureChords, yX5_chordNote, yX5_bestChord, yX5_singChord, yX5_looseOf, yX5_spareBits, yX5_setShift, yX5_isDustBy, yX5_sortHanging, yX5_inLowestTerms, yX5_commonDivisor, yX6_in, yX6_isSinger, yX6_isStone, yX6_doesSing, yX6_keeps, yX6_goesBack, yX6_feed, yX6_here, yX6_must, yX6_spells, yX6_figures, yX6_among, yX6_emits, yX6_factor, yX6_every, yX6_some, yX6_much, yX6_tellsHere, yX6_clauseHere, yX6_setting, yX6_tellsOf, yX6_looks, yX6_strengthOf, yX6_forceOf, yX6_isTune, yX6_looksForForces, yX6_isOf, yX6_tunesOf, yX6_bearsOf, yX6_allBy, yX6_singing, yX6_allNow, yX6_doesHang, yX6_looseBy, yX6_fallenMany, yX6_sizeOf, yX6_hangingWeight, yX6_singer, yX6_highOf, yX6_canSing, yX6_of, yX6_row, yX6_sing, yX6_tire, yX6_stone, yX6_at, yX6_prop, yX6_told, yX6_goesBy, yX6_goes, yX6_beat, yX6_on, yX6_steady, yX6_looksForNote, yX6_best, yX6_noteAbove, yX6_chordsFrom, yX6_chord, yX6_needed, yX6_looseMany, yX6_spare, yX6_fewestOf, yX6_shift, yX6_ill, yX6_goesRound, yX6_canon, yX6_weightOf, yX6_props, yX6_critical, yX6_load, yX6_dust, yX6_isDust, yX6_isFlat, yX6_flat, yX6_lightest, yX6_order, yX6_lowest, yX6_odds, yX6_mean, yX6_wage, yX6_plan, yX6_planned, yX6_book, yX6_looked, yX6_ranBody, yX6_isUnder, yX6_plainSings, yX6_singsActs, yX6_plainBears, yX6_bearsActs, yX6_plainTells, yX6_tellsActs, yX6_act, yX6_trace, yX6_as, yX6_image, yX6_undo, yX6_count, yL_law]
def bT : List ByteArray := [cJ6_compare_7cf53, cJ6_bitCount_0f7a4, cJ0_length_8abf5, cJ0_charAt_5068e, cJ0_indexOf_0f7a4, cJ0_indexOf_7cf53, cJ0_coder_7d493, cJ0_isLatin1_aae02, cJ0_checkIndex_df160, cJ1_charAt_3b067, cJ1_canEncode_9a6ad, cJ1_indexOf_4cfef, cJ1_indexOfChar_4cfef, cJ3_checkIndex_8e157, cX0_perform, cX0_callFrom, cX0_runBody, cX1_become, cX1_addSinger, cX1_addStone, cX1_highOf, cX1_canSing, cX1_singing, cX1_measure, cX1_forceOf, cX1_strengthOf, cX1_partners, cX1_bearing, cX1_allOf, cX1_allNow, cX1_hangs, cX1_sumHanging, cX1_looseBits, cX1_countFallen, cX1_sumTired, cX1_goBeat, cX1_goRound, cX1_keepNotes, cX2_read, cX2_peek, cX2_take, cX2_readClause, cX2_readWord, cX2_readRest, cX2_readNumber, cX2_readEither, cX2_readBoth, cX2_readFactor, cX2_readTest, cX2_indexOfNext, cX3_clear, cX3_addToken, cX3_addClause, cX3_gainOf, cX3_holds, cX4_become, cX5_feed, cX5_setting, cX5_singer, cX5_of, cX5_row, cX5_sing, cX5_tire, cX5_stone, cX5_at, cX5_prop, cX5_told, cX5_beat, cX5_on, cX5_steady, cX5_best, cX5_chord, cX5_needed, cX5_spare, cX5_shift, cX5_ill, cX5_canon, cX5_props, cX5_critical, cX5_load, cX5_dust, cX5_flat, cX5_order, cX5_odds, cX5_mean, cX5_wage, cX5_plan, cX5_planned, cX5_book, cX5_looked, cX5_act, cX5_trace, cX5_as, cX5_image, cX5_undo, cX5_count, cX5_isSinger, cX5_isStone, cX5_hasBit, cX5_bestNote, cX5_measureChords, cX5_chordNote, cX5_bestChord, cX5_singChord, cX5_looseOf, cX5_spareBits, cX5_setShift, cX5_isDustBy, cX5_sortHanging, cX5_inLowestTerms, cX5_commonDivisor, cX6_in, cX6_isSinger, cX6_isStone, cX6_doesSing, cX6_keeps, cX6_goesBack, cX6_feed, cX6_here, cX6_must, cX6_spells, cX6_figures, cX6_among, cX6_emits, cX6_factor, cX6_every, cX6_some, cX6_much, cX6_tellsHere, cX6_clauseHere, cX6_setting, cX6_tellsOf, cX6_looks, cX6_strengthOf, cX6_forceOf, cX6_isTune, cX6_looksForForces, cX6_isOf, cX6_tunesOf, cX6_bearsOf, cX6_allBy, cX6_singing, cX6_allNow, cX6_doesHang, cX6_looseBy, cX6_fallenMany, cX6_sizeOf, cX6_hangingWeight, cX6_singer, cX6_highOf, cX6_canSing, cX6_of, cX6_row, cX6_sing, cX6_tire, cX6_stone, cX6_at, cX6_prop, cX6_told, cX6_goesBy, cX6_goes, cX6_beat, cX6_on, cX6_steady, cX6_looksForNote, cX6_best, cX6_noteAbove, cX6_chordsFrom, cX6_chord, cX6_needed, cX6_looseMany, cX6_spare, cX6_fewestOf, cX6_shift, cX6_ill, cX6_goesRound, cX6_canon, cX6_weightOf, cX6_props, cX6_critical, cX6_load, cX6_dust, cX6_isDust, cX6_isFlat, cX6_flat, cX6_lightest, cX6_order, cX6_lowest, cX6_odds, cX6_mean, cX6_wage, cX6_plan, cX6_planned, cX6_book, cX6_looked, cX6_ranBody, cX6_isUnder, cX6_plainSings, cX6_singsActs, cX6_plainBears, cX6_bearsActs, cX6_plainTells, cX6_tellsActs, cX6_act, cX6_trace, cX6_as, cX6_image, cX6_undo, cX6_count, cL_law]
def mlT : List Nat := [2, 1, 1, 2, 2, 3, 1, 1, 2, 2, 1, 4, 6, 3, 3, 8, 4, 2, 5, 3, 2, 3, 3, 2, 3, 6, 6, 4, 4, 1, 2, 3, 5, 3, 3, 3, 4, 4, 5, 1, 2, 1, 3, 5, 3, 3, 3, 3, 4, 4, 1, 2, 4, 4, 9, 2, 2, 3, 4, 4, 5, 4, 4, 2, 3, 4, 2, 1, 6, 2, 4, 3, 6, 1, 5, 7, 5, 6, 9, 1, 3, 3, 7, 5, 5, 8, 3, 5, 3, 5, 4, 2, 5, 1, 1, 2, 2, 2, 2, 7, 3, 3, 6, 5, 2, 5, 5, 5, 4, 4, 6, 3, 2, 2, 2, 2, 2, 2, 1, 2, 3, 3, 3, 2, 5, 1, 1, 4, 4, 1, 2, 3, 11, 4, 3, 4, 2, 3, 5, 4, 4, 3, 1, 2, 5, 3, 3, 3, 6, 2, 3, 3, 5, 4, 4, 3, 3, 4, 2, 5, 1, 1, 6, 3, 5, 3, 4, 4, 4, 5, 2, 4, 4, 7, 6, 4, 6, 4, 5, 9, 1, 3, 4, 4, 3, 5, 7, 11, 5, 6, 9, 3, 5, 3, 2, 2, 2, 2, 2, 2, 2, 2, 3, 4, 2, 3, 2, 2, 2, 4]
def reT : List (Option FieldType) := [(some .int), (some .int), (some .int), (some .char), (some .int), (some .int), (some .byte), (some .boolean), none, (some .char), (some .boolean), (some .int), (some .int), (some .int), (some .int), (some .int), (some .int), none, (some .int), (some .int), (some .int), (some .boolean), (some .int), none, (some .int), (some .int), (some .int), (some .int), (some .int), (some .int), (some .boolean), (some .int), (some .int), (some .int), (some .int), (some .int), none, none, (some .int), (some .int), (some .boolean), (some .boolean), (some .boolean), (some .boolean), (some .int), (some .boolean), (some .boolean), (some .boolean), (some .boolean), (some .int), none, none, none, (some .int), (some .boolean), none, (some .int), (some .int), (some .int), (some .int), (some .int), (some .int), (some .int), (some .int), (some .int), (some .int), (some .int), (some .int), (some .int), (some .int), (some .int), (some .int), (some .int), (some .int), (some .int), (some .int), (some .int), (some .int), (some .int), (some .int), (some .int), (some .int), (some .int), (some .long), (some .long), (some .long), (some .int), (some .int), (some .int), (some .int), (some .int), (some .int), (some .int), (some .int), (some .int), (some .int), (some .boolean), (some .boolean), (some .boolean), (some .int), none, (some .int), (some .int), (some .int), (some .int), (some .int), (some .int), (some .boolean), (some .int), (some .long), (some .int), (some .boolean), (some .boolean), (some .boolean), (some .boolean), none, none, (some .int), (some .int), none, none, (some .int), (some .int), none, none, none, none, none, none, none, (some .int), (some .int), (some .int), (some .int), (some .int), (some .boolean), none, (some .boolean), (some .int), (some .int), (some .int), (some .int), (some .int), (some .boolean), (some .int), (some .int), (some .int), (some .int), (some .int), (some .int), (some .boolean), (some .int), (some .int), (some .int), (some .int), (some .int), (some .int), (some .int), (some .int), (some .int), (some .int), (some .int), (some .int), (some .int), none, (some .int), (some .int), none, (some .int), (some .int), (some .int), (some .int), (some .int), (some .int), (some .int), none, (some .int), (some .int), (some .int), (some .int), (some .int), (some .int), (some .boolean), (some .boolean), (some .int), (some .int), (some .int), (some .long), (some .long), (some .long), (some .long), (some .int), (some .int), (some .int), (some .int), none, (some .boolean), (some .int), (some .int), (some .int), (some .int), (some .int), (some .int), (some .int), (some .int), (some .int), (some .int), (some .int), (some .int), (some .boolean)]
def owT : List String := [RJ6, RJ6, RJ0, RJ0, RJ0, RJ0, RJ0, RJ0, RJ0, RJ1, RJ1, RJ1, RJ1, RJ3, RX0, RX0, RX0, RX1, RX1, RX1, RX1, RX1, RX1, RX1, RX1, RX1, RX1, RX1, RX1, RX1, RX1, RX1, RX1, RX1, RX1, RX1, RX1, RX1, RX2, RX2, RX2, RX2, RX2, RX2, RX2, RX2, RX2, RX2, RX2, RX2, RX3, RX3, RX3, RX3, RX3, RX4, RX5, RX5, RX5, RX5, RX5, RX5, RX5, RX5, RX5, RX5, RX5, RX5, RX5, RX5, RX5, RX5, RX5, RX5, RX5, RX5, RX5, RX5, RX5, RX5, RX5, RX5, RX5, RX5, RX5, RX5, RX5, RX5, RX5, RX5, RX5, RX5, RX5, RX5, RX5, RX5, RX5, RX5, RX5, RX5, RX5, RX5, RX5, RX5, RX5, RX5, RX5, RX5, RX5, RX5, RX5, RX6, RX6, RX6, RX6, RX6, RX6, RX6, RX6, RX6, RX6, RX6, RX6, RX6, RX6, RX6, RX6, RX6, RX6, RX6, RX6, RX6, RX6, RX6, RX6, RX6, RX6, RX6, RX6, RX6, RX6, RX6, RX6, RX6, RX6, RX6, RX6, RX6, RX6, RX6, RX6, RX6, RX6, RX6, RX6, RX6, RX6, RX6, RX6, RX6, RX6, RX6, RX6, RX6, RX6, RX6, RX6, RX6, RX6, RX6, RX6, RX6, RX6, RX6, RX6, RX6, RX6, RX6, RX6, RX6, RX6, RX6, RX6, RX6, RX6, RX6, RX6, RX6, RX6, RX6, RX6, RX6, RX6, RX6, RX6, RX6, RX6, RX6, RX6, RX6, RX6, RX6, RX6, RX6, RX6, RX6, RX6, RX6, RX6, RL]
def naT : List Nat := [2, 1, 0, 1, 1, 2, 0, 0, 2, 2, 1, 4, 4, 3, 2, 4, 3, 1, 3, 1, 1, 2, 0, 0, 1, 1, 2, 2, 1, 0, 1, 0, 1, 0, 0, 0, 0, 2, 3, 0, 1, 0, 1, 1, 0, 1, 1, 1, 0, 1, 0, 1, 3, 1, 2, 1, 1, 0, 3, 2, 3, 2, 2, 1, 2, 2, 1, 0, 2, 0, 2, 1, 0, 0, 2, 1, 2, 1, 1, 0, 2, 0, 1, 1, 2, 2, 2, 1, 2, 0, 3, 1, 2, 0, 0, 1, 1, 1, 2, 1, 0, 2, 0, 1, 1, 1, 0, 1, 0, 3, 2, 3, 1, 1, 1, 0, 0, 1, 0, 1, 1, 0, 1, 1, 0, 0, 0, 2, 2, 0, 0, 2, 1, 1, 1, 2, 0, 2, 2, 2, 1, 0, 0, 1, 1, 0, 1, 0, 3, 1, 2, 2, 3, 2, 2, 1, 2, 2, 1, 1, 0, 0, 2, 0, 1, 2, 2, 1, 1, 0, 1, 0, 1, 2, 1, 0, 2, 1, 1, 1, 0, 2, 1, 1, 0, 1, 1, 3, 1, 2, 2, 2, 1, 2, 0, 1, 2, 1, 1, 1, 1, 1, 1, 3, 1, 2, 0, 0, 1, 1]
def stT : List Bool := [true, true, false, false, false, false, false, false, true, true, true, true, true, true, false, false, false, false, false, false, false, false, false, false, false, false, false, false, false, false, false, false, false, false, false, false, false, false, false, false, false, false, false, false, false, false, false, false, false, false, false, false, false, false, false, false, false, false, false, false, false, false, false, false, false, false, false, false, false, false, false, false, false, false, false, false, false, false, false, false, false, false, false, false, false, false, false, false, false, false, false, false, false, false, false, false, false, false, true, false, false, false, false, false, false, false, false, false, false, true, true, true, false, false, false, false, false, false, false, false, false, false, false, false, false, false, false, false, false, false, false, false, false, false, false, true, false, false, false, false, false, false, false, false, false, false, true, false, false, false, false, false, false, false, false, false, false, false, false, false, false, false, false, false, false, false, false, false, false, false, false, false, false, false, false, false, false, false, false, false, false, false, false, false, false, false, false, true, false, false, false, false, false, false, false, false, true, false, false, false, false, false, false, false, false, false, false, false, false, true]
def ctT : List Nat := [99, 99, 20, 20, 20, 20, 20, 20, 20, 99, 99, 99, 99, 99, 0, 0, 0, 1, 1, 1, 1, 1, 1, 1, 1, 1, 1, 1, 1, 1, 1, 1, 1, 1, 1, 1, 1, 1, 2, 2, 2, 2, 2, 2, 2, 2, 2, 2, 2, 2, 3, 3, 3, 3, 3, 4, 5, 5, 5, 5, 5, 5, 5, 5, 5, 5, 5, 5, 5, 5, 5, 5, 5, 5, 5, 5, 5, 5, 5, 5, 5, 5, 5, 5, 5, 5, 5, 5, 5, 5, 5, 5, 5, 5, 5, 5, 5, 5, 5, 5, 5, 5, 5, 5, 5, 5, 5, 5, 5, 5, 5, 6, 6, 6, 6, 6, 6, 6, 6, 6, 6, 6, 6, 6, 6, 6, 6, 6, 6, 6, 6, 6, 6, 6, 6, 6, 6, 6, 6, 6, 6, 6, 6, 6, 6, 6, 6, 6, 6, 6, 6, 6, 6, 6, 6, 6, 6, 6, 6, 6, 6, 6, 6, 6, 6, 6, 6, 6, 6, 6, 6, 6, 6, 6, 6, 6, 6, 6, 6, 6, 6, 6, 6, 6, 6, 6, 6, 6, 6, 6, 6, 6, 6, 6, 6, 6, 6, 6, 6, 6, 6, 6, 6, 6, 6, 6, 6, 6, 6, 99]
def nM : Nat := 210
def yO (j : Nat) : MethodName := yT.getD j yX0_init
def bO (j : Nat) : ByteArray := bT.getD j cX0_init
def mlO (j : Nat) : Nat := mlT.getD j 0
def reO (j : Nat) : Option FieldType := reT.getD j none
def owO (j : Nat) : String := owT.getD j RX0
def naO (j : Nat) : Nat := naT.getD j 0
def stO (j : Nat) : Bool := stT.getD j false
def ctO (j : Nat) : Nat := ctT.getD j 99
abbrev jJ6_compare_7cf53 : Nat := 0
abbrev jJ6_bitCount_0f7a4 : Nat := 1
abbrev jJ0_length_8abf5 : Nat := 2
abbrev jJ0_charAt_5068e : Nat := 3
abbrev jJ0_indexOf_0f7a4 : Nat := 4
abbrev jJ0_indexOf_7cf53 : Nat := 5
abbrev jJ0_coder_7d493 : Nat := 6
abbrev jJ0_isLatin1_aae02 : Nat := 7
abbrev jJ0_checkIndex_df160 : Nat := 8
abbrev jJ1_charAt_3b067 : Nat := 9
abbrev jJ1_canEncode_9a6ad : Nat := 10
abbrev jJ1_indexOf_4cfef : Nat := 11
abbrev jJ1_indexOfChar_4cfef : Nat := 12
abbrev jJ3_checkIndex_8e157 : Nat := 13
abbrev jX0_perform : Nat := 14
abbrev jX0_callFrom : Nat := 15
abbrev jX0_runBody : Nat := 16
abbrev jX1_become : Nat := 17
abbrev jX1_addSinger : Nat := 18
abbrev jX1_addStone : Nat := 19
abbrev jX1_highOf : Nat := 20
abbrev jX1_canSing : Nat := 21
abbrev jX1_singing : Nat := 22
abbrev jX1_measure : Nat := 23
abbrev jX1_forceOf : Nat := 24
abbrev jX1_strengthOf : Nat := 25
abbrev jX1_partners : Nat := 26
abbrev jX1_bearing : Nat := 27
abbrev jX1_allOf : Nat := 28
abbrev jX1_allNow : Nat := 29
abbrev jX1_hangs : Nat := 30
abbrev jX1_sumHanging : Nat := 31
abbrev jX1_looseBits : Nat := 32
abbrev jX1_countFallen : Nat := 33
abbrev jX1_sumTired : Nat := 34
abbrev jX1_goBeat : Nat := 35
abbrev jX1_goRound : Nat := 36
abbrev jX1_keepNotes : Nat := 37
abbrev jX2_read : Nat := 38
abbrev jX2_peek : Nat := 39
abbrev jX2_take : Nat := 40
abbrev jX2_readClause : Nat := 41
abbrev jX2_readWord : Nat := 42
abbrev jX2_readRest : Nat := 43
abbrev jX2_readNumber : Nat := 44
abbrev jX2_readEither : Nat := 45
abbrev jX2_readBoth : Nat := 46
abbrev jX2_readFactor : Nat := 47
abbrev jX2_readTest : Nat := 48
abbrev jX2_indexOfNext : Nat := 49
abbrev jX3_clear : Nat := 50
abbrev jX3_addToken : Nat := 51
abbrev jX3_addClause : Nat := 52
abbrev jX3_gainOf : Nat := 53
abbrev jX3_holds : Nat := 54
abbrev jX4_become : Nat := 55
abbrev jX5_feed : Nat := 56
abbrev jX5_setting : Nat := 57
abbrev jX5_singer : Nat := 58
abbrev jX5_of : Nat := 59
abbrev jX5_row : Nat := 60
abbrev jX5_sing : Nat := 61
abbrev jX5_tire : Nat := 62
abbrev jX5_stone : Nat := 63
abbrev jX5_at : Nat := 64
abbrev jX5_prop : Nat := 65
abbrev jX5_told : Nat := 66
abbrev jX5_beat : Nat := 67
abbrev jX5_on : Nat := 68
abbrev jX5_steady : Nat := 69
abbrev jX5_best : Nat := 70
abbrev jX5_chord : Nat := 71
abbrev jX5_needed : Nat := 72
abbrev jX5_spare : Nat := 73
abbrev jX5_shift : Nat := 74
abbrev jX5_ill : Nat := 75
abbrev jX5_canon : Nat := 76
abbrev jX5_props : Nat := 77
abbrev jX5_critical : Nat := 78
abbrev jX5_load : Nat := 79
abbrev jX5_dust : Nat := 80
abbrev jX5_flat : Nat := 81
abbrev jX5_order : Nat := 82
abbrev jX5_odds : Nat := 83
abbrev jX5_mean : Nat := 84
abbrev jX5_wage : Nat := 85
abbrev jX5_plan : Nat := 86
abbrev jX5_planned : Nat := 87
abbrev jX5_book : Nat := 88
abbrev jX5_looked : Nat := 89
abbrev jX5_act : Nat := 90
abbrev jX5_trace : Nat := 91
abbrev jX5_as : Nat := 92
abbrev jX5_image : Nat := 93
abbrev jX5_undo : Nat := 94
abbrev jX5_count : Nat := 95
abbrev jX5_isSinger : Nat := 96
abbrev jX5_isStone : Nat := 97
abbrev jX5_hasBit : Nat := 98
abbrev jX5_bestNote : Nat := 99
abbrev jX5_measureChords : Nat := 100
abbrev jX5_chordNote : Nat := 101
abbrev jX5_bestChord : Nat := 102
abbrev jX5_singChord : Nat := 103
abbrev jX5_looseOf : Nat := 104
abbrev jX5_spareBits : Nat := 105
abbrev jX5_setShift : Nat := 106
abbrev jX5_isDustBy : Nat := 107
abbrev jX5_sortHanging : Nat := 108
abbrev jX5_inLowestTerms : Nat := 109
abbrev jX5_commonDivisor : Nat := 110
abbrev jX6_in : Nat := 111
abbrev jX6_isSinger : Nat := 112
abbrev jX6_isStone : Nat := 113
abbrev jX6_doesSing : Nat := 114
abbrev jX6_keeps : Nat := 115
abbrev jX6_goesBack : Nat := 116
abbrev jX6_feed : Nat := 117
abbrev jX6_here : Nat := 118
abbrev jX6_must : Nat := 119
abbrev jX6_spells : Nat := 120
abbrev jX6_figures : Nat := 121
abbrev jX6_among : Nat := 122
abbrev jX6_emits : Nat := 123
abbrev jX6_factor : Nat := 124
abbrev jX6_every : Nat := 125
abbrev jX6_some : Nat := 126
abbrev jX6_much : Nat := 127
abbrev jX6_tellsHere : Nat := 128
abbrev jX6_clauseHere : Nat := 129
abbrev jX6_setting : Nat := 130
abbrev jX6_tellsOf : Nat := 131
abbrev jX6_looks : Nat := 132
abbrev jX6_strengthOf : Nat := 133
abbrev jX6_forceOf : Nat := 134
abbrev jX6_isTune : Nat := 135
abbrev jX6_looksForForces : Nat := 136
abbrev jX6_isOf : Nat := 137
abbrev jX6_tunesOf : Nat := 138
abbrev jX6_bearsOf : Nat := 139
abbrev jX6_allBy : Nat := 140
abbrev jX6_singing : Nat := 141
abbrev jX6_allNow : Nat := 142
abbrev jX6_doesHang : Nat := 143
abbrev jX6_looseBy : Nat := 144
abbrev jX6_fallenMany : Nat := 145
abbrev jX6_sizeOf : Nat := 146
abbrev jX6_hangingWeight : Nat := 147
abbrev jX6_singer : Nat := 148
abbrev jX6_highOf : Nat := 149
abbrev jX6_canSing : Nat := 150
abbrev jX6_of : Nat := 151
abbrev jX6_row : Nat := 152
abbrev jX6_sing : Nat := 153
abbrev jX6_tire : Nat := 154
abbrev jX6_stone : Nat := 155
abbrev jX6_at : Nat := 156
abbrev jX6_prop : Nat := 157
abbrev jX6_told : Nat := 158
abbrev jX6_goesBy : Nat := 159
abbrev jX6_goes : Nat := 160
abbrev jX6_beat : Nat := 161
abbrev jX6_on : Nat := 162
abbrev jX6_steady : Nat := 163
abbrev jX6_looksForNote : Nat := 164
abbrev jX6_best : Nat := 165
abbrev jX6_noteAbove : Nat := 166
abbrev jX6_chordsFrom : Nat := 167
abbrev jX6_chord : Nat := 168
abbrev jX6_needed : Nat := 169
abbrev jX6_looseMany : Nat := 170
abbrev jX6_spare : Nat := 171
abbrev jX6_fewestOf : Nat := 172
abbrev jX6_shift : Nat := 173
abbrev jX6_ill : Nat := 174
abbrev jX6_goesRound : Nat := 175
abbrev jX6_canon : Nat := 176
abbrev jX6_weightOf : Nat := 177
abbrev jX6_props : Nat := 178
abbrev jX6_critical : Nat := 179
abbrev jX6_load : Nat := 180
abbrev jX6_dust : Nat := 181
abbrev jX6_isDust : Nat := 182
abbrev jX6_isFlat : Nat := 183
abbrev jX6_flat : Nat := 184
abbrev jX6_lightest : Nat := 185
abbrev jX6_order : Nat := 186
abbrev jX6_lowest : Nat := 187
abbrev jX6_odds : Nat := 188
abbrev jX6_mean : Nat := 189
abbrev jX6_wage : Nat := 190
abbrev jX6_plan : Nat := 191
abbrev jX6_planned : Nat := 192
abbrev jX6_book : Nat := 193
abbrev jX6_looked : Nat := 194
abbrev jX6_ranBody : Nat := 195
abbrev jX6_isUnder : Nat := 196
abbrev jX6_plainSings : Nat := 197
abbrev jX6_singsActs : Nat := 198
abbrev jX6_plainBears : Nat := 199
abbrev jX6_bearsActs : Nat := 200
abbrev jX6_plainTells : Nat := 201
abbrev jX6_tellsActs : Nat := 202
abbrev jX6_act : Nat := 203
abbrev jX6_trace : Nat := 204
abbrev jX6_as : Nat := 205
abbrev jX6_image : Nat := 206
abbrev jX6_undo : Nat := 207
abbrev jX6_count : Nat := 208
abbrev jL_law : Nat := 209
def kJ6_compare_7cf53 : List CE := [(0, 1, .iload_n 0, 0, 0), (1, 1, .iload_n 1, 0, 0), (2, 3, .if_icmp .ge 7, 0, 0), (5, 1, .iconst (-1), 0, 0), (6, 3, .goto 13, 0, 0), (9, 1, .iload_n 0, 0, 0), (10, 1, .iload_n 1, 0, 0), (11, 3, .if_icmp .ne 7, 0, 0), (14, 1, .iconst 0, 0, 0), (15, 3, .goto 4, 0, 0), (18, 1, .iconst 1, 0, 0), (19, 1, .ireturn, 1, 0)]
def kJ6_bitCount_0f7a4 : List CE := [(0, 1, .iload_n 0, 0, 0), (1, 1, .iload_n 0, 0, 0), (2, 1, .iconst 1, 0, 0), (3, 1, .iushr, 0, 0), (4, 3, .ldc_w 265, 0, 1431655765), (7, 1, .iand, 0, 0), (8, 1, .isub, 0, 0), (9, 1, .istore_n 0, 0, 0), (10, 1, .iload_n 0, 0, 0), (11, 3, .ldc_w 266, 0, 858993459), (14, 1, .iand, 0, 0), (15, 1, .iload_n 0, 0, 0), (16, 1, .iconst 2, 0, 0), (17, 1, .iushr, 0, 0), (18, 3, .ldc_w 266, 0, 858993459), (21, 1, .iand, 0, 0), (22, 1, .iadd, 0, 0), (23, 1, .istore_n 0, 0, 0), (24, 1, .iload_n 0, 0, 0), (25, 1, .iload_n 0, 0, 0), (26, 1, .iconst 4, 0, 0), (27, 1, .iushr, 0, 0), (28, 1, .iadd, 0, 0), (29, 3, .ldc_w 267, 0, 252645135), (32, 1, .iand, 0, 0), (33, 1, .istore_n 0, 0, 0), (34, 1, .iload_n 0, 0, 0), (35, 1, .iload_n 0, 0, 0), (36, 2, .bipush 8, 0, 0), (38, 1, .iushr, 0, 0), (39, 1, .iadd, 0, 0), (40, 1, .istore_n 0, 0, 0), (41, 1, .iload_n 0, 0, 0), (42, 1, .iload_n 0, 0, 0), (43, 2, .bipush 16, 0, 0), (45, 1, .iushr, 0, 0), (46, 1, .iadd, 0, 0), (47, 1, .istore_n 0, 0, 0), (48, 1, .iload_n 0, 0, 0), (49, 2, .bipush 63, 0, 0), (51, 1, .iand, 0, 0), (52, 1, .ireturn, 1, 0)]
def kJ0_length_8abf5 : List CE := [(0, 1, .aload_n 0, 0, 0), (1, 3, .getfield 9, 20, 0), (4, 1, .arraylength, 0, 0), (5, 1, .aload_n 0, 0, 0), (6, 3, .invokevirtual 335, 6, 1), (9, 1, .ishr, 0, 0), (10, 1, .ireturn, 1, 0)]
def kJ0_charAt_5068e : List CE := [(0, 1, .aload_n 0, 0, 0), (1, 3, .invokevirtual 492, 7, 1), (4, 3, .ifCond .eq 12, 0, 0), (7, 1, .aload_n 0, 0, 0), (8, 3, .getfield 9, 20, 0), (11, 1, .iload_n 1, 0, 0), (12, 3, .invokestatic 495, 9, 2), (15, 1, .ireturn, 3, 0), (16, 1, .aload_n 0, 0, 0), (17, 3, .getfield 9, 20, 0), (20, 1, .iload_n 1, 0, 0), (21, 3, .invokestatic 498, 2000, 0), (24, 1, .ireturn, 3, 0)]
def kJ0_indexOf_0f7a4 : List CE := [(0, 1, .aload_n 0, 0, 0), (1, 1, .iload_n 1, 0, 0), (2, 1, .iconst 0, 0, 0), (3, 3, .invokevirtual 633, 5, 3), (6, 1, .ireturn, 1, 0)]
def kJ0_indexOf_7cf53 : List CE := [(0, 1, .aload_n 0, 0, 0), (1, 3, .invokevirtual 492, 7, 1), (4, 3, .ifCond .eq 19, 0, 0), (7, 1, .aload_n 0, 0, 0), (8, 3, .getfield 9, 20, 0), (11, 1, .iload_n 1, 0, 0), (12, 1, .iload_n 2, 0, 0), (13, 1, .aload_n 0, 0, 0), (14, 3, .invokevirtual 505, 2, 1), (17, 3, .invokestatic 637, 11, 4), (20, 3, .goto 16, 0, 0), (23, 1, .aload_n 0, 0, 0), (24, 3, .getfield 9, 20, 0), (27, 1, .iload_n 1, 0, 0), (28, 1, .iload_n 2, 0, 0), (29, 1, .aload_n 0, 0, 0), (30, 3, .invokevirtual 505, 2, 1), (33, 3, .invokestatic 640, 2000, 0), (36, 1, .ireturn, 1, 0)]
def kJ0_coder_7d493 : List CE := [(0, 3, .getstatic 38, 0, 1), (3, 3, .ifCond .eq 10, 0, 0), (6, 1, .aload_n 0, 0, 0), (7, 3, .getfield 15, 20, 1), (10, 3, .goto 4, 0, 0), (13, 1, .iconst 1, 0, 0), (14, 1, .ireturn, 4, 0)]
def kJ0_isLatin1_aae02 : List CE := [(0, 3, .getstatic 38, 0, 1), (3, 3, .ifCond .eq 14, 0, 0), (6, 1, .aload_n 0, 0, 0), (7, 3, .getfield 15, 20, 1), (10, 3, .ifCond .ne 7, 0, 0), (13, 1, .iconst 1, 0, 0), (14, 3, .goto 4, 0, 0), (17, 1, .iconst 0, 0, 0), (18, 1, .ireturn, 2, 0)]
def kJ0_checkIndex_df160 : List CE := [(0, 1, .iload_n 0, 0, 0), (1, 1, .iload_n 1, 0, 0), (2, 3, .getstatic 1053, 2, 0), (5, 3, .invokestatic 1059, 13, 3), (8, 1, .pop, 0, 0), (9, 1, .return_, 0, 0)]
def kJ1_charAt_3b067 : List CE := [(0, 1, .iload_n 1, 0, 0), (1, 1, .aload_n 0, 0, 0), (2, 1, .arraylength, 0, 0), (3, 3, .invokestatic 9, 8, 2), (6, 1, .aload_n 0, 0, 0), (7, 1, .iload_n 1, 0, 0), (8, 1, .baload, 0, 0), (9, 3, .sipush 255, 0, 0), (12, 1, .iand, 0, 0), (13, 1, .i2c, 0, 0), (14, 1, .ireturn, 3, 0)]
def kJ1_canEncode_9a6ad : List CE := [(0, 1, .iload_n 0, 0, 0), (1, 3, .ifCond .lt 14, 0, 0), (4, 1, .iload_n 0, 0, 0), (5, 3, .sipush 255, 0, 0), (8, 3, .if_icmp .gt 7, 0, 0), (11, 1, .iconst 1, 0, 0), (12, 3, .goto 4, 0, 0), (15, 1, .iconst 0, 0, 0), (16, 1, .ireturn, 2, 0)]
def kJ1_indexOf_4cfef : List CE := [(0, 1, .iload_n 1, 0, 0), (1, 3, .invokestatic 88, 10, 1), (4, 3, .ifCond .ne 5, 0, 0), (7, 1, .iconst (-1), 0, 0), (8, 1, .ireturn, 1, 0), (9, 1, .iload_n 2, 0, 0), (10, 1, .iconst 0, 0, 0), (11, 3, .invokestatic 92, 1001, 0), (14, 1, .istore_n 2, 0, 0), (15, 1, .iload_n 3, 0, 0), (16, 1, .aload_n 0, 0, 0), (17, 1, .arraylength, 0, 0), (18, 3, .invokestatic 38, 1000, 0), (21, 1, .istore_n 3, 0, 0), (22, 1, .iload_n 2, 0, 0), (23, 1, .iload_n 3, 0, 0), (24, 3, .if_icmp .lt 5, 0, 0), (27, 1, .iconst (-1), 0, 0), (28, 1, .ireturn, 1, 0), (29, 1, .aload_n 0, 0, 0), (30, 1, .iload_n 1, 0, 0), (31, 1, .iload_n 2, 0, 0), (32, 1, .iload_n 3, 0, 0), (33, 3, .invokestatic 95, 12, 4), (36, 1, .ireturn, 1, 0)]
def kJ1_indexOfChar_4cfef : List CE := [(0, 1, .iload_n 1, 0, 0), (1, 1, .i2b, 0, 0), (2, 2, .istore 4, 0, 0), (4, 1, .iload_n 2, 0, 0), (5, 2, .istore 5, 0, 0), (7, 2, .iload 5, 0, 0), (9, 1, .iload_n 3, 0, 0), (10, 3, .if_icmp .ge 21, 0, 0), (13, 1, .aload_n 0, 0, 0), (14, 2, .iload 5, 0, 0), (16, 1, .baload, 0, 0), (17, 2, .iload 4, 0, 0), (19, 3, .if_icmp .ne 6, 0, 0), (22, 2, .iload 5, 0, 0), (24, 1, .ireturn, 1, 0), (25, 3, .iinc 5 1, 0, 0), (28, 3, .goto (-21), 0, 0), (31, 1, .iconst (-1), 0, 0), (32, 1, .ireturn, 1, 0)]
def kJ3_checkIndex_8e157 : List CE := [(0, 1, .iload_n 0, 0, 0), (1, 3, .ifCond .lt 8, 0, 0), (4, 1, .iload_n 0, 0, 0), (5, 1, .iload_n 1, 0, 0), (6, 3, .if_icmp .lt 10, 0, 0), (9, 1, .aload_n 2, 0, 0), (10, 1, .iload_n 0, 0, 0), (11, 1, .iload_n 1, 0, 0), (12, 3, .invokestatic 95, 2000, 0), (15, 1, .athrow, 0, 0), (16, 1, .iload_n 0, 0, 0), (17, 1, .ireturn, 1, 0)]
def kX0_perform : List CE := [(0, 1, .aload_n 0, 0, 0), (1, 1, .aload_n 0, 0, 0), (2, 3, .getfield 15, 0, 1), (5, 1, .iload_n 1, 0, 0), (6, 1, .iload_n 2, 0, 0), (7, 1, .iconst 0, 0, 0), (8, 3, .invokevirtual 19, 15, 5), (11, 1, .ireturn, 1, 0)]
def kX0_callFrom : List CE := [(0, 1, .iload_n 1, 0, 0), (1, 2, .istore 5, 0, 0), (3, 1, .iconst 0, 0, 0), (4, 2, .istore 6, 0, 0), (6, 2, .iload 6, 0, 0), (8, 2, .bipush 7, 0, 0), (10, 3, .if_icmp .ge 58, 0, 0), (13, 2, .iload 5, 0, 0), (15, 3, .ifCond .lt 53, 0, 0), (18, 2, .iload 5, 0, 0), (20, 2, .bipush 7, 0, 0), (22, 3, .if_icmp .ge 46, 0, 0), (25, 3, .getstatic 23, 1, 2), (28, 2, .iload 5, 0, 0), (30, 1, .iconst 3, 0, 0), (31, 1, .imul, 0, 0), (32, 1, .iload_n 2, 0, 0), (33, 1, .iadd, 0, 0), (34, 1, .iaload, 0, 0), (35, 2, .istore 7, 0, 0), (37, 2, .iload 7, 0, 0), (39, 3, .ifCond .eq 15, 0, 0), (42, 1, .aload_n 0, 0, 0), (43, 2, .iload 7, 0, 0), (45, 1, .iload_n 3, 0, 0), (46, 2, .iload 4, 0, 0), (48, 1, .iconst 1, 0, 0), (49, 1, .iadd, 0, 0), (50, 3, .invokevirtual 26, 16, 4), (53, 1, .ireturn, 1, 0), (54, 3, .getstatic 30, 1, 1), (57, 2, .iload 5, 0, 0), (59, 1, .iaload, 0, 0), (60, 2, .istore 5, 0, 0), (62, 3, .iinc 6 1, 0, 0), (65, 3, .goto (-59), 0, 0), (68, 1, .iconst 0, 0, 0), (69, 1, .ireturn, 1, 0)]
def kX0_runBody : List CE := [(0, 1, .iload_n 3, 0, 0), (1, 2, .bipush 16, 0, 0), (3, 3, .if_icmp .le 5, 0, 0), (6, 1, .iconst 0, 0, 0), (7, 1, .ireturn, 1, 0), (8, 1, .aload_n 0, 0, 0), (9, 3, .getfield 33, 0, 3), (12, 2, .bipush 20, 0, 0), (14, 3, .if_icmp .ge 13, 0, 0), (17, 1, .aload_n 0, 0, 0), (18, 3, .getfield 9, 0, 4), (21, 1, .aload_n 0, 0, 0), (22, 3, .getfield 33, 0, 3), (25, 1, .iload_n 1, 0, 0), (26, 1, .iastore, 0, 0), (27, 1, .aload_n 0, 0, 0), (28, 1, .dup, 0, 0), (29, 3, .getfield 33, 0, 3), (32, 1, .iconst 1, 0, 0), (33, 1, .iadd, 0, 0), (34, 3, .putfield 33, 0, 3), (37, 1, .iload_n 1, 0, 0), (38, 82, .lookupswitch 204 #[(1, 82), (2, 89), (3, 106), (11, 120), (21, 131), (31, 141), (41, 153), (51, 176), (61, 190)], 0, 0), (120, 1, .iload_n 2, 0, 0), (121, 1, .aload_n 0, 0, 0), (122, 3, .getfield 36, 0, 0), (125, 1, .iadd, 0, 0), (126, 1, .ireturn, 1, 0), (127, 1, .aload_n 0, 0, 0), (128, 1, .aload_n 0, 0, 0), (129, 3, .getfield 15, 0, 1), (132, 1, .iconst 0, 0, 0), (133, 1, .iload_n 2, 0, 0), (134, 1, .iload_n 3, 0, 0), (135, 3, .invokevirtual 19, 15, 5), (138, 1, .aload_n 0, 0, 0), (139, 3, .getfield 39, 0, 2), (142, 1, .isub, 0, 0), (143, 1, .ireturn, 1, 0), (144, 1, .aload_n 0, 0, 0), (145, 1, .aload_n 0, 0, 0), (146, 3, .getfield 15, 0, 1), (149, 1, .iconst 1, 0, 0), (150, 1, .iload_n 2, 0, 0), (151, 1, .iload_n 3, 0, 0), (152, 3, .invokevirtual 19, 15, 5), (155, 1, .iconst 2, 0, 0), (156, 1, .imul, 0, 0), (157, 1, .ireturn, 1, 0), (158, 1, .aload_n 0, 0, 0), (159, 1, .iconst 0, 0, 0), (160, 1, .iconst 0, 0, 0), (161, 1, .iload_n 2, 0, 0), (162, 1, .iconst 3, 0, 0), (163, 1, .imul, 0, 0), (164, 1, .iload_n 3, 0, 0), (165, 3, .invokevirtual 19, 15, 5), (168, 1, .ireturn, 1, 0), (169, 1, .aload_n 0, 0, 0), (170, 1, .iconst 0, 0, 0), (171, 1, .iconst 1, 0, 0), (172, 1, .iload_n 2, 0, 0), (173, 1, .iload_n 3, 0, 0), (174, 3, .invokevirtual 19, 15, 5), (177, 1, .ineg, 0, 0), (178, 1, .ireturn, 1, 0), (179, 1, .aload_n 0, 0, 0), (180, 1, .iconst 0, 0, 0), (181, 1, .iconst 2, 0, 0), (182, 1, .iload_n 2, 0, 0), (183, 1, .iload_n 3, 0, 0), (184, 3, .invokevirtual 19, 15, 5), (187, 2, .bipush 7, 0, 0), (189, 1, .ixor, 0, 0), (190, 1, .ireturn, 1, 0), (191, 1, .aload_n 0, 0, 0), (192, 1, .iconst 1, 0, 0), (193, 1, .iconst 2, 0, 0), (194, 1, .iload_n 2, 0, 0), (195, 1, .iconst 1, 0, 0), (196, 1, .isub, 0, 0), (197, 1, .iload_n 3, 0, 0), (198, 3, .invokevirtual 19, 15, 5), (201, 1, .aload_n 0, 0, 0), (202, 1, .aload_n 0, 0, 0), (203, 3, .getfield 15, 0, 1), (206, 1, .iconst 0, 0, 0), (207, 1, .iconst 2, 0, 0), (208, 1, .iload_n 3, 0, 0), (209, 3, .invokevirtual 19, 15, 5), (212, 1, .iadd, 0, 0), (213, 1, .ireturn, 1, 0), (214, 1, .aload_n 0, 0, 0), (215, 1, .iconst 2, 0, 0), (216, 1, .iconst 0, 0, 0), (217, 1, .iload_n 2, 0, 0), (218, 1, .iload_n 3, 0, 0), (219, 3, .invokevirtual 19, 15, 5), (222, 1, .aload_n 0, 0, 0), (223, 3, .getfield 36, 0, 0), (226, 1, .ixor, 0, 0), (227, 1, .ireturn, 1, 0), (228, 1, .aload_n 0, 0, 0), (229, 1, .iconst 3, 0, 0), (230, 1, .iconst 1, 0, 0), (231, 1, .iload_n 2, 0, 0), (232, 1, .iload_n 3, 0, 0), (233, 3, .invokevirtual 19, 15, 5), (236, 1, .aload_n 0, 0, 0), (237, 3, .getfield 39, 0, 2), (240, 1, .iadd, 0, 0), (241, 1, .ireturn, 1, 0), (242, 1, .iconst 0, 0, 0), (243, 1, .ireturn, 1, 0)]
def kX1_become : List CE := [(0, 1, .aload_n 0, 0, 0), (1, 1, .aload_n 1, 0, 0), (2, 3, .getfield 49, 1, 0), (5, 3, .putfield 49, 1, 0), (8, 1, .aload_n 0, 0, 0), (9, 1, .aload_n 1, 0, 0), (10, 3, .getfield 53, 1, 1), (13, 3, .putfield 53, 1, 1), (16, 1, .aload_n 0, 0, 0), (17, 1, .aload_n 1, 0, 0), (18, 3, .getfield 56, 1, 2), (21, 3, .putfield 56, 1, 2), (24, 1, .aload_n 0, 0, 0), (25, 1, .aload_n 1, 0, 0), (26, 3, .getfield 45, 1, 3), (29, 3, .putfield 45, 1, 3), (32, 1, .aload_n 1, 0, 0), (33, 3, .getfield 9, 1, 4), (36, 1, .iconst 0, 0, 0), (37, 1, .aload_n 0, 0, 0), (38, 3, .getfield 9, 1, 4), (41, 1, .iconst 0, 0, 0), (42, 2, .bipush 6, 0, 0), (44, 3, .invokestatic 59, 1003, 0), (47, 1, .aload_n 1, 0, 0), (48, 3, .getfield 15, 1, 5), (51, 1, .iconst 0, 0, 0), (52, 1, .aload_n 0, 0, 0), (53, 3, .getfield 15, 1, 5), (56, 1, .iconst 0, 0, 0), (57, 2, .bipush 6, 0, 0), (59, 3, .invokestatic 59, 1003, 0), (62, 1, .aload_n 1, 0, 0), (63, 3, .getfield 18, 1, 6), (66, 1, .iconst 0, 0, 0), (67, 1, .aload_n 0, 0, 0), (68, 3, .getfield 18, 1, 6), (71, 1, .iconst 0, 0, 0), (72, 2, .bipush 6, 0, 0), (74, 3, .invokestatic 59, 1003, 0), (77, 1, .aload_n 1, 0, 0), (78, 3, .getfield 21, 1, 7), (81, 1, .iconst 0, 0, 0), (82, 1, .aload_n 0, 0, 0), (83, 3, .getfield 21, 1, 7), (86, 1, .iconst 0, 0, 0), (87, 2, .bipush 6, 0, 0), (89, 3, .invokestatic 59, 1003, 0), (92, 1, .aload_n 1, 0, 0), (93, 3, .getfield 24, 1, 8), (96, 1, .iconst 0, 0, 0), (97, 1, .aload_n 0, 0, 0), (98, 3, .getfield 24, 1, 8), (101, 1, .iconst 0, 0, 0), (102, 2, .bipush 6, 0, 0), (104, 3, .invokestatic 59, 1003, 0), (107, 1, .aload_n 1, 0, 0), (108, 3, .getfield 27, 1, 9), (111, 1, .iconst 0, 0, 0), (112, 1, .aload_n 0, 0, 0), (113, 3, .getfield 27, 1, 9), (116, 1, .iconst 0, 0, 0), (117, 2, .bipush 24, 0, 0), (119, 3, .invokestatic 59, 1003, 0), (122, 1, .aload_n 1, 0, 0), (123, 3, .getfield 30, 1, 10), (126, 1, .iconst 0, 0, 0), (127, 1, .aload_n 0, 0, 0), (128, 3, .getfield 30, 1, 10), (131, 1, .iconst 0, 0, 0), (132, 2, .bipush 6, 0, 0), (134, 3, .invokestatic 59, 1003, 0), (137, 1, .aload_n 1, 0, 0), (138, 3, .getfield 33, 1, 11), (141, 1, .iconst 0, 0, 0), (142, 1, .aload_n 0, 0, 0), (143, 3, .getfield 33, 1, 11), (146, 1, .iconst 0, 0, 0), (147, 2, .bipush 6, 0, 0), (149, 3, .invokestatic 59, 1003, 0), (152, 1, .aload_n 1, 0, 0), (153, 3, .getfield 36, 1, 12), (156, 1, .iconst 0, 0, 0), (157, 1, .aload_n 0, 0, 0), (158, 3, .getfield 36, 1, 12), (161, 1, .iconst 0, 0, 0), (162, 2, .bipush 6, 0, 0), (164, 3, .invokestatic 59, 1003, 0), (167, 1, .return_, 0, 0)]
def kX1_addSinger : List CE := [(0, 1, .aload_n 0, 0, 0), (1, 3, .getfield 49, 1, 0), (4, 2, .istore 4, 0, 0), (6, 2, .iload 4, 0, 0), (8, 2, .bipush 6, 0, 0), (10, 3, .if_icmp .lt 6, 0, 0), (13, 2, .bipush (-4), 0, 0), (15, 1, .ireturn, 1, 0), (16, 1, .aload_n 0, 0, 0), (17, 3, .getfield 9, 1, 4), (20, 2, .iload 4, 0, 0), (22, 1, .iload_n 1, 0, 0), (23, 1, .iastore, 0, 0), (24, 1, .aload_n 0, 0, 0), (25, 3, .getfield 15, 1, 5), (28, 2, .iload 4, 0, 0), (30, 1, .iload_n 2, 0, 0), (31, 1, .iastore, 0, 0), (32, 1, .aload_n 0, 0, 0), (33, 3, .getfield 18, 1, 6), (36, 2, .iload 4, 0, 0), (38, 1, .iload_n 3, 0, 0), (39, 1, .iastore, 0, 0), (40, 1, .aload_n 0, 0, 0), (41, 3, .getfield 21, 1, 7), (44, 2, .iload 4, 0, 0), (46, 1, .iconst (-1), 0, 0), (47, 1, .iastore, 0, 0), (48, 1, .aload_n 0, 0, 0), (49, 1, .dup, 0, 0), (50, 3, .getfield 49, 1, 0), (53, 1, .iconst 1, 0, 0), (54, 1, .iadd, 0, 0), (55, 3, .putfield 49, 1, 0), (58, 2, .iload 4, 0, 0), (60, 1, .ireturn, 1, 0)]
def kX1_addStone : List CE := [(0, 1, .aload_n 0, 0, 0), (1, 3, .getfield 53, 1, 1), (4, 1, .istore_n 2, 0, 0), (5, 1, .iload_n 2, 0, 0), (6, 2, .bipush 6, 0, 0), (8, 3, .if_icmp .lt 6, 0, 0), (11, 2, .bipush (-4), 0, 0), (13, 1, .ireturn, 1, 0), (14, 1, .aload_n 0, 0, 0), (15, 3, .getfield 30, 1, 10), (18, 1, .iload_n 2, 0, 0), (19, 1, .iload_n 1, 0, 0), (20, 1, .iastore, 0, 0), (21, 1, .aload_n 0, 0, 0), (22, 1, .dup, 0, 0), (23, 3, .getfield 53, 1, 1), (26, 1, .iconst 1, 0, 0), (27, 1, .iadd, 0, 0), (28, 3, .putfield 53, 1, 1), (31, 1, .iload_n 2, 0, 0), (32, 1, .ireturn, 1, 0)]
def kX1_highOf : List CE := [(0, 2, .bipush 23, 0, 0), (2, 1, .aload_n 0, 0, 0), (3, 3, .getfield 18, 1, 6), (6, 1, .iload_n 1, 0, 0), (7, 1, .iaload, 0, 0), (8, 2, .bipush 11, 0, 0), (10, 1, .iadd, 0, 0), (11, 3, .invokestatic 65, 1000, 0), (14, 1, .ireturn, 1, 0)]
def kX1_canSing : List CE := [(0, 1, .iload_n 2, 0, 0), (1, 1, .aload_n 0, 0, 0), (2, 3, .getfield 18, 1, 6), (5, 1, .iload_n 1, 0, 0), (6, 1, .iaload, 0, 0), (7, 3, .if_icmp .lt 16, 0, 0), (10, 1, .iload_n 2, 0, 0), (11, 1, .aload_n 0, 0, 0), (12, 1, .iload_n 1, 0, 0), (13, 3, .invokevirtual 71, 20, 2), (16, 3, .if_icmp .gt 7, 0, 0), (19, 1, .iconst 1, 0, 0), (20, 3, .goto 4, 0, 0), (23, 1, .iconst 0, 0, 0), (24, 1, .ireturn, 2, 0)]
def kX1_singing : List CE := [(0, 1, .iconst 0, 0, 0), (1, 1, .istore_n 1, 0, 0), (2, 1, .iconst 0, 0, 0), (3, 1, .istore_n 2, 0, 0), (4, 1, .iload_n 2, 0, 0), (5, 1, .aload_n 0, 0, 0), (6, 3, .getfield 49, 1, 0), (9, 3, .if_icmp .ge 25, 0, 0), (12, 1, .aload_n 0, 0, 0), (13, 3, .getfield 21, 1, 7), (16, 1, .iload_n 2, 0, 0), (17, 1, .iaload, 0, 0), (18, 1, .iconst (-1), 0, 0), (19, 3, .if_icmp .eq 9, 0, 0), (22, 1, .iload_n 1, 0, 0), (23, 1, .iconst 1, 0, 0), (24, 1, .iload_n 2, 0, 0), (25, 1, .ishl, 0, 0), (26, 1, .ior, 0, 0), (27, 1, .istore_n 1, 0, 0), (28, 3, .iinc 2 1, 0, 0), (31, 3, .goto (-27), 0, 0), (34, 1, .iload_n 1, 0, 0), (35, 1, .ireturn, 1, 0)]
def kX1_measure : List CE := [(0, 1, .iconst 0, 0, 0), (1, 1, .istore_n 1, 0, 0), (2, 1, .iload_n 1, 0, 0), (3, 1, .aload_n 0, 0, 0), (4, 3, .getfield 49, 1, 0), (7, 3, .if_icmp .ge 34, 0, 0), (10, 1, .aload_n 0, 0, 0), (11, 3, .getfield 39, 1, 13), (14, 1, .iload_n 1, 0, 0), (15, 1, .aload_n 0, 0, 0), (16, 3, .getfield 21, 1, 7), (19, 1, .iload_n 1, 0, 0), (20, 1, .iaload, 0, 0), (21, 1, .iconst (-1), 0, 0), (22, 3, .if_icmp .ne 7, 0, 0), (25, 1, .iconst 0, 0, 0), (26, 3, .goto 8, 0, 0), (29, 1, .aload_n 0, 0, 0), (30, 1, .iload_n 1, 0, 0), (31, 3, .invokevirtual 75, 24, 2), (34, 1, .iastore, 0, 0), (35, 3, .iinc 1 1, 0, 0), (38, 3, .goto (-36), 0, 0), (41, 1, .return_, 0, 0)]
def kX1_forceOf : List CE := [(0, 1, .aload_n 0, 0, 0), (1, 3, .getfield 24, 1, 8), (4, 1, .iload_n 1, 0, 0), (5, 1, .iaload, 0, 0), (6, 2, .bipush 10, 0, 0), (8, 1, .idiv, 0, 0), (9, 1, .istore_n 2, 0, 0), (10, 1, .aload_n 0, 0, 0), (11, 3, .getfield 42, 1, 14), (14, 1, .iconst 0, 0, 0), (15, 1, .iload_n 1, 0, 0), (16, 1, .iastore, 0, 0), (17, 1, .aload_n 0, 0, 0), (18, 3, .getfield 42, 1, 14), (21, 1, .iconst 1, 0, 0), (22, 1, .aload_n 0, 0, 0), (23, 3, .getfield 9, 1, 4), (26, 1, .iload_n 1, 0, 0), (27, 1, .iaload, 0, 0), (28, 1, .iastore, 0, 0), (29, 1, .aload_n 0, 0, 0), (30, 3, .getfield 42, 1, 14), (33, 1, .iconst 2, 0, 0), (34, 1, .aload_n 0, 0, 0), (35, 3, .getfield 15, 1, 5), (38, 1, .iload_n 1, 0, 0), (39, 1, .iaload, 0, 0), (40, 1, .iastore, 0, 0), (41, 1, .aload_n 0, 0, 0), (42, 3, .getfield 42, 1, 14), (45, 1, .iconst 3, 0, 0), (46, 1, .aload_n 0, 0, 0), (47, 3, .getfield 21, 1, 7), (50, 1, .iload_n 1, 0, 0), (51, 1, .iaload, 0, 0), (52, 1, .iastore, 0, 0), (53, 1, .aload_n 0, 0, 0), (54, 3, .getfield 42, 1, 14), (57, 1, .iconst 4, 0, 0), (58, 1, .iload_n 2, 0, 0), (59, 1, .iastore, 0, 0), (60, 1, .aload_n 0, 0, 0), (61, 3, .getfield 42, 1, 14), (64, 1, .iconst 5, 0, 0), (65, 1, .aload_n 0, 0, 0), (66, 3, .getfield 56, 1, 2), (69, 2, .bipush 10, 0, 0), (71, 1, .irem, 0, 0), (72, 1, .iastore, 0, 0), (73, 1, .iconst 0, 0, 0), (74, 1, .aload_n 0, 0, 0), (75, 1, .iload_n 1, 0, 0), (76, 3, .invokevirtual 78, 25, 2), (79, 1, .aload_n 0, 0, 0), (80, 3, .getfield 45, 1, 3), (83, 1, .aload_n 0, 0, 0), (84, 3, .getfield 42, 1, 14), (87, 3, .invokevirtual 81, 53, 2), (90, 1, .iadd, 0, 0), (91, 1, .iload_n 2, 0, 0), (92, 1, .isub, 0, 0), (93, 3, .invokestatic 87, 1001, 0), (96, 1, .ireturn, 1, 0)]
def kX1_strengthOf : List CE := [(0, 1, .aload_n 0, 0, 0), (1, 3, .getfield 21, 1, 7), (4, 1, .iload_n 1, 0, 0), (5, 1, .iaload, 0, 0), (6, 2, .bipush 11, 0, 0), (8, 3, .if_icmp .gt 8, 0, 0), (11, 2, .bipush 12, 0, 0), (13, 3, .goto 5, 0, 0), (16, 2, .bipush 8, 0, 0), (18, 1, .istore_n 2, 0, 0), (19, 2, .bipush 8, 0, 0), (21, 1, .aload_n 0, 0, 0), (22, 3, .getfield 21, 1, 7), (25, 1, .iload_n 1, 0, 0), (26, 1, .iaload, 0, 0), (27, 1, .iconst 2, 0, 0), (28, 1, .idiv, 0, 0), (29, 1, .iadd, 0, 0), (30, 1, .istore_n 3, 0, 0), (31, 2, .bipush 10, 0, 0), (33, 1, .aload_n 0, 0, 0), (34, 3, .getfield 15, 1, 5), (37, 1, .iload_n 1, 0, 0), (38, 1, .iaload, 0, 0), (39, 1, .iadd, 0, 0), (40, 2, .istore 4, 0, 0), (42, 1, .aload_n 0, 0, 0), (43, 3, .getfield 15, 1, 5), (46, 1, .iload_n 1, 0, 0), (47, 1, .iaload, 0, 0), (48, 1, .iconst 2, 0, 0), (49, 1, .iadd, 0, 0), (50, 2, .istore 5, 0, 0), (52, 1, .aload_n 0, 0, 0), (53, 3, .getfield 9, 1, 4), (56, 1, .iload_n 1, 0, 0), (57, 1, .iaload, 0, 0), (58, 38, .tableswitch 101 1 6 #[38, 40, 42, 45, 59, 82], 0, 0), (96, 1, .iload_n 2, 0, 0), (97, 1, .ireturn, 1, 0), (98, 1, .iload_n 3, 0, 0), (99, 1, .ireturn, 1, 0), (100, 2, .iload 4, 0, 0), (102, 1, .ireturn, 1, 0), (103, 1, .iload_n 2, 0, 0), (104, 2, .bipush 23, 0, 0), (106, 1, .aload_n 0, 0, 0), (107, 3, .getfield 21, 1, 7), (110, 1, .iload_n 1, 0, 0), (111, 1, .iaload, 0, 0), (112, 1, .isub, 0, 0), (113, 1, .iconst 4, 0, 0), (114, 1, .idiv, 0, 0), (115, 1, .iadd, 0, 0), (116, 1, .ireturn, 1, 0), (117, 2, .iload 5, 0, 0), (119, 3, .ifCond .le 19, 0, 0), (122, 1, .aload_n 0, 0, 0), (123, 3, .getfield 56, 1, 2), (126, 1, .iload_n 1, 0, 0), (127, 1, .iadd, 0, 0), (128, 2, .iload 5, 0, 0), (130, 1, .irem, 0, 0), (131, 3, .ifCond .ne 7, 0, 0), (134, 1, .iconst 0, 0, 0), (135, 3, .goto 4, 0, 0), (138, 1, .iload_n 3, 0, 0), (139, 1, .ireturn, 1, 0), (140, 2, .iload 4, 0, 0), (142, 1, .aload_n 0, 0, 0), (143, 3, .getfield 27, 1, 9), (146, 1, .iload_n 1, 0, 0), (147, 1, .iconst 4, 0, 0), (148, 1, .imul, 0, 0), (149, 1, .aload_n 0, 0, 0), (150, 3, .getfield 56, 1, 2), (153, 1, .iconst 4, 0, 0), (154, 1, .irem, 0, 0), (155, 1, .iadd, 0, 0), (156, 1, .iaload, 0, 0), (157, 1, .iadd, 0, 0), (158, 1, .ireturn, 1, 0), (159, 2, .bipush 10, 0, 0), (161, 1, .ireturn, 1, 0)]
def kX1_partners : List CE := [(0, 1, .iconst 0, 0, 0), (1, 1, .istore_n 3, 0, 0), (2, 1, .iconst 0, 0, 0), (3, 2, .istore 4, 0, 0), (5, 2, .iload 4, 0, 0), (7, 1, .aload_n 0, 0, 0), (8, 3, .getfield 49, 1, 0), (11, 3, .if_icmp .ge 60, 0, 0), (14, 1, .aload_n 0, 0, 0), (15, 3, .getfield 21, 1, 7), (18, 1, .iload_n 1, 0, 0), (19, 1, .iaload, 0, 0), (20, 1, .aload_n 0, 0, 0), (21, 3, .getfield 21, 1, 7), (24, 2, .iload 4, 0, 0), (26, 1, .iaload, 0, 0), (27, 1, .isub, 0, 0), (28, 3, .invokestatic 90, 1002, 0), (31, 2, .bipush 12, 0, 0), (33, 1, .irem, 0, 0), (34, 2, .istore 5, 0, 0), (36, 2, .iload 4, 0, 0), (38, 1, .iload_n 1, 0, 0), (39, 3, .if_icmp .eq 26, 0, 0), (42, 1, .iload_n 2, 0, 0), (43, 2, .iload 4, 0, 0), (45, 3, .invokestatic 93, 98, 2), (48, 3, .ifCond .eq 17, 0, 0), (51, 3, .sipush 953, 0, 0), (54, 2, .iload 5, 0, 0), (56, 3, .invokestatic 93, 98, 2), (59, 3, .ifCond .eq 6, 0, 0), (62, 3, .iinc 3 1, 0, 0), (65, 3, .iinc 4 1, 0, 0), (68, 3, .goto (-63), 0, 0), (71, 1, .iload_n 3, 0, 0), (72, 1, .ireturn, 1, 0)]
def kX1_bearing : List CE := [(0, 1, .aload_n 0, 0, 0), (1, 1, .iload_n 1, 0, 0), (2, 1, .iload_n 2, 0, 0), (3, 3, .invokevirtual 97, 26, 3), (6, 1, .istore_n 3, 0, 0), (7, 1, .iload_n 3, 0, 0), (8, 3, .ifCond .ne 14, 0, 0), (11, 1, .aload_n 0, 0, 0), (12, 3, .getfield 39, 1, 13), (15, 1, .iload_n 1, 0, 0), (16, 1, .iaload, 0, 0), (17, 1, .iconst 2, 0, 0), (18, 1, .idiv, 0, 0), (19, 3, .goto 11, 0, 0), (22, 1, .aload_n 0, 0, 0), (23, 3, .getfield 39, 1, 13), (26, 1, .iload_n 1, 0, 0), (27, 1, .iaload, 0, 0), (28, 1, .iload_n 3, 0, 0), (29, 1, .imul, 0, 0), (30, 1, .ireturn, 1, 0)]
def kX1_allOf : List CE := [(0, 1, .iconst 0, 0, 0), (1, 1, .istore_n 2, 0, 0), (2, 1, .iconst 0, 0, 0), (3, 1, .istore_n 3, 0, 0), (4, 1, .iload_n 3, 0, 0), (5, 1, .aload_n 0, 0, 0), (6, 3, .getfield 49, 1, 0), (9, 3, .if_icmp .ge 26, 0, 0), (12, 1, .iload_n 1, 0, 0), (13, 1, .iload_n 3, 0, 0), (14, 3, .invokestatic 93, 98, 2), (17, 3, .ifCond .eq 12, 0, 0), (20, 1, .iload_n 2, 0, 0), (21, 1, .aload_n 0, 0, 0), (22, 1, .iload_n 3, 0, 0), (23, 1, .iload_n 1, 0, 0), (24, 3, .invokevirtual 100, 27, 3), (27, 1, .iadd, 0, 0), (28, 1, .istore_n 2, 0, 0), (29, 3, .iinc 3 1, 0, 0), (32, 3, .goto (-28), 0, 0), (35, 1, .iload_n 2, 0, 0), (36, 1, .ireturn, 1, 0)]
def kX1_allNow : List CE := [(0, 1, .aload_n 0, 0, 0), (1, 3, .invokevirtual 103, 23, 1), (4, 1, .aload_n 0, 0, 0), (5, 1, .aload_n 0, 0, 0), (6, 3, .invokevirtual 106, 22, 1), (9, 3, .invokevirtual 110, 28, 2), (12, 1, .ireturn, 1, 0)]
def kX1_hangs : List CE := [(0, 1, .aload_n 0, 0, 0), (1, 3, .getfield 33, 1, 11), (4, 1, .iload_n 1, 0, 0), (5, 1, .iaload, 0, 0), (6, 3, .ifCond .ne 16, 0, 0), (9, 1, .aload_n 0, 0, 0), (10, 3, .getfield 36, 1, 12), (13, 1, .iload_n 1, 0, 0), (14, 1, .iaload, 0, 0), (15, 3, .ifCond .ne 7, 0, 0), (18, 1, .iconst 1, 0, 0), (19, 3, .goto 4, 0, 0), (22, 1, .iconst 0, 0, 0), (23, 1, .ireturn, 2, 0)]
def kX1_sumHanging : List CE := [(0, 1, .iconst 0, 0, 0), (1, 1, .istore_n 1, 0, 0), (2, 1, .iconst 0, 0, 0), (3, 1, .istore_n 2, 0, 0), (4, 1, .iload_n 2, 0, 0), (5, 1, .aload_n 0, 0, 0), (6, 3, .getfield 53, 1, 1), (9, 3, .if_icmp .ge 30, 0, 0), (12, 1, .iload_n 1, 0, 0), (13, 1, .aload_n 0, 0, 0), (14, 1, .iload_n 2, 0, 0), (15, 3, .invokevirtual 113, 30, 2), (18, 3, .ifCond .eq 12, 0, 0), (21, 1, .aload_n 0, 0, 0), (22, 3, .getfield 30, 1, 10), (25, 1, .iload_n 2, 0, 0), (26, 1, .iaload, 0, 0), (27, 3, .goto 4, 0, 0), (30, 1, .iconst 0, 0, 0), (31, 1, .iadd, 0, 0), (32, 1, .istore_n 1, 0, 0), (33, 3, .iinc 2 1, 0, 0), (36, 3, .goto (-32), 0, 0), (39, 1, .iload_n 1, 0, 0), (40, 1, .ireturn, 1, 0)]
def kX1_looseBits : List CE := [(0, 1, .iconst 0, 0, 0), (1, 1, .istore_n 2, 0, 0), (2, 1, .iconst 0, 0, 0), (3, 1, .istore_n 3, 0, 0), (4, 1, .iconst 0, 0, 0), (5, 2, .istore 4, 0, 0), (7, 2, .iload 4, 0, 0), (9, 1, .aload_n 0, 0, 0), (10, 3, .getfield 53, 1, 1), (13, 3, .if_icmp .ge 44, 0, 0), (16, 1, .aload_n 0, 0, 0), (17, 2, .iload 4, 0, 0), (19, 3, .invokevirtual 113, 30, 2), (22, 3, .ifCond .eq 29, 0, 0), (25, 1, .iload_n 3, 0, 0), (26, 1, .aload_n 0, 0, 0), (27, 3, .getfield 30, 1, 10), (30, 2, .iload 4, 0, 0), (32, 1, .iaload, 0, 0), (33, 1, .iadd, 0, 0), (34, 1, .istore_n 3, 0, 0), (35, 1, .iload_n 2, 0, 0), (36, 1, .iload_n 3, 0, 0), (37, 1, .iload_n 1, 0, 0), (38, 3, .if_icmp .le 10, 0, 0), (41, 1, .iconst 1, 0, 0), (42, 2, .iload 4, 0, 0), (44, 1, .ishl, 0, 0), (45, 3, .goto 4, 0, 0), (48, 1, .iconst 0, 0, 0), (49, 1, .ior, 0, 0), (50, 1, .istore_n 2, 0, 0), (51, 3, .iinc 4 1, 0, 0), (54, 3, .goto (-47), 0, 0), (57, 1, .iload_n 2, 0, 0), (58, 1, .ireturn, 1, 0)]
def kX1_countFallen : List CE := [(0, 1, .iconst 0, 0, 0), (1, 1, .istore_n 1, 0, 0), (2, 1, .iconst 0, 0, 0), (3, 1, .istore_n 2, 0, 0), (4, 1, .iload_n 2, 0, 0), (5, 1, .aload_n 0, 0, 0), (6, 3, .getfield 53, 1, 1), (9, 3, .if_icmp .ge 18, 0, 0), (12, 1, .iload_n 1, 0, 0), (13, 1, .aload_n 0, 0, 0), (14, 3, .getfield 36, 1, 12), (17, 1, .iload_n 2, 0, 0), (18, 1, .iaload, 0, 0), (19, 1, .iadd, 0, 0), (20, 1, .istore_n 1, 0, 0), (21, 3, .iinc 2 1, 0, 0), (24, 3, .goto (-20), 0, 0), (27, 1, .iload_n 1, 0, 0), (28, 1, .ireturn, 1, 0)]
def kX1_sumTired : List CE := [(0, 1, .iconst 0, 0, 0), (1, 1, .istore_n 1, 0, 0), (2, 1, .iconst 0, 0, 0), (3, 1, .istore_n 2, 0, 0), (4, 1, .iload_n 2, 0, 0), (5, 1, .aload_n 0, 0, 0), (6, 3, .getfield 49, 1, 0), (9, 3, .if_icmp .ge 18, 0, 0), (12, 1, .iload_n 1, 0, 0), (13, 1, .aload_n 0, 0, 0), (14, 3, .getfield 24, 1, 8), (17, 1, .iload_n 2, 0, 0), (18, 1, .iaload, 0, 0), (19, 1, .iadd, 0, 0), (20, 1, .istore_n 1, 0, 0), (21, 3, .iinc 2 1, 0, 0), (24, 3, .goto (-20), 0, 0), (27, 1, .iload_n 1, 0, 0), (28, 1, .ireturn, 1, 0)]
def kX1_goBeat : List CE := [(0, 1, .aload_n 0, 0, 0), (1, 3, .invokevirtual 103, 23, 1), (4, 1, .aload_n 0, 0, 0), (5, 1, .aload_n 0, 0, 0), (6, 1, .aload_n 0, 0, 0), (7, 3, .invokevirtual 106, 22, 1), (10, 3, .invokevirtual 110, 28, 2), (13, 3, .invokevirtual 117, 32, 2), (16, 1, .istore_n 1, 0, 0), (17, 1, .iconst 0, 0, 0), (18, 1, .istore_n 2, 0, 0), (19, 1, .iload_n 2, 0, 0), (20, 1, .aload_n 0, 0, 0), (21, 3, .getfield 53, 1, 1), (24, 3, .if_icmp .ge 24, 0, 0), (27, 1, .iload_n 1, 0, 0), (28, 1, .iload_n 2, 0, 0), (29, 3, .invokestatic 93, 98, 2), (32, 3, .ifCond .eq 10, 0, 0), (35, 1, .aload_n 0, 0, 0), (36, 3, .getfield 36, 1, 12), (39, 1, .iload_n 2, 0, 0), (40, 1, .iconst 1, 0, 0), (41, 1, .iastore, 0, 0), (42, 3, .iinc 2 1, 0, 0), (45, 3, .goto (-26), 0, 0), (48, 1, .iconst 0, 0, 0), (49, 1, .istore_n 2, 0, 0), (50, 1, .iload_n 2, 0, 0), (51, 1, .aload_n 0, 0, 0), (52, 3, .getfield 49, 1, 0), (55, 3, .if_icmp .ge 65, 0, 0), (58, 1, .aload_n 0, 0, 0), (59, 3, .getfield 24, 1, 8), (62, 1, .iload_n 2, 0, 0), (63, 1, .aload_n 0, 0, 0), (64, 3, .getfield 21, 1, 7), (67, 1, .iload_n 2, 0, 0), (68, 1, .iaload, 0, 0), (69, 1, .iconst (-1), 0, 0), (70, 3, .if_icmp .ne 24, 0, 0), (73, 1, .iconst 0, 0, 0), (74, 1, .aload_n 0, 0, 0), (75, 3, .getfield 24, 1, 8), (78, 1, .iload_n 2, 0, 0), (79, 1, .iaload, 0, 0), (80, 1, .aload_n 0, 0, 0), (81, 3, .getfield 45, 1, 3), (84, 3, .getfield 120, 3, 2), (87, 1, .isub, 0, 0), (88, 3, .invokestatic 87, 1001, 0), (91, 3, .goto 22, 0, 0), (94, 2, .bipush 99, 0, 0), (96, 1, .aload_n 0, 0, 0), (97, 3, .getfield 24, 1, 8), (100, 1, .iload_n 2, 0, 0), (101, 1, .iaload, 0, 0), (102, 1, .aload_n 0, 0, 0), (103, 3, .getfield 45, 1, 3), (106, 3, .getfield 123, 3, 3), (109, 1, .iadd, 0, 0), (110, 3, .invokestatic 65, 1000, 0), (113, 1, .iastore, 0, 0), (114, 3, .iinc 2 1, 0, 0), (117, 3, .goto (-67), 0, 0), (120, 1, .aload_n 0, 0, 0), (121, 1, .dup, 0, 0), (122, 3, .getfield 56, 1, 2), (125, 1, .iconst 1, 0, 0), (126, 1, .iadd, 0, 0), (127, 3, .putfield 56, 1, 2), (130, 1, .iload_n 1, 0, 0), (131, 3, .invokestatic 126, 1, 1), (134, 1, .ireturn, 1, 0)]
def kX1_goRound : List CE := [(0, 1, .aload_n 0, 0, 0), (1, 3, .getfield 49, 1, 0), (4, 3, .ifCond .ne 4, 0, 0), (7, 1, .return_, 0, 0), (8, 1, .aload_n 0, 0, 0), (9, 3, .getfield 21, 1, 7), (12, 1, .aload_n 0, 0, 0), (13, 3, .getfield 49, 1, 0), (16, 1, .iconst 1, 0, 0), (17, 1, .isub, 0, 0), (18, 1, .iaload, 0, 0), (19, 1, .istore_n 1, 0, 0), (20, 1, .aload_n 0, 0, 0), (21, 3, .getfield 49, 1, 0), (24, 1, .iconst 1, 0, 0), (25, 1, .isub, 0, 0), (26, 1, .istore_n 2, 0, 0), (27, 1, .iload_n 2, 0, 0), (28, 3, .ifCond .lt 46, 0, 0), (31, 1, .iload_n 2, 0, 0), (32, 3, .ifCond .ne 7, 0, 0), (35, 1, .iload_n 1, 0, 0), (36, 3, .goto 11, 0, 0), (39, 1, .aload_n 0, 0, 0), (40, 3, .getfield 21, 1, 7), (43, 1, .iload_n 2, 0, 0), (44, 1, .iconst 1, 0, 0), (45, 1, .isub, 0, 0), (46, 1, .iaload, 0, 0), (47, 1, .istore_n 3, 0, 0), (48, 1, .aload_n 0, 0, 0), (49, 3, .getfield 21, 1, 7), (52, 1, .iload_n 2, 0, 0), (53, 1, .aload_n 0, 0, 0), (54, 1, .iload_n 2, 0, 0), (55, 1, .iload_n 3, 0, 0), (56, 3, .invokevirtual 131, 21, 3), (59, 3, .ifCond .eq 7, 0, 0), (62, 1, .iload_n 3, 0, 0), (63, 3, .goto 4, 0, 0), (66, 1, .iconst (-1), 0, 0), (67, 1, .iastore, 0, 0), (68, 3, .iinc 2 (-1), 0, 0), (71, 3, .goto (-44), 0, 0), (74, 1, .return_, 0, 0)]
def kX1_keepNotes : List CE := [(0, 1, .iconst 0, 0, 0), (1, 1, .istore_n 3, 0, 0), (2, 1, .iload_n 3, 0, 0), (3, 1, .aload_n 0, 0, 0), (4, 3, .getfield 49, 1, 0), (7, 3, .if_icmp .ge 33, 0, 0), (10, 1, .aload_n 0, 0, 0), (11, 3, .getfield 21, 1, 7), (14, 1, .iload_n 3, 0, 0), (15, 1, .iload_n 2, 0, 0), (16, 1, .iload_n 3, 0, 0), (17, 3, .invokestatic 93, 98, 2), (20, 3, .ifCond .eq 12, 0, 0), (23, 1, .aload_n 1, 0, 0), (24, 3, .getfield 21, 1, 7), (27, 1, .iload_n 3, 0, 0), (28, 1, .iaload, 0, 0), (29, 3, .goto 4, 0, 0), (32, 1, .iconst (-1), 0, 0), (33, 1, .iastore, 0, 0), (34, 3, .iinc 3 1, 0, 0), (37, 3, .goto (-35), 0, 0), (40, 1, .return_, 0, 0)]
def kX2_read : List CE := [(0, 1, .aload_n 0, 0, 0), (1, 1, .aload_n 1, 0, 0), (2, 3, .putfield 9, 2, 0), (5, 1, .aload_n 0, 0, 0), (6, 1, .iload_n 2, 0, 0), (7, 1, .aload_n 1, 0, 0), (8, 1, .arraylength, 0, 0), (9, 3, .invokestatic 15, 1000, 0), (12, 3, .putfield 21, 2, 1), (15, 1, .aload_n 0, 0, 0), (16, 1, .iconst 0, 0, 0), (17, 3, .putfield 25, 2, 2), (20, 1, .aload_n 0, 0, 0), (21, 1, .aload_n 3, 0, 0), (22, 3, .putfield 28, 2, 3), (25, 1, .aload_n 0, 0, 0), (26, 3, .getfield 28, 2, 3), (29, 3, .invokevirtual 32, 50, 1), (32, 1, .iconst 0, 0, 0), (33, 2, .istore 4, 0, 0), (35, 2, .iload 4, 0, 0), (37, 2, .bipush 10, 0, 0), (39, 3, .if_icmp .ge 55, 0, 0), (42, 1, .aload_n 0, 0, 0), (43, 3, .invokevirtual 37, 41, 1), (46, 3, .ifCond .ne 8, 0, 0), (49, 1, .aload_n 0, 0, 0), (50, 3, .getfield 25, 2, 2), (53, 1, .ireturn, 1, 0), (54, 1, .aload_n 0, 0, 0), (55, 3, .getfield 25, 2, 2), (58, 1, .aload_n 0, 0, 0), (59, 3, .getfield 21, 2, 1), (62, 3, .if_icmp .lt 5, 0, 0), (65, 1, .iconst (-1), 0, 0), (66, 1, .ireturn, 1, 0), (67, 2, .iload 4, 0, 0), (69, 2, .bipush 9, 0, 0), (71, 3, .if_icmp .eq 12, 0, 0), (74, 1, .aload_n 0, 0, 0), (75, 2, .bipush 59, 0, 0), (77, 3, .invokevirtual 41, 40, 2), (80, 3, .ifCond .ne 8, 0, 0), (83, 1, .aload_n 0, 0, 0), (84, 3, .getfield 25, 2, 2), (87, 1, .ireturn, 1, 0), (88, 3, .iinc 4 1, 0, 0), (91, 3, .goto (-56), 0, 0), (94, 1, .aload_n 0, 0, 0), (95, 3, .getfield 25, 2, 2), (98, 1, .ireturn, 1, 0)]
def kX2_peek : List CE := [(0, 1, .aload_n 0, 0, 0), (1, 3, .getfield 25, 2, 2), (4, 1, .aload_n 0, 0, 0), (5, 3, .getfield 21, 2, 1), (8, 3, .if_icmp .ge 15, 0, 0), (11, 1, .aload_n 0, 0, 0), (12, 3, .getfield 9, 2, 0), (15, 1, .aload_n 0, 0, 0), (16, 3, .getfield 25, 2, 2), (19, 1, .iaload, 0, 0), (20, 3, .goto 4, 0, 0), (23, 1, .iconst (-1), 0, 0), (24, 1, .ireturn, 1, 0)]
def kX2_take : List CE := [(0, 1, .aload_n 0, 0, 0), (1, 3, .invokevirtual 45, 39, 1), (4, 1, .iload_n 1, 0, 0), (5, 3, .if_icmp .eq 5, 0, 0), (8, 1, .iconst 0, 0, 0), (9, 1, .ireturn, 2, 0), (10, 1, .aload_n 0, 0, 0), (11, 1, .dup, 0, 0), (12, 3, .getfield 25, 2, 2), (15, 1, .iconst 1, 0, 0), (16, 1, .iadd, 0, 0), (17, 3, .putfield 25, 2, 2), (20, 1, .iconst 1, 0, 0), (21, 1, .ireturn, 2, 0)]
def kX2_readClause : List CE := [(0, 1, .aload_n 0, 0, 0), (1, 3, .invokevirtual 45, 39, 1), (4, 44, .lookupswitch 136 #[(100, 113), (101, 44), (108, 90), (119, 67)], 0, 0), (48, 1, .aload_n 0, 0, 0), (49, 2, .ldc 49, 1, 0), (51, 3, .invokevirtual 51, 42, 2), (54, 3, .ifCond .eq 15, 0, 0), (57, 1, .aload_n 0, 0, 0), (58, 1, .iconst 0, 0, 0), (59, 3, .invokevirtual 55, 43, 2), (62, 3, .ifCond .eq 7, 0, 0), (65, 1, .iconst 1, 0, 0), (66, 3, .goto 4, 0, 0), (69, 1, .iconst 0, 0, 0), (70, 1, .ireturn, 2, 0), (71, 1, .aload_n 0, 0, 0), (72, 2, .ldc 59, 1, 1), (74, 3, .invokevirtual 51, 42, 2), (77, 3, .ifCond .eq 15, 0, 0), (80, 1, .aload_n 0, 0, 0), (81, 1, .iconst 1, 0, 0), (82, 3, .invokevirtual 55, 43, 2), (85, 3, .ifCond .eq 7, 0, 0), (88, 1, .iconst 1, 0, 0), (89, 3, .goto 4, 0, 0), (92, 1, .iconst 0, 0, 0), (93, 1, .ireturn, 2, 0), (94, 1, .aload_n 0, 0, 0), (95, 2, .ldc 61, 1, 2), (97, 3, .invokevirtual 51, 42, 2), (100, 3, .ifCond .eq 15, 0, 0), (103, 1, .aload_n 0, 0, 0), (104, 1, .iconst 2, 0, 0), (105, 3, .invokevirtual 55, 43, 2), (108, 3, .ifCond .eq 7, 0, 0), (111, 1, .iconst 1, 0, 0), (112, 3, .goto 4, 0, 0), (115, 1, .iconst 0, 0, 0), (116, 1, .ireturn, 2, 0), (117, 1, .aload_n 0, 0, 0), (118, 2, .ldc 63, 1, 3), (120, 3, .invokevirtual 51, 42, 2), (123, 3, .ifCond .eq 15, 0, 0), (126, 1, .aload_n 0, 0, 0), (127, 1, .iconst 3, 0, 0), (128, 3, .invokevirtual 55, 43, 2), (131, 3, .ifCond .eq 7, 0, 0), (134, 1, .iconst 1, 0, 0), (135, 3, .goto 4, 0, 0), (138, 1, .iconst 0, 0, 0), (139, 1, .ireturn, 2, 0), (140, 1, .iconst 0, 0, 0), (141, 1, .ireturn, 2, 0)]
def kX2_readWord : List CE := [(0, 1, .iconst 0, 0, 0), (1, 1, .istore_n 2, 0, 0), (2, 1, .iload_n 2, 0, 0), (3, 1, .aload_n 1, 0, 0), (4, 3, .invokevirtual 65, 2, 1), (7, 3, .if_icmp .ge 23, 0, 0), (10, 1, .aload_n 0, 0, 0), (11, 1, .aload_n 1, 0, 0), (12, 1, .iload_n 2, 0, 0), (13, 3, .invokevirtual 70, 3, 2), (16, 3, .invokevirtual 41, 40, 2), (19, 3, .ifCond .ne 5, 0, 0), (22, 1, .iconst 0, 0, 0), (23, 1, .ireturn, 2, 0), (24, 3, .iinc 2 1, 0, 0), (27, 3, .goto (-25), 0, 0), (30, 1, .iconst 1, 0, 0), (31, 1, .ireturn, 2, 0)]
def kX2_readRest : List CE := [(0, 1, .aload_n 0, 0, 0), (1, 3, .invokevirtual 74, 44, 1), (4, 1, .istore_n 2, 0, 0), (5, 1, .iload_n 2, 0, 0), (6, 3, .ifCond .ge 5, 0, 0), (9, 1, .iconst 0, 0, 0), (10, 1, .ireturn, 2, 0), (11, 1, .aload_n 0, 0, 0), (12, 3, .getfield 28, 2, 3), (15, 3, .getfield 77, 3, 1), (18, 1, .istore_n 3, 0, 0), (19, 1, .iload_n 1, 0, 0), (20, 1, .iconst 2, 0, 0), (21, 3, .if_icmp .eq 8, 0, 0), (24, 1, .iload_n 1, 0, 0), (25, 1, .iconst 3, 0, 0), (26, 3, .if_icmp .ne 7, 0, 0), (29, 1, .iconst 1, 0, 0), (30, 3, .goto 4, 0, 0), (33, 1, .iconst 0, 0, 0), (34, 2, .istore 4, 0, 0), (36, 2, .iload 4, 0, 0), (38, 3, .ifCond .eq 22, 0, 0), (41, 1, .aload_n 0, 0, 0), (42, 2, .bipush 32, 0, 0), (44, 3, .invokevirtual 41, 40, 2), (47, 3, .ifCond .eq 11, 0, 0), (50, 1, .aload_n 0, 0, 0), (51, 1, .iconst 0, 0, 0), (52, 3, .invokevirtual 80, 45, 2), (55, 3, .ifCond .ne 5, 0, 0), (58, 1, .iconst 0, 0, 0), (59, 1, .ireturn, 2, 0), (60, 1, .aload_n 0, 0, 0), (61, 3, .getfield 28, 2, 3), (64, 1, .iload_n 1, 0, 0), (65, 1, .iload_n 2, 0, 0), (66, 1, .iload_n 3, 0, 0), (67, 3, .invokevirtual 83, 52, 4), (70, 1, .iconst 1, 0, 0), (71, 1, .ireturn, 2, 0)]
def kX2_readNumber : List CE := [(0, 1, .aload_n 0, 0, 0), (1, 3, .invokevirtual 45, 39, 1), (4, 2, .bipush 48, 0, 0), (6, 1, .isub, 0, 0), (7, 1, .istore_n 1, 0, 0), (8, 1, .iload_n 1, 0, 0), (9, 3, .ifCond .lt 9, 0, 0), (12, 1, .iload_n 1, 0, 0), (13, 2, .bipush 9, 0, 0), (15, 3, .if_icmp .le 5, 0, 0), (18, 1, .iconst (-1), 0, 0), (19, 1, .ireturn, 1, 0), (20, 1, .aload_n 0, 0, 0), (21, 1, .dup, 0, 0), (22, 3, .getfield 25, 2, 2), (25, 1, .iconst 1, 0, 0), (26, 1, .iadd, 0, 0), (27, 3, .putfield 25, 2, 2), (30, 1, .aload_n 0, 0, 0), (31, 3, .invokevirtual 45, 39, 1), (34, 2, .bipush 48, 0, 0), (36, 1, .isub, 0, 0), (37, 1, .istore_n 2, 0, 0), (38, 1, .iload_n 1, 0, 0), (39, 3, .ifCond .eq 13, 0, 0), (42, 1, .iload_n 2, 0, 0), (43, 3, .ifCond .lt 9, 0, 0), (46, 1, .iload_n 2, 0, 0), (47, 2, .bipush 9, 0, 0), (49, 3, .if_icmp .le 5, 0, 0), (52, 1, .iload_n 1, 0, 0), (53, 1, .ireturn, 1, 0), (54, 1, .aload_n 0, 0, 0), (55, 1, .dup, 0, 0), (56, 3, .getfield 25, 2, 2), (59, 1, .iconst 1, 0, 0), (60, 1, .iadd, 0, 0), (61, 3, .putfield 25, 2, 2), (64, 2, .bipush 10, 0, 0), (66, 1, .iload_n 1, 0, 0), (67, 1, .imul, 0, 0), (68, 1, .iload_n 2, 0, 0), (69, 1, .iadd, 0, 0), (70, 1, .ireturn, 1, 0)]
def kX2_readEither : List CE := [(0, 1, .aload_n 0, 0, 0), (1, 1, .iload_n 1, 0, 0), (2, 3, .invokevirtual 87, 46, 2), (5, 3, .ifCond .ne 5, 0, 0), (8, 1, .iconst 0, 0, 0), (9, 1, .ireturn, 2, 0), (10, 1, .iconst 0, 0, 0), (11, 1, .istore_n 2, 0, 0), (12, 1, .iload_n 2, 0, 0), (13, 2, .bipush 100, 0, 0), (15, 3, .if_icmp .ge 37, 0, 0), (18, 1, .aload_n 0, 0, 0), (19, 2, .bipush 124, 0, 0), (21, 3, .invokevirtual 41, 40, 2), (24, 3, .ifCond .eq 28, 0, 0), (27, 1, .aload_n 0, 0, 0), (28, 1, .iload_n 1, 0, 0), (29, 3, .invokevirtual 87, 46, 2), (32, 3, .ifCond .ne 5, 0, 0), (35, 1, .iconst 0, 0, 0), (36, 1, .ireturn, 2, 0), (37, 1, .aload_n 0, 0, 0), (38, 3, .getfield 28, 2, 3), (41, 2, .bipush (-3), 0, 0), (43, 3, .invokevirtual 90, 51, 2), (46, 3, .iinc 2 1, 0, 0), (49, 3, .goto (-37), 0, 0), (52, 1, .iconst 1, 0, 0), (53, 1, .ireturn, 2, 0)]
def kX2_readBoth : List CE := [(0, 1, .aload_n 0, 0, 0), (1, 1, .iload_n 1, 0, 0), (2, 3, .invokevirtual 94, 47, 2), (5, 3, .ifCond .ne 5, 0, 0), (8, 1, .iconst 0, 0, 0), (9, 1, .ireturn, 2, 0), (10, 1, .iconst 0, 0, 0), (11, 1, .istore_n 2, 0, 0), (12, 1, .iload_n 2, 0, 0), (13, 2, .bipush 100, 0, 0), (15, 3, .if_icmp .ge 37, 0, 0), (18, 1, .aload_n 0, 0, 0), (19, 2, .bipush 38, 0, 0), (21, 3, .invokevirtual 41, 40, 2), (24, 3, .ifCond .eq 28, 0, 0), (27, 1, .aload_n 0, 0, 0), (28, 1, .iload_n 1, 0, 0), (29, 3, .invokevirtual 94, 47, 2), (32, 3, .ifCond .ne 5, 0, 0), (35, 1, .iconst 0, 0, 0), (36, 1, .ireturn, 2, 0), (37, 1, .aload_n 0, 0, 0), (38, 3, .getfield 28, 2, 3), (41, 2, .bipush (-2), 0, 0), (43, 3, .invokevirtual 90, 51, 2), (46, 3, .iinc 2 1, 0, 0), (49, 3, .goto (-37), 0, 0), (52, 1, .iconst 1, 0, 0), (53, 1, .ireturn, 2, 0)]
def kX2_readFactor : List CE := [(0, 1, .aload_n 0, 0, 0), (1, 3, .invokevirtual 45, 39, 1), (4, 1, .istore_n 2, 0, 0), (5, 1, .iload_n 2, 0, 0), (6, 2, .bipush 33, 0, 0), (8, 3, .if_icmp .eq 14, 0, 0), (11, 1, .iload_n 2, 0, 0), (12, 2, .bipush 40, 0, 0), (14, 3, .if_icmp .eq 8, 0, 0), (17, 1, .aload_n 0, 0, 0), (18, 3, .invokevirtual 97, 48, 1), (21, 1, .ireturn, 2, 0), (22, 1, .iload_n 1, 0, 0), (23, 1, .iconst 5, 0, 0), (24, 3, .if_icmp .lt 5, 0, 0), (27, 1, .iconst 0, 0, 0), (28, 1, .ireturn, 2, 0), (29, 1, .aload_n 0, 0, 0), (30, 1, .dup, 0, 0), (31, 3, .getfield 25, 2, 2), (34, 1, .iconst 1, 0, 0), (35, 1, .iadd, 0, 0), (36, 3, .putfield 25, 2, 2), (39, 1, .iload_n 2, 0, 0), (40, 2, .bipush 40, 0, 0), (42, 3, .if_icmp .ne 28, 0, 0), (45, 1, .aload_n 0, 0, 0), (46, 1, .iload_n 1, 0, 0), (47, 1, .iconst 1, 0, 0), (48, 1, .iadd, 0, 0), (49, 3, .invokevirtual 80, 45, 2), (52, 3, .ifCond .eq 16, 0, 0), (55, 1, .aload_n 0, 0, 0), (56, 2, .bipush 41, 0, 0), (58, 3, .invokevirtual 41, 40, 2), (61, 3, .ifCond .eq 7, 0, 0), (64, 1, .iconst 1, 0, 0), (65, 3, .goto 4, 0, 0), (68, 1, .iconst 0, 0, 0), (69, 1, .ireturn, 2, 0), (70, 1, .aload_n 0, 0, 0), (71, 1, .iload_n 1, 0, 0), (72, 1, .iconst 1, 0, 0), (73, 1, .iadd, 0, 0), (74, 3, .invokevirtual 94, 47, 2), (77, 3, .ifCond .ne 5, 0, 0), (80, 1, .iconst 0, 0, 0), (81, 1, .ireturn, 2, 0), (82, 1, .aload_n 0, 0, 0), (83, 3, .getfield 28, 2, 3), (86, 1, .iconst (-1), 0, 0), (87, 3, .invokevirtual 90, 51, 2), (90, 1, .iconst 1, 0, 0), (91, 1, .ireturn, 2, 0)]
def kX2_readTest : List CE := [(0, 1, .aload_n 0, 0, 0), (1, 2, .ldc 100, 1, 4), (3, 3, .invokevirtual 102, 49, 2), (6, 1, .istore_n 1, 0, 0), (7, 1, .iload_n 1, 0, 0), (8, 3, .ifCond .ge 5, 0, 0), (11, 1, .iconst 0, 0, 0), (12, 1, .ireturn, 2, 0), (13, 1, .aload_n 0, 0, 0), (14, 2, .ldc 106, 1, 5), (16, 3, .invokevirtual 102, 49, 2), (19, 1, .istore_n 2, 0, 0), (20, 1, .iload_n 2, 0, 0), (21, 3, .ifCond .ge 5, 0, 0), (24, 1, .iconst 0, 0, 0), (25, 1, .ireturn, 2, 0), (26, 1, .aload_n 0, 0, 0), (27, 3, .invokevirtual 74, 44, 1), (30, 1, .istore_n 3, 0, 0), (31, 1, .iload_n 3, 0, 0), (32, 3, .ifCond .ge 5, 0, 0), (35, 1, .iconst 0, 0, 0), (36, 1, .ireturn, 2, 0), (37, 1, .aload_n 0, 0, 0), (38, 3, .getfield 28, 2, 3), (41, 1, .iload_n 1, 0, 0), (42, 3, .sipush 300, 0, 0), (45, 1, .imul, 0, 0), (46, 1, .iload_n 2, 0, 0), (47, 2, .bipush 100, 0, 0), (49, 1, .imul, 0, 0), (50, 1, .iadd, 0, 0), (51, 1, .iload_n 3, 0, 0), (52, 1, .iadd, 0, 0), (53, 3, .invokevirtual 90, 51, 2), (56, 1, .iconst 1, 0, 0), (57, 1, .ireturn, 2, 0)]
def kX2_indexOfNext : List CE := [(0, 1, .aload_n 0, 0, 0), (1, 3, .invokevirtual 45, 39, 1), (4, 1, .istore_n 2, 0, 0), (5, 1, .iload_n 2, 0, 0), (6, 3, .ifCond .ge 7, 0, 0), (9, 1, .iconst (-1), 0, 0), (10, 3, .goto 9, 0, 0), (13, 1, .aload_n 1, 0, 0), (14, 1, .iload_n 2, 0, 0), (15, 1, .i2c, 0, 0), (16, 3, .invokevirtual 108, 4, 2), (19, 1, .istore_n 3, 0, 0), (20, 1, .iload_n 3, 0, 0), (21, 3, .ifCond .lt 13, 0, 0), (24, 1, .aload_n 0, 0, 0), (25, 1, .dup, 0, 0), (26, 3, .getfield 25, 2, 2), (29, 1, .iconst 1, 0, 0), (30, 1, .iadd, 0, 0), (31, 3, .putfield 25, 2, 2), (34, 1, .iload_n 3, 0, 0), (35, 1, .ireturn, 1, 0)]
def kX3_clear : List CE := [(0, 1, .aload_n 0, 0, 0), (1, 1, .iconst 0, 0, 0), (2, 3, .putfield 30, 3, 0), (5, 1, .aload_n 0, 0, 0), (6, 1, .iconst 0, 0, 0), (7, 3, .putfield 34, 3, 1), (10, 1, .aload_n 0, 0, 0), (11, 1, .iconst 3, 0, 0), (12, 3, .putfield 37, 3, 2), (15, 1, .aload_n 0, 0, 0), (16, 1, .iconst 1, 0, 0), (17, 3, .putfield 40, 3, 3), (20, 1, .return_, 0, 0)]
def kX3_addToken : List CE := [(0, 1, .aload_n 0, 0, 0), (1, 3, .getfield 34, 3, 1), (4, 1, .aload_n 0, 0, 0), (5, 3, .getfield 24, 3, 8), (8, 1, .arraylength, 0, 0), (9, 3, .if_icmp .ge 23, 0, 0), (12, 1, .aload_n 0, 0, 0), (13, 3, .getfield 24, 3, 8), (16, 1, .aload_n 0, 0, 0), (17, 3, .getfield 34, 3, 1), (20, 1, .iload_n 1, 0, 0), (21, 1, .iastore, 0, 0), (22, 1, .aload_n 0, 0, 0), (23, 1, .dup, 0, 0), (24, 3, .getfield 34, 3, 1), (27, 1, .iconst 1, 0, 0), (28, 1, .iadd, 0, 0), (29, 3, .putfield 34, 3, 1), (32, 1, .return_, 0, 0)]
def kX3_addClause : List CE := [(0, 1, .aload_n 0, 0, 0), (1, 3, .getfield 30, 3, 0), (4, 2, .bipush 10, 0, 0), (6, 3, .if_icmp .lt 4, 0, 0), (9, 1, .return_, 0, 0), (10, 1, .aload_n 0, 0, 0), (11, 3, .getfield 9, 3, 4), (14, 1, .aload_n 0, 0, 0), (15, 3, .getfield 30, 3, 0), (18, 1, .iload_n 1, 0, 0), (19, 1, .iastore, 0, 0), (20, 1, .aload_n 0, 0, 0), (21, 3, .getfield 15, 3, 5), (24, 1, .aload_n 0, 0, 0), (25, 3, .getfield 30, 3, 0), (28, 1, .iload_n 2, 0, 0), (29, 1, .iastore, 0, 0), (30, 1, .aload_n 0, 0, 0), (31, 3, .getfield 18, 3, 6), (34, 1, .aload_n 0, 0, 0), (35, 3, .getfield 30, 3, 0), (38, 1, .iload_n 3, 0, 0), (39, 1, .iastore, 0, 0), (40, 1, .aload_n 0, 0, 0), (41, 3, .getfield 21, 3, 7), (44, 1, .aload_n 0, 0, 0), (45, 3, .getfield 30, 3, 0), (48, 1, .aload_n 0, 0, 0), (49, 3, .getfield 34, 3, 1), (52, 1, .iastore, 0, 0), (53, 1, .aload_n 0, 0, 0), (54, 1, .dup, 0, 0), (55, 3, .getfield 30, 3, 0), (58, 1, .iconst 1, 0, 0), (59, 1, .iadd, 0, 0), (60, 3, .putfield 30, 3, 0), (63, 1, .iload_n 1, 0, 0), (64, 3, .ifCond .ne 11, 0, 0), (67, 1, .aload_n 0, 0, 0), (68, 1, .iload_n 2, 0, 0), (69, 3, .putfield 37, 3, 2), (72, 3, .goto 13, 0, 0), (75, 1, .iload_n 1, 0, 0), (76, 1, .iconst 1, 0, 0), (77, 3, .if_icmp .ne 8, 0, 0), (80, 1, .aload_n 0, 0, 0), (81, 1, .iload_n 2, 0, 0), (82, 3, .putfield 40, 3, 3), (85, 1, .return_, 0, 0)]
def kX3_gainOf : List CE := [(0, 1, .iconst 0, 0, 0), (1, 1, .istore_n 2, 0, 0), (2, 1, .iconst 0, 0, 0), (3, 1, .istore_n 3, 0, 0), (4, 1, .iload_n 3, 0, 0), (5, 1, .aload_n 0, 0, 0), (6, 3, .getfield 30, 3, 0), (9, 3, .if_icmp .ge 68, 0, 0), (12, 1, .aload_n 0, 0, 0), (13, 3, .getfield 9, 3, 4), (16, 1, .iload_n 3, 0, 0), (17, 1, .iaload, 0, 0), (18, 1, .iconst 2, 0, 0), (19, 3, .if_icmp .ne 24, 0, 0), (22, 1, .aload_n 0, 0, 0), (23, 1, .iload_n 3, 0, 0), (24, 1, .aload_n 1, 0, 0), (25, 3, .invokevirtual 43, 54, 3), (28, 3, .ifCond .eq 15, 0, 0), (31, 1, .iload_n 2, 0, 0), (32, 1, .aload_n 0, 0, 0), (33, 3, .getfield 15, 3, 5), (36, 1, .iload_n 3, 0, 0), (37, 1, .iaload, 0, 0), (38, 1, .iadd, 0, 0), (39, 1, .istore_n 2, 0, 0), (40, 3, .goto 31, 0, 0), (43, 1, .aload_n 0, 0, 0), (44, 3, .getfield 9, 3, 4), (47, 1, .iload_n 3, 0, 0), (48, 1, .iaload, 0, 0), (49, 1, .iconst 3, 0, 0), (50, 3, .if_icmp .ne 21, 0, 0), (53, 1, .aload_n 0, 0, 0), (54, 1, .iload_n 3, 0, 0), (55, 1, .aload_n 1, 0, 0), (56, 3, .invokevirtual 43, 54, 3), (59, 3, .ifCond .eq 12, 0, 0), (62, 1, .iload_n 2, 0, 0), (63, 1, .aload_n 0, 0, 0), (64, 3, .getfield 15, 3, 5), (67, 1, .iload_n 3, 0, 0), (68, 1, .iaload, 0, 0), (69, 1, .isub, 0, 0), (70, 1, .istore_n 2, 0, 0), (71, 3, .iinc 3 1, 0, 0), (74, 3, .goto (-70), 0, 0), (77, 1, .iload_n 2, 0, 0), (78, 1, .ireturn, 1, 0)]
def kX3_holds : List CE := [(0, 1, .iconst 0, 0, 0), (1, 1, .istore_n 3, 0, 0), (2, 1, .aload_n 0, 0, 0), (3, 3, .getfield 18, 3, 6), (6, 1, .iload_n 1, 0, 0), (7, 1, .iaload, 0, 0), (8, 2, .istore 4, 0, 0), (10, 2, .iload 4, 0, 0), (12, 1, .aload_n 0, 0, 0), (13, 3, .getfield 21, 3, 7), (16, 1, .iload_n 1, 0, 0), (17, 1, .iaload, 0, 0), (18, 3, .if_icmp .ge 125, 0, 0), (21, 1, .aload_n 0, 0, 0), (22, 3, .getfield 24, 3, 8), (25, 2, .iload 4, 0, 0), (27, 1, .iaload, 0, 0), (28, 2, .istore 5, 0, 0), (30, 1, .iload_n 3, 0, 0), (31, 1, .iconst 1, 0, 0), (32, 1, .iand, 0, 0), (33, 2, .istore 6, 0, 0), (35, 2, .iload 5, 0, 0), (37, 3, .ifCond .lt 61, 0, 0), (40, 2, .iload 5, 0, 0), (42, 3, .sipush 300, 0, 0), (45, 1, .idiv, 0, 0), (46, 1, .aload_n 2, 0, 0), (47, 1, .arraylength, 0, 0), (48, 1, .iconst 1, 0, 0), (49, 1, .isub, 0, 0), (50, 3, .invokestatic 47, 1000, 0), (53, 2, .istore 7, 0, 0), (55, 1, .aload_n 2, 0, 0), (56, 2, .iload 7, 0, 0), (58, 1, .iaload, 0, 0), (59, 2, .iload 5, 0, 0), (61, 2, .bipush 100, 0, 0), (63, 1, .irem, 0, 0), (64, 3, .invokestatic 53, 0, 2), (67, 2, .istore 8, 0, 0), (69, 1, .iload_n 3, 0, 0), (70, 1, .iconst 1, 0, 0), (71, 1, .ishl, 0, 0), (72, 2, .iload 8, 0, 0), (74, 2, .iload 5, 0, 0), (76, 3, .sipush 300, 0, 0), (79, 1, .irem, 0, 0), (80, 2, .bipush 100, 0, 0), (82, 1, .idiv, 0, 0), (83, 1, .iconst 1, 0, 0), (84, 1, .isub, 0, 0), (85, 3, .if_icmp .ne 7, 0, 0), (88, 1, .iconst 1, 0, 0), (89, 3, .goto 4, 0, 0), (92, 1, .iconst 0, 0, 0), (93, 1, .ior, 0, 0), (94, 1, .istore_n 3, 0, 0), (95, 3, .goto 42, 0, 0), (98, 2, .iload 5, 0, 0), (100, 1, .iconst (-1), 0, 0), (101, 3, .if_icmp .ne 10, 0, 0), (104, 1, .iload_n 3, 0, 0), (105, 1, .iconst 1, 0, 0), (106, 1, .ixor, 0, 0), (107, 1, .istore_n 3, 0, 0), (108, 3, .goto 29, 0, 0), (111, 1, .iload_n 3, 0, 0), (112, 1, .iconst 1, 0, 0), (113, 1, .iushr, 0, 0), (114, 1, .istore_n 3, 0, 0), (115, 2, .iload 5, 0, 0), (117, 2, .bipush (-2), 0, 0), (119, 3, .if_icmp .ne 13, 0, 0), (122, 1, .iload_n 3, 0, 0), (123, 2, .iload 6, 0, 0), (125, 2, .bipush (-2), 0, 0), (127, 1, .ior, 0, 0), (128, 1, .iand, 0, 0), (129, 3, .goto 7, 0, 0), (132, 1, .iload_n 3, 0, 0), (133, 2, .iload 6, 0, 0), (135, 1, .ior, 0, 0), (136, 1, .istore_n 3, 0, 0), (137, 3, .iinc 4 1, 0, 0), (140, 3, .goto (-130), 0, 0), (143, 1, .iload_n 3, 0, 0), (144, 1, .iconst 1, 0, 0), (145, 1, .iand, 0, 0), (146, 3, .ifCond .eq 7, 0, 0), (149, 1, .iconst 1, 0, 0), (150, 3, .goto 4, 0, 0), (153, 1, .iconst 0, 0, 0), (154, 1, .ireturn, 2, 0)]
def kX4_become : List CE := [(0, 1, .aload_n 0, 0, 0), (1, 1, .aload_n 1, 0, 0), (2, 3, .getfield 33, 4, 0), (5, 3, .putfield 33, 4, 0), (8, 1, .aload_n 0, 0, 0), (9, 1, .aload_n 1, 0, 0), (10, 3, .getfield 37, 4, 1), (13, 3, .putfield 37, 4, 1), (16, 1, .aload_n 0, 0, 0), (17, 1, .aload_n 1, 0, 0), (18, 3, .getfield 40, 4, 2), (21, 3, .putfield 40, 4, 2), (24, 1, .aload_n 0, 0, 0), (25, 1, .aload_n 1, 0, 0), (26, 3, .getfield 43, 4, 3), (29, 3, .putfield 43, 4, 3), (32, 1, .aload_n 0, 0, 0), (33, 1, .aload_n 1, 0, 0), (34, 3, .getfield 46, 4, 4), (37, 3, .putfield 46, 4, 4), (40, 1, .aload_n 1, 0, 0), (41, 3, .getfield 9, 4, 5), (44, 1, .iconst 0, 0, 0), (45, 1, .aload_n 0, 0, 0), (46, 3, .getfield 9, 4, 5), (49, 1, .iconst 0, 0, 0), (50, 2, .bipush 100, 0, 0), (52, 3, .invokestatic 49, 1003, 0), (55, 1, .aload_n 1, 0, 0), (56, 3, .getfield 15, 4, 6), (59, 1, .iconst 0, 0, 0), (60, 1, .aload_n 0, 0, 0), (61, 3, .getfield 15, 4, 6), (64, 1, .iconst 0, 0, 0), (65, 2, .bipush 6, 0, 0), (67, 3, .invokestatic 49, 1003, 0), (70, 1, .aload_n 1, 0, 0), (71, 3, .getfield 18, 4, 7), (74, 1, .iconst 0, 0, 0), (75, 1, .aload_n 0, 0, 0), (76, 3, .getfield 18, 4, 7), (79, 1, .iconst 0, 0, 0), (80, 2, .bipush 6, 0, 0), (82, 3, .invokestatic 49, 1003, 0), (85, 1, .aload_n 1, 0, 0), (86, 3, .getfield 21, 4, 8), (89, 1, .iconst 0, 0, 0), (90, 1, .aload_n 0, 0, 0), (91, 3, .getfield 21, 4, 8), (94, 1, .iconst 0, 0, 0), (95, 2, .bipush 8, 0, 0), (97, 3, .invokestatic 49, 1003, 0), (100, 1, .aload_n 1, 0, 0), (101, 3, .getfield 24, 4, 9), (104, 1, .iconst 0, 0, 0), (105, 1, .aload_n 0, 0, 0), (106, 3, .getfield 24, 4, 9), (109, 1, .iconst 0, 0, 0), (110, 2, .bipush 8, 0, 0), (112, 3, .invokestatic 49, 1003, 0), (115, 1, .aload_n 1, 0, 0), (116, 3, .getfield 27, 4, 10), (119, 1, .iconst 0, 0, 0), (120, 1, .aload_n 0, 0, 0), (121, 3, .getfield 27, 4, 10), (124, 1, .iconst 0, 0, 0), (125, 2, .bipush 8, 0, 0), (127, 3, .invokestatic 49, 1003, 0), (130, 1, .aload_n 1, 0, 0), (131, 3, .getfield 30, 4, 11), (134, 1, .iconst 0, 0, 0), (135, 1, .aload_n 0, 0, 0), (136, 3, .getfield 30, 4, 11), (139, 1, .iconst 0, 0, 0), (140, 2, .bipush 8, 0, 0), (142, 3, .invokestatic 49, 1003, 0), (145, 1, .return_, 0, 0)]
def kX5_feed : List CE := [(0, 1, .iload_n 1, 0, 0), (1, 3, .ifCond .lt 9, 0, 0), (4, 1, .iload_n 1, 0, 0), (5, 2, .bipush 127, 0, 0), (7, 3, .if_icmp .le 6, 0, 0), (10, 2, .bipush (-2), 0, 0), (12, 1, .ireturn, 1, 0), (13, 1, .aload_n 0, 0, 0), (14, 3, .getfield 34, 5, 6), (17, 3, .getfield 64, 4, 0), (20, 2, .bipush 100, 0, 0), (22, 3, .if_icmp .lt 6, 0, 0), (25, 2, .bipush (-4), 0, 0), (27, 1, .ireturn, 1, 0), (28, 1, .aload_n 0, 0, 0), (29, 3, .getfield 34, 5, 6), (32, 3, .getfield 68, 4, 5), (35, 1, .aload_n 0, 0, 0), (36, 3, .getfield 34, 5, 6), (39, 3, .getfield 64, 4, 0), (42, 1, .iload_n 1, 0, 0), (43, 1, .iastore, 0, 0), (44, 1, .aload_n 0, 0, 0), (45, 3, .getfield 34, 5, 6), (48, 1, .dup, 0, 0), (49, 3, .getfield 64, 4, 0), (52, 1, .iconst 1, 0, 0), (53, 1, .iadd, 0, 0), (54, 3, .putfield 64, 4, 0), (57, 1, .aload_n 0, 0, 0), (58, 3, .getfield 34, 5, 6), (61, 3, .getfield 64, 4, 0), (64, 1, .ireturn, 1, 0)]
def kX5_setting : List CE := [(0, 1, .aload_n 0, 0, 0), (1, 3, .getfield 34, 5, 6), (4, 3, .getfield 71, 4, 1), (7, 1, .iconst 5, 0, 0), (8, 3, .if_icmp .lt 6, 0, 0), (11, 2, .bipush (-4), 0, 0), (13, 1, .ireturn, 1, 0), (14, 1, .aload_n 0, 0, 0), (15, 3, .getfield 13, 5, 0), (18, 1, .aload_n 0, 0, 0), (19, 3, .getfield 34, 5, 6), (22, 3, .getfield 71, 4, 1), (25, 1, .iconst 1, 0, 0), (26, 1, .iadd, 0, 0), (27, 1, .aaload, 0, 0), (28, 1, .astore_n 1, 0, 0), (29, 1, .aload_n 0, 0, 0), (30, 3, .getfield 20, 5, 1), (33, 1, .aload_n 0, 0, 0), (34, 3, .getfield 34, 5, 6), (37, 3, .getfield 68, 4, 5), (40, 1, .aload_n 0, 0, 0), (41, 3, .getfield 34, 5, 6), (44, 3, .getfield 64, 4, 0), (47, 1, .aload_n 1, 0, 0), (48, 3, .invokevirtual 73, 38, 4), (51, 1, .istore_n 2, 0, 0), (52, 1, .aload_n 0, 0, 0), (53, 3, .getfield 34, 5, 6), (56, 1, .iconst 0, 0, 0), (57, 3, .putfield 64, 4, 0), (60, 1, .iload_n 2, 0, 0), (61, 3, .ifCond .lt 8, 0, 0), (64, 2, .bipush (-10), 0, 0), (66, 1, .iload_n 2, 0, 0), (67, 1, .isub, 0, 0), (68, 1, .ireturn, 1, 0), (69, 1, .aload_n 0, 0, 0), (70, 3, .getfield 54, 5, 3), (73, 1, .aload_n 1, 0, 0), (74, 3, .putfield 77, 1, 3), (77, 1, .aload_n 0, 0, 0), (78, 3, .getfield 34, 5, 6), (81, 1, .dup, 0, 0), (82, 3, .getfield 71, 4, 1), (85, 1, .iconst 1, 0, 0), (86, 1, .iadd, 0, 0), (87, 3, .putfield 71, 4, 1), (90, 1, .aload_n 0, 0, 0), (91, 3, .getfield 34, 5, 6), (94, 3, .getfield 71, 4, 1), (97, 1, .iconst 1, 0, 0), (98, 1, .isub, 0, 0), (99, 1, .ireturn, 1, 0)]
def kX5_singer : List CE := [(0, 1, .iload_n 1, 0, 0), (1, 3, .ifCond .lt 9, 0, 0), (4, 1, .iload_n 1, 0, 0), (5, 2, .bipush 7, 0, 0), (7, 3, .if_icmp .lt 5, 0, 0), (10, 1, .iconst (-1), 0, 0), (11, 1, .ireturn, 1, 0), (12, 1, .iload_n 2, 0, 0), (13, 3, .ifCond .lt 19, 0, 0), (16, 1, .iload_n 2, 0, 0), (17, 2, .bipush 9, 0, 0), (19, 3, .if_icmp .gt 13, 0, 0), (22, 1, .iload_n 3, 0, 0), (23, 3, .ifCond .lt 9, 0, 0), (26, 1, .iload_n 3, 0, 0), (27, 2, .bipush 23, 0, 0), (29, 3, .if_icmp .le 6, 0, 0), (32, 2, .bipush (-2), 0, 0), (34, 1, .ireturn, 1, 0), (35, 1, .aload_n 0, 0, 0), (36, 3, .getfield 54, 5, 3), (39, 3, .getfield 81, 1, 0), (42, 2, .bipush 6, 0, 0), (44, 3, .if_icmp .lt 6, 0, 0), (47, 2, .bipush (-4), 0, 0), (49, 1, .ireturn, 1, 0), (50, 1, .aload_n 0, 0, 0), (51, 3, .getfield 54, 5, 3), (54, 1, .iload_n 1, 0, 0), (55, 1, .iload_n 2, 0, 0), (56, 1, .iload_n 3, 0, 0), (57, 3, .invokevirtual 84, 18, 4), (60, 1, .ireturn, 1, 0)]
def kX5_of : List CE := [(0, 1, .aload_n 0, 0, 0), (1, 1, .iload_n 1, 0, 0), (2, 3, .invokevirtual 88, 96, 2), (5, 3, .ifCond .ne 5, 0, 0), (8, 1, .iconst (-1), 0, 0), (9, 1, .ireturn, 1, 0), (10, 1, .aload_n 0, 0, 0), (11, 3, .getfield 54, 5, 3), (14, 3, .getfield 92, 1, 7), (17, 1, .iload_n 1, 0, 0), (18, 1, .iaload, 0, 0), (19, 1, .iconst (-1), 0, 0), (20, 3, .if_icmp .eq 7, 0, 0), (23, 1, .iconst 1, 0, 0), (24, 3, .goto 4, 0, 0), (27, 1, .iconst 0, 0, 0), (28, 1, .istore_n 3, 0, 0), (29, 1, .aload_n 0, 0, 0), (30, 3, .getfield 54, 5, 3), (33, 3, .invokevirtual 95, 23, 1), (36, 1, .iload_n 2, 0, 0), (37, 47, .tableswitch 164 0 7 #[47, 57, 67, 77, 96, 106, 116, 140], 0, 0), (84, 1, .aload_n 0, 0, 0), (85, 3, .getfield 54, 5, 3), (88, 3, .getfield 98, 1, 4), (91, 1, .iload_n 1, 0, 0), (92, 1, .iaload, 0, 0), (93, 1, .ireturn, 1, 0), (94, 1, .aload_n 0, 0, 0), (95, 3, .getfield 54, 5, 3), (98, 3, .getfield 101, 1, 5), (101, 1, .iload_n 1, 0, 0), (102, 1, .iaload, 0, 0), (103, 1, .ireturn, 1, 0), (104, 1, .aload_n 0, 0, 0), (105, 3, .getfield 54, 5, 3), (108, 3, .getfield 104, 1, 6), (111, 1, .iload_n 1, 0, 0), (112, 1, .iaload, 0, 0), (113, 1, .ireturn, 1, 0), (114, 1, .iload_n 3, 0, 0), (115, 3, .ifCond .eq 15, 0, 0), (118, 1, .aload_n 0, 0, 0), (119, 3, .getfield 54, 5, 3), (122, 3, .getfield 92, 1, 7), (125, 1, .iload_n 1, 0, 0), (126, 1, .iaload, 0, 0), (127, 3, .goto 5, 0, 0), (130, 2, .bipush (-5), 0, 0), (132, 1, .ireturn, 1, 0), (133, 1, .aload_n 0, 0, 0), (134, 3, .getfield 54, 5, 3), (137, 3, .getfield 107, 1, 8), (140, 1, .iload_n 1, 0, 0), (141, 1, .iaload, 0, 0), (142, 1, .ireturn, 1, 0), (143, 1, .aload_n 0, 0, 0), (144, 3, .getfield 54, 5, 3), (147, 3, .getfield 110, 1, 13), (150, 1, .iload_n 1, 0, 0), (151, 1, .iaload, 0, 0), (152, 1, .ireturn, 1, 0), (153, 1, .iload_n 3, 0, 0), (154, 3, .ifCond .eq 21, 0, 0), (157, 1, .aload_n 0, 0, 0), (158, 3, .getfield 54, 5, 3), (161, 1, .iload_n 1, 0, 0), (162, 1, .aload_n 0, 0, 0), (163, 3, .getfield 54, 5, 3), (166, 3, .invokevirtual 113, 22, 1), (169, 3, .invokevirtual 117, 27, 3), (172, 3, .goto 4, 0, 0), (175, 1, .iconst 0, 0, 0), (176, 1, .ireturn, 1, 0), (177, 1, .iload_n 3, 0, 0), (178, 3, .ifCond .eq 21, 0, 0), (181, 1, .aload_n 0, 0, 0), (182, 3, .getfield 54, 5, 3), (185, 1, .iload_n 1, 0, 0), (186, 1, .aload_n 0, 0, 0), (187, 3, .getfield 54, 5, 3), (190, 3, .invokevirtual 113, 22, 1), (193, 3, .invokevirtual 121, 26, 3), (196, 3, .goto 4, 0, 0), (199, 1, .iconst 0, 0, 0), (200, 1, .ireturn, 1, 0), (201, 1, .iconst (-1), 0, 0), (202, 1, .ireturn, 1, 0)]
def kX5_row : List CE := [(0, 1, .aload_n 0, 0, 0), (1, 1, .iload_n 1, 0, 0), (2, 3, .invokevirtual 88, 96, 2), (5, 3, .ifCond .eq 12, 0, 0), (8, 1, .iload_n 2, 0, 0), (9, 3, .ifCond .lt 8, 0, 0), (12, 1, .iload_n 2, 0, 0), (13, 1, .iconst 4, 0, 0), (14, 3, .if_icmp .lt 5, 0, 0), (17, 1, .iconst (-1), 0, 0), (18, 1, .ireturn, 1, 0), (19, 1, .iload_n 3, 0, 0), (20, 3, .ifCond .lt 9, 0, 0), (23, 1, .iload_n 3, 0, 0), (24, 2, .bipush 9, 0, 0), (26, 3, .if_icmp .le 6, 0, 0), (29, 2, .bipush (-2), 0, 0), (31, 1, .ireturn, 1, 0), (32, 1, .aload_n 0, 0, 0), (33, 3, .getfield 54, 5, 3), (36, 3, .getfield 98, 1, 4), (39, 1, .iload_n 1, 0, 0), (40, 1, .iaload, 0, 0), (41, 2, .bipush 6, 0, 0), (43, 3, .if_icmp .eq 6, 0, 0), (46, 2, .bipush (-3), 0, 0), (48, 1, .ireturn, 1, 0), (49, 1, .aload_n 0, 0, 0), (50, 3, .getfield 54, 5, 3), (53, 3, .getfield 124, 1, 9), (56, 1, .iload_n 1, 0, 0), (57, 1, .iconst 4, 0, 0), (58, 1, .imul, 0, 0), (59, 1, .iload_n 2, 0, 0), (60, 1, .iadd, 0, 0), (61, 1, .iaload, 0, 0), (62, 2, .istore 4, 0, 0), (64, 1, .aload_n 0, 0, 0), (65, 3, .getfield 54, 5, 3), (68, 3, .getfield 124, 1, 9), (71, 1, .iload_n 1, 0, 0), (72, 1, .iconst 4, 0, 0), (73, 1, .imul, 0, 0), (74, 1, .iload_n 2, 0, 0), (75, 1, .iadd, 0, 0), (76, 1, .iload_n 3, 0, 0), (77, 1, .iastore, 0, 0), (78, 2, .iload 4, 0, 0), (80, 1, .ireturn, 1, 0)]
def kX5_sing : List CE := [(0, 1, .aload_n 0, 0, 0), (1, 1, .iload_n 1, 0, 0), (2, 3, .invokevirtual 88, 96, 2), (5, 3, .ifCond .ne 5, 0, 0), (8, 1, .iconst (-1), 0, 0), (9, 1, .ireturn, 1, 0), (10, 1, .iload_n 2, 0, 0), (11, 1, .iconst (-1), 0, 0), (12, 3, .if_icmp .eq 18, 0, 0), (15, 1, .aload_n 0, 0, 0), (16, 3, .getfield 54, 5, 3), (19, 1, .iload_n 1, 0, 0), (20, 1, .iload_n 2, 0, 0), (21, 3, .invokevirtual 127, 21, 3), (24, 3, .ifCond .ne 6, 0, 0), (27, 2, .bipush (-2), 0, 0), (29, 1, .ireturn, 1, 0), (30, 1, .aload_n 0, 0, 0), (31, 3, .getfield 54, 5, 3), (34, 3, .getfield 92, 1, 7), (37, 1, .iload_n 1, 0, 0), (38, 1, .iaload, 0, 0), (39, 1, .istore_n 3, 0, 0), (40, 1, .aload_n 0, 0, 0), (41, 3, .getfield 54, 5, 3), (44, 3, .getfield 92, 1, 7), (47, 1, .iload_n 1, 0, 0), (48, 1, .iload_n 2, 0, 0), (49, 1, .iastore, 0, 0), (50, 1, .iload_n 3, 0, 0), (51, 1, .iconst (-1), 0, 0), (52, 3, .if_icmp .ne 8, 0, 0), (55, 2, .bipush (-5), 0, 0), (57, 3, .goto 4, 0, 0), (60, 1, .iload_n 3, 0, 0), (61, 1, .ireturn, 1, 0)]
def kX5_tire : List CE := [(0, 1, .aload_n 0, 0, 0), (1, 1, .iload_n 1, 0, 0), (2, 3, .invokevirtual 88, 96, 2), (5, 3, .ifCond .ne 5, 0, 0), (8, 1, .iconst (-1), 0, 0), (9, 1, .ireturn, 1, 0), (10, 1, .iload_n 2, 0, 0), (11, 3, .ifCond .lt 9, 0, 0), (14, 1, .iload_n 2, 0, 0), (15, 2, .bipush 99, 0, 0), (17, 3, .if_icmp .le 6, 0, 0), (20, 2, .bipush (-2), 0, 0), (22, 1, .ireturn, 1, 0), (23, 1, .aload_n 0, 0, 0), (24, 3, .getfield 54, 5, 3), (27, 3, .getfield 107, 1, 8), (30, 1, .iload_n 1, 0, 0), (31, 1, .iaload, 0, 0), (32, 1, .istore_n 3, 0, 0), (33, 1, .aload_n 0, 0, 0), (34, 3, .getfield 54, 5, 3), (37, 3, .getfield 107, 1, 8), (40, 1, .iload_n 1, 0, 0), (41, 1, .iload_n 2, 0, 0), (42, 1, .iastore, 0, 0), (43, 1, .iload_n 3, 0, 0), (44, 1, .ireturn, 1, 0)]
def kX5_stone : List CE := [(0, 1, .iload_n 1, 0, 0), (1, 1, .iconst 1, 0, 0), (2, 3, .if_icmp .lt 9, 0, 0), (5, 1, .iload_n 1, 0, 0), (6, 2, .bipush 60, 0, 0), (8, 3, .if_icmp .le 6, 0, 0), (11, 2, .bipush (-2), 0, 0), (13, 1, .ireturn, 1, 0), (14, 1, .aload_n 0, 0, 0), (15, 3, .getfield 54, 5, 3), (18, 3, .getfield 131, 1, 1), (21, 2, .bipush 6, 0, 0), (23, 3, .if_icmp .lt 6, 0, 0), (26, 2, .bipush (-4), 0, 0), (28, 1, .ireturn, 1, 0), (29, 1, .aload_n 0, 0, 0), (30, 3, .getfield 54, 5, 3), (33, 1, .iload_n 1, 0, 0), (34, 3, .invokevirtual 134, 19, 2), (37, 1, .ireturn, 1, 0)]
def kX5_at : List CE := [(0, 1, .aload_n 0, 0, 0), (1, 1, .iload_n 1, 0, 0), (2, 3, .invokevirtual 138, 97, 2), (5, 3, .ifCond .ne 5, 0, 0), (8, 1, .iconst (-1), 0, 0), (9, 1, .ireturn, 1, 0), (10, 1, .iload_n 2, 0, 0), (11, 29, .tableswitch 78 0 3 #[29, 39, 49, 59], 0, 0), (40, 1, .aload_n 0, 0, 0), (41, 3, .getfield 54, 5, 3), (44, 3, .getfield 141, 1, 10), (47, 1, .iload_n 1, 0, 0), (48, 1, .iaload, 0, 0), (49, 1, .ireturn, 1, 0), (50, 1, .aload_n 0, 0, 0), (51, 3, .getfield 54, 5, 3), (54, 3, .getfield 144, 1, 11), (57, 1, .iload_n 1, 0, 0), (58, 1, .iaload, 0, 0), (59, 1, .ireturn, 1, 0), (60, 1, .aload_n 0, 0, 0), (61, 3, .getfield 54, 5, 3), (64, 3, .getfield 147, 1, 12), (67, 1, .iload_n 1, 0, 0), (68, 1, .iaload, 0, 0), (69, 1, .ireturn, 1, 0), (70, 1, .aload_n 0, 0, 0), (71, 3, .getfield 54, 5, 3), (74, 1, .aload_n 0, 0, 0), (75, 3, .getfield 54, 5, 3), (78, 3, .invokevirtual 150, 29, 1), (81, 3, .invokevirtual 153, 32, 2), (84, 1, .iload_n 1, 0, 0), (85, 1, .ishr, 0, 0), (86, 1, .iconst 1, 0, 0), (87, 1, .iand, 0, 0), (88, 1, .ireturn, 1, 0), (89, 1, .iconst (-1), 0, 0), (90, 1, .ireturn, 1, 0)]
def kX5_prop : List CE := [(0, 1, .aload_n 0, 0, 0), (1, 1, .iload_n 1, 0, 0), (2, 3, .invokevirtual 138, 97, 2), (5, 3, .ifCond .ne 5, 0, 0), (8, 1, .iconst (-1), 0, 0), (9, 1, .ireturn, 1, 0), (10, 1, .aload_n 0, 0, 0), (11, 3, .getfield 54, 5, 3), (14, 3, .getfield 147, 1, 12), (17, 1, .iload_n 1, 0, 0), (18, 1, .iaload, 0, 0), (19, 3, .ifCond .eq 6, 0, 0), (22, 2, .bipush (-3), 0, 0), (24, 1, .ireturn, 1, 0), (25, 1, .aload_n 0, 0, 0), (26, 3, .getfield 54, 5, 3), (29, 3, .getfield 144, 1, 11), (32, 1, .iload_n 1, 0, 0), (33, 1, .iaload, 0, 0), (34, 1, .istore_n 3, 0, 0), (35, 1, .aload_n 0, 0, 0), (36, 3, .getfield 54, 5, 3), (39, 3, .getfield 144, 1, 11), (42, 1, .iload_n 1, 0, 0), (43, 1, .iload_n 2, 0, 0), (44, 3, .ifCond .eq 7, 0, 0), (47, 1, .iconst 1, 0, 0), (48, 3, .goto 4, 0, 0), (51, 1, .iconst 0, 0, 0), (52, 1, .iastore, 0, 0), (53, 1, .iload_n 3, 0, 0), (54, 1, .ireturn, 1, 0)]
def kX5_told : List CE := [(0, 1, .iload_n 1, 0, 0), (1, 39, .tableswitch 100 0 5 #[39, 47, 58, 69, 77, 92], 0, 0), (40, 1, .aload_n 0, 0, 0), (41, 3, .getfield 54, 5, 3), (44, 3, .getfield 156, 1, 2), (47, 1, .ireturn, 1, 0), (48, 1, .aload_n 0, 0, 0), (49, 3, .getfield 54, 5, 3), (52, 3, .getfield 77, 1, 3), (55, 3, .getfield 159, 3, 2), (58, 1, .ireturn, 1, 0), (59, 1, .aload_n 0, 0, 0), (60, 3, .getfield 54, 5, 3), (63, 3, .getfield 77, 1, 3), (66, 3, .getfield 162, 3, 3), (69, 1, .ireturn, 1, 0), (70, 1, .aload_n 0, 0, 0), (71, 3, .getfield 54, 5, 3), (74, 3, .invokevirtual 150, 29, 1), (77, 1, .ireturn, 1, 0), (78, 1, .aload_n 0, 0, 0), (79, 3, .getfield 54, 5, 3), (82, 1, .aload_n 0, 0, 0), (83, 3, .getfield 54, 5, 3), (86, 3, .invokevirtual 150, 29, 1), (89, 3, .invokevirtual 153, 32, 2), (92, 1, .ireturn, 1, 0), (93, 1, .aload_n 0, 0, 0), (94, 3, .getfield 54, 5, 3), (97, 3, .invokevirtual 165, 33, 1), (100, 1, .ireturn, 1, 0), (101, 1, .iconst (-1), 0, 0), (102, 1, .ireturn, 1, 0)]
def kX5_beat : List CE := [(0, 1, .aload_n 0, 0, 0), (1, 3, .getfield 54, 5, 3), (4, 3, .getfield 156, 1, 2), (7, 2, .ldc 168, 0, 99999), (9, 3, .if_icmp .lt 6, 0, 0), (12, 2, .bipush (-3), 0, 0), (14, 1, .ireturn, 1, 0), (15, 1, .aload_n 0, 0, 0), (16, 3, .getfield 54, 5, 3), (19, 3, .invokevirtual 169, 35, 1), (22, 1, .ireturn, 1, 0)]
def kX5_on : List CE := [(0, 1, .iload_n 2, 0, 0), (1, 2, .bipush 10, 0, 0), (3, 3, .if_icmp .lt 18, 0, 0), (6, 1, .aload_n 0, 0, 0), (7, 1, .iload_n 2, 0, 0), (8, 2, .bipush 10, 0, 0), (10, 1, .isub, 0, 0), (11, 3, .invokevirtual 88, 96, 2), (14, 3, .ifCond .eq 7, 0, 0), (17, 1, .iconst 1, 0, 0), (18, 3, .goto 4, 0, 0), (21, 1, .iconst 0, 0, 0), (22, 1, .istore_n 3, 0, 0), (23, 1, .iload_n 3, 0, 0), (24, 3, .ifCond .ne 14, 0, 0), (27, 1, .iload_n 2, 0, 0), (28, 3, .ifCond .lt 8, 0, 0), (31, 1, .iload_n 2, 0, 0), (32, 1, .iconst 2, 0, 0), (33, 3, .if_icmp .le 5, 0, 0), (36, 1, .iconst (-1), 0, 0), (37, 1, .ireturn, 1, 0), (38, 1, .iload_n 1, 0, 0), (39, 3, .ifCond .lt 9, 0, 0), (42, 1, .iload_n 1, 0, 0), (43, 2, .bipush 40, 0, 0), (45, 3, .if_icmp .le 6, 0, 0), (48, 2, .bipush (-2), 0, 0), (50, 1, .ireturn, 1, 0), (51, 1, .aload_n 0, 0, 0), (52, 3, .getfield 58, 5, 4), (55, 1, .aload_n 0, 0, 0), (56, 3, .getfield 54, 5, 3), (59, 3, .invokevirtual 172, 17, 2), (62, 2, .bipush (-5), 0, 0), (64, 2, .istore 4, 0, 0), (66, 1, .iconst 1, 0, 0), (67, 2, .istore 5, 0, 0), (69, 2, .iload 5, 0, 0), (71, 1, .iload_n 1, 0, 0), (72, 3, .if_icmp .gt 30, 0, 0), (75, 1, .aload_n 0, 0, 0), (76, 3, .getfield 58, 5, 4), (79, 3, .invokevirtual 169, 35, 1), (82, 3, .ifCond .le 14, 0, 0), (85, 2, .iload 4, 0, 0), (87, 2, .bipush (-5), 0, 0), (89, 3, .if_icmp .ne 7, 0, 0), (92, 2, .iload 5, 0, 0), (94, 2, .istore 4, 0, 0), (96, 3, .iinc 5 1, 0, 0), (99, 3, .goto (-30), 0, 0), (102, 1, .iload_n 3, 0, 0), (103, 3, .ifCond .eq 16, 0, 0), (106, 1, .aload_n 0, 0, 0), (107, 3, .getfield 58, 5, 4), (110, 3, .getfield 107, 1, 8), (113, 1, .iload_n 2, 0, 0), (114, 2, .bipush 10, 0, 0), (116, 1, .isub, 0, 0), (117, 1, .iaload, 0, 0), (118, 1, .ireturn, 1, 0), (119, 1, .iload_n 2, 0, 0), (120, 1, .iconst 1, 0, 0), (121, 3, .if_icmp .ne 6, 0, 0), (124, 2, .iload 4, 0, 0), (126, 1, .ireturn, 1, 0), (127, 1, .iload_n 2, 0, 0), (128, 3, .ifCond .ne 13, 0, 0), (131, 1, .aload_n 0, 0, 0), (132, 3, .getfield 58, 5, 4), (135, 3, .invokevirtual 165, 33, 1), (138, 3, .goto 10, 0, 0), (141, 1, .aload_n 0, 0, 0), (142, 3, .getfield 58, 5, 4), (145, 3, .invokevirtual 150, 29, 1), (148, 1, .ireturn, 1, 0)]
def kX5_steady : List CE := [(0, 1, .aload_n 0, 0, 0), (1, 3, .getfield 58, 5, 4), (4, 1, .aload_n 0, 0, 0), (5, 3, .getfield 54, 5, 3), (8, 3, .invokevirtual 172, 17, 2), (11, 1, .iconst 0, 0, 0), (12, 1, .istore_n 1, 0, 0), (13, 1, .iload_n 1, 0, 0), (14, 2, .bipush 60, 0, 0), (16, 3, .if_icmp .gt 36, 0, 0), (19, 1, .aload_n 0, 0, 0), (20, 3, .getfield 58, 5, 4), (23, 1, .aload_n 0, 0, 0), (24, 3, .getfield 58, 5, 4), (27, 3, .invokevirtual 150, 29, 1), (30, 3, .invokevirtual 153, 32, 2), (33, 3, .ifCond .eq 5, 0, 0), (36, 1, .iload_n 1, 0, 0), (37, 1, .ireturn, 1, 0), (38, 1, .aload_n 0, 0, 0), (39, 3, .getfield 58, 5, 4), (42, 3, .invokevirtual 169, 35, 1), (45, 1, .pop, 0, 0), (46, 3, .iinc 1 1, 0, 0), (49, 3, .goto (-36), 0, 0), (52, 2, .bipush (-5), 0, 0), (54, 1, .ireturn, 1, 0)]
def kX5_best : List CE := [(0, 1, .aload_n 0, 0, 0), (1, 1, .iload_n 1, 0, 0), (2, 3, .invokevirtual 88, 96, 2), (5, 3, .ifCond .eq 12, 0, 0), (8, 1, .iload_n 2, 0, 0), (9, 3, .ifCond .lt 8, 0, 0), (12, 1, .iload_n 2, 0, 0), (13, 1, .iconst 1, 0, 0), (14, 3, .if_icmp .le 5, 0, 0), (17, 1, .iconst (-1), 0, 0), (18, 1, .ireturn, 1, 0), (19, 1, .aload_n 0, 0, 0), (20, 3, .getfield 58, 5, 4), (23, 1, .aload_n 0, 0, 0), (24, 3, .getfield 54, 5, 3), (27, 3, .invokevirtual 172, 17, 2), (30, 1, .aload_n 0, 0, 0), (31, 1, .iload_n 1, 0, 0), (32, 3, .invokevirtual 176, 99, 2), (35, 1, .istore_n 3, 0, 0), (36, 1, .iload_n 2, 0, 0), (37, 3, .ifCond .ne 5, 0, 0), (40, 1, .iload_n 3, 0, 0), (41, 1, .ireturn, 1, 0), (42, 1, .aload_n 0, 0, 0), (43, 3, .getfield 58, 5, 4), (46, 3, .getfield 92, 1, 7), (49, 1, .iload_n 1, 0, 0), (50, 1, .iload_n 3, 0, 0), (51, 1, .iastore, 0, 0), (52, 1, .aload_n 0, 0, 0), (53, 3, .getfield 58, 5, 4), (56, 3, .invokevirtual 150, 29, 1), (59, 1, .ireturn, 1, 0)]
def kX5_chord : List CE := [(0, 1, .iload_n 1, 0, 0), (1, 1, .iconst (-1), 0, 0), (2, 3, .if_icmp .lt 8, 0, 0), (5, 1, .iload_n 1, 0, 0), (6, 1, .iconst 5, 0, 0), (7, 3, .if_icmp .lt 5, 0, 0), (10, 1, .iconst (-1), 0, 0), (11, 1, .ireturn, 1, 0), (12, 1, .aload_n 0, 0, 0), (13, 3, .getfield 54, 5, 3), (16, 3, .getfield 81, 1, 0), (19, 1, .iconst 5, 0, 0), (20, 3, .if_icmp .le 6, 0, 0), (23, 2, .bipush (-9), 0, 0), (25, 1, .ireturn, 1, 0), (26, 1, .iload_n 1, 0, 0), (27, 1, .aload_n 0, 0, 0), (28, 3, .getfield 54, 5, 3), (31, 3, .getfield 81, 1, 0), (34, 3, .if_icmp .lt 6, 0, 0), (37, 2, .bipush (-5), 0, 0), (39, 1, .ireturn, 1, 0), (40, 1, .aload_n 0, 0, 0), (41, 3, .invokevirtual 179, 100, 1), (44, 1, .aload_n 0, 0, 0), (45, 1, .aload_n 0, 0, 0), (46, 3, .invokevirtual 182, 102, 1), (49, 3, .invokevirtual 185, 103, 2), (52, 1, .istore_n 2, 0, 0), (53, 1, .iload_n 1, 0, 0), (54, 3, .ifCond .ge 7, 0, 0), (57, 1, .iload_n 2, 0, 0), (58, 3, .goto 12, 0, 0), (61, 1, .aload_n 0, 0, 0), (62, 3, .getfield 58, 5, 4), (65, 3, .getfield 92, 1, 7), (68, 1, .iload_n 1, 0, 0), (69, 1, .iaload, 0, 0), (70, 1, .ireturn, 1, 0)]
def kX5_needed : List CE := [(0, 1, .aload_n 0, 0, 0), (1, 3, .getfield 54, 5, 3), (4, 3, .invokevirtual 95, 23, 1), (7, 1, .aload_n 0, 0, 0), (8, 3, .getfield 54, 5, 3), (11, 3, .invokevirtual 113, 22, 1), (14, 1, .istore_n 1, 0, 0), (15, 2, .bipush (-5), 0, 0), (17, 1, .istore_n 2, 0, 0), (18, 1, .iconst 0, 0, 0), (19, 1, .istore_n 3, 0, 0), (20, 1, .iconst 0, 0, 0), (21, 2, .istore 4, 0, 0), (23, 2, .iload 4, 0, 0), (25, 1, .aload_n 0, 0, 0), (26, 3, .getfield 54, 5, 3), (29, 3, .getfield 81, 1, 0), (32, 3, .if_icmp .ge 53, 0, 0), (35, 1, .iload_n 1, 0, 0), (36, 2, .iload 4, 0, 0), (38, 3, .invokestatic 188, 98, 2), (41, 3, .ifCond .eq 38, 0, 0), (44, 1, .aload_n 0, 0, 0), (45, 3, .getfield 54, 5, 3), (48, 1, .iload_n 1, 0, 0), (49, 1, .iconst 1, 0, 0), (50, 2, .iload 4, 0, 0), (52, 1, .ishl, 0, 0), (53, 1, .iconst (-1), 0, 0), (54, 1, .ixor, 0, 0), (55, 1, .iand, 0, 0), (56, 3, .invokevirtual 191, 28, 2), (59, 2, .istore 5, 0, 0), (61, 1, .iload_n 2, 0, 0), (62, 2, .bipush (-5), 0, 0), (64, 3, .if_icmp .eq 9, 0, 0), (67, 2, .iload 5, 0, 0), (69, 1, .iload_n 3, 0, 0), (70, 3, .if_icmp .ge 9, 0, 0), (73, 2, .iload 4, 0, 0), (75, 1, .istore_n 2, 0, 0), (76, 2, .iload 5, 0, 0), (78, 1, .istore_n 3, 0, 0), (79, 3, .iinc 4 1, 0, 0), (82, 3, .goto (-59), 0, 0), (85, 1, .iload_n 2, 0, 0), (86, 1, .ireturn, 1, 0)]
def kX5_spare : List CE := [(0, 1, .aload_n 0, 0, 0), (1, 3, .getfield 54, 5, 3), (4, 3, .invokevirtual 95, 23, 1), (7, 1, .aload_n 0, 0, 0), (8, 1, .aload_n 0, 0, 0), (9, 3, .getfield 54, 5, 3), (12, 3, .invokevirtual 113, 22, 1), (15, 3, .invokevirtual 194, 105, 2), (18, 1, .ireturn, 1, 0)]
def kX5_shift : List CE := [(0, 1, .iload_n 2, 0, 0), (1, 3, .ifCond .lt 8, 0, 0), (4, 1, .iload_n 2, 0, 0), (5, 1, .iconst 2, 0, 0), (6, 3, .if_icmp .le 5, 0, 0), (9, 1, .iconst (-1), 0, 0), (10, 1, .ireturn, 1, 0), (11, 1, .iload_n 1, 0, 0), (12, 1, .iconst 1, 0, 0), (13, 3, .if_icmp .lt 9, 0, 0), (16, 1, .iload_n 1, 0, 0), (17, 2, .bipush 8, 0, 0), (19, 3, .if_icmp .le 6, 0, 0), (22, 2, .bipush (-2), 0, 0), (24, 1, .ireturn, 1, 0), (25, 1, .aload_n 0, 0, 0), (26, 3, .getfield 58, 5, 4), (29, 1, .aload_n 0, 0, 0), (30, 3, .getfield 54, 5, 3), (33, 3, .invokevirtual 172, 17, 2), (36, 1, .iconst 0, 0, 0), (37, 1, .istore_n 3, 0, 0), (38, 1, .iconst 0, 0, 0), (39, 2, .istore 4, 0, 0), (41, 2, .iload 4, 0, 0), (43, 1, .iload_n 1, 0, 0), (44, 3, .if_icmp .ge 22, 0, 0), (47, 1, .aload_n 0, 0, 0), (48, 3, .invokevirtual 197, 106, 1), (51, 1, .istore_n 3, 0, 0), (52, 1, .aload_n 0, 0, 0), (53, 3, .getfield 58, 5, 4), (56, 3, .invokevirtual 169, 35, 1), (59, 1, .pop, 0, 0), (60, 3, .iinc 4 1, 0, 0), (63, 3, .goto (-22), 0, 0), (66, 1, .iload_n 2, 0, 0), (67, 3, .ifCond .ne 11, 0, 0), (70, 1, .aload_n 0, 0, 0), (71, 3, .getfield 58, 5, 4), (74, 3, .invokevirtual 200, 34, 1), (77, 1, .ireturn, 1, 0), (78, 1, .iload_n 2, 0, 0), (79, 1, .iconst 1, 0, 0), (80, 3, .if_icmp .ne 13, 0, 0), (83, 1, .aload_n 0, 0, 0), (84, 3, .getfield 58, 5, 4), (87, 3, .invokevirtual 165, 33, 1), (90, 3, .goto 4, 0, 0), (93, 1, .iload_n 3, 0, 0), (94, 1, .ireturn, 1, 0)]
def kX5_ill : List CE := [(0, 1, .aload_n 0, 0, 0), (1, 1, .iload_n 1, 0, 0), (2, 3, .invokevirtual 88, 96, 2), (5, 3, .ifCond .ne 5, 0, 0), (8, 1, .iconst (-1), 0, 0), (9, 1, .ireturn, 1, 0), (10, 1, .aload_n 0, 0, 0), (11, 3, .getfield 54, 5, 3), (14, 3, .getfield 92, 1, 7), (17, 1, .iload_n 1, 0, 0), (18, 1, .iaload, 0, 0), (19, 1, .iconst (-1), 0, 0), (20, 3, .if_icmp .ne 6, 0, 0), (23, 2, .bipush (-5), 0, 0), (25, 1, .ireturn, 1, 0), (26, 1, .aload_n 0, 0, 0), (27, 3, .getfield 58, 5, 4), (30, 1, .aload_n 0, 0, 0), (31, 3, .getfield 54, 5, 3), (34, 3, .invokevirtual 172, 17, 2), (37, 1, .aload_n 0, 0, 0), (38, 3, .getfield 58, 5, 4), (41, 3, .getfield 92, 1, 7), (44, 1, .iload_n 1, 0, 0), (45, 1, .iconst (-1), 0, 0), (46, 1, .iastore, 0, 0), (47, 2, .bipush (-5), 0, 0), (49, 1, .istore_n 2, 0, 0), (50, 1, .iconst 0, 0, 0), (51, 1, .istore_n 3, 0, 0), (52, 1, .iconst 0, 0, 0), (53, 2, .istore 4, 0, 0), (55, 2, .iload 4, 0, 0), (57, 1, .aload_n 0, 0, 0), (58, 3, .getfield 54, 5, 3), (61, 3, .getfield 81, 1, 0), (64, 3, .if_icmp .ge 93, 0, 0), (67, 2, .iload 4, 0, 0), (69, 1, .iload_n 1, 0, 0), (70, 3, .if_icmp .eq 81, 0, 0), (73, 1, .aload_n 0, 0, 0), (74, 3, .getfield 54, 5, 3), (77, 3, .getfield 92, 1, 7), (80, 2, .iload 4, 0, 0), (82, 1, .iaload, 0, 0), (83, 1, .iconst (-1), 0, 0), (84, 3, .if_icmp .ne 67, 0, 0), (87, 1, .aload_n 0, 0, 0), (88, 2, .iload 4, 0, 0), (90, 3, .invokevirtual 176, 99, 2), (93, 2, .istore 5, 0, 0), (95, 1, .aload_n 0, 0, 0), (96, 3, .getfield 58, 5, 4), (99, 3, .getfield 92, 1, 7), (102, 2, .iload 4, 0, 0), (104, 2, .iload 5, 0, 0), (106, 1, .iastore, 0, 0), (107, 1, .aload_n 0, 0, 0), (108, 3, .getfield 58, 5, 4), (111, 3, .invokevirtual 150, 29, 1), (114, 2, .istore 6, 0, 0), (116, 1, .aload_n 0, 0, 0), (117, 3, .getfield 58, 5, 4), (120, 3, .getfield 92, 1, 7), (123, 2, .iload 4, 0, 0), (125, 1, .iconst (-1), 0, 0), (126, 1, .iastore, 0, 0), (127, 1, .iload_n 2, 0, 0), (128, 2, .bipush (-5), 0, 0), (130, 3, .if_icmp .eq 9, 0, 0), (133, 2, .iload 6, 0, 0), (135, 1, .iload_n 3, 0, 0), (136, 3, .if_icmp .le 15, 0, 0), (139, 2, .bipush 100, 0, 0), (141, 2, .iload 4, 0, 0), (143, 1, .imul, 0, 0), (144, 2, .iload 5, 0, 0), (146, 1, .iadd, 0, 0), (147, 1, .istore_n 2, 0, 0), (148, 2, .iload 6, 0, 0), (150, 1, .istore_n 3, 0, 0), (151, 3, .iinc 4 1, 0, 0), (154, 3, .goto (-99), 0, 0), (157, 1, .iload_n 2, 0, 0), (158, 1, .ireturn, 1, 0)]
def kX5_canon : List CE := [(0, 1, .iload_n 2, 0, 0), (1, 3, .ifCond .lt 8, 0, 0), (4, 1, .iload_n 2, 0, 0), (5, 1, .iconst 1, 0, 0), (6, 3, .if_icmp .le 5, 0, 0), (9, 1, .iconst (-1), 0, 0), (10, 1, .ireturn, 1, 0), (11, 1, .iload_n 1, 0, 0), (12, 1, .iconst 1, 0, 0), (13, 3, .if_icmp .lt 9, 0, 0), (16, 1, .iload_n 1, 0, 0), (17, 2, .bipush 30, 0, 0), (19, 3, .if_icmp .le 6, 0, 0), (22, 2, .bipush (-2), 0, 0), (24, 1, .ireturn, 1, 0), (25, 1, .aload_n 0, 0, 0), (26, 3, .getfield 58, 5, 4), (29, 1, .aload_n 0, 0, 0), (30, 3, .getfield 54, 5, 3), (33, 3, .invokevirtual 172, 17, 2), (36, 1, .aload_n 0, 0, 0), (37, 3, .getfield 58, 5, 4), (40, 3, .invokevirtual 150, 29, 1), (43, 1, .istore_n 3, 0, 0), (44, 1, .iconst 0, 0, 0), (45, 2, .istore 4, 0, 0), (47, 2, .iload 4, 0, 0), (49, 1, .iload_n 1, 0, 0), (50, 3, .if_icmp .ge 36, 0, 0), (53, 1, .iload_n 3, 0, 0), (54, 1, .aload_n 0, 0, 0), (55, 3, .getfield 58, 5, 4), (58, 3, .invokevirtual 150, 29, 1), (61, 3, .invokestatic 203, 1000, 0), (64, 1, .istore_n 3, 0, 0), (65, 1, .aload_n 0, 0, 0), (66, 3, .getfield 58, 5, 4), (69, 3, .invokevirtual 169, 35, 1), (72, 1, .pop, 0, 0), (73, 1, .aload_n 0, 0, 0), (74, 3, .getfield 58, 5, 4), (77, 3, .invokevirtual 208, 36, 1), (80, 3, .iinc 4 1, 0, 0), (83, 3, .goto (-36), 0, 0), (86, 1, .iload_n 2, 0, 0), (87, 3, .ifCond .ne 13, 0, 0), (90, 1, .aload_n 0, 0, 0), (91, 3, .getfield 58, 5, 4), (94, 3, .invokevirtual 165, 33, 1), (97, 3, .goto 4, 0, 0), (100, 1, .iload_n 3, 0, 0), (101, 1, .ireturn, 1, 0)]
def kX5_props : List CE := [(0, 1, .iload_n 1, 0, 0), (1, 3, .ifCond .lt 8, 0, 0), (4, 1, .iload_n 1, 0, 0), (5, 1, .iconst 3, 0, 0), (6, 3, .if_icmp .le 6, 0, 0), (9, 2, .bipush (-2), 0, 0), (11, 1, .ireturn, 1, 0), (12, 1, .aload_n 0, 0, 0), (13, 3, .getfield 54, 5, 3), (16, 3, .invokevirtual 150, 29, 1), (19, 1, .istore_n 2, 0, 0), (20, 1, .aload_n 0, 0, 0), (21, 3, .invokevirtual 211, 108, 1), (24, 1, .istore_n 3, 0, 0), (25, 1, .aload_n 0, 0, 0), (26, 3, .getfield 54, 5, 3), (29, 3, .invokevirtual 214, 31, 1), (32, 2, .istore 4, 0, 0), (34, 1, .iconst 0, 0, 0), (35, 2, .istore 5, 0, 0), (37, 2, .iload 4, 0, 0), (39, 1, .iload_n 2, 0, 0), (40, 3, .if_icmp .le 39, 0, 0), (43, 2, .iload 5, 0, 0), (45, 1, .iload_n 3, 0, 0), (46, 3, .if_icmp .ge 33, 0, 0), (49, 2, .iload 4, 0, 0), (51, 1, .aload_n 0, 0, 0), (52, 3, .getfield 54, 5, 3), (55, 3, .getfield 141, 1, 10), (58, 1, .aload_n 0, 0, 0), (59, 3, .getfield 45, 5, 9), (62, 1, .iload_n 3, 0, 0), (63, 1, .iconst 1, 0, 0), (64, 1, .isub, 0, 0), (65, 2, .iload 5, 0, 0), (67, 1, .isub, 0, 0), (68, 1, .iaload, 0, 0), (69, 1, .iaload, 0, 0), (70, 1, .isub, 0, 0), (71, 2, .istore 4, 0, 0), (73, 3, .iinc 5 1, 0, 0), (76, 3, .goto (-39), 0, 0), (79, 2, .iload 5, 0, 0), (81, 1, .iload_n 1, 0, 0), (82, 3, .if_icmp .le 8, 0, 0), (85, 2, .bipush (-5), 0, 0), (87, 3, .goto 5, 0, 0), (90, 2, .iload 5, 0, 0), (92, 1, .ireturn, 1, 0)]
def kX5_critical : List CE := [(0, 1, .iload_n 1, 0, 0), (1, 3, .ifCond .lt 8, 0, 0), (4, 1, .iload_n 1, 0, 0), (5, 1, .iconst 1, 0, 0), (6, 3, .if_icmp .le 5, 0, 0), (9, 1, .iconst (-1), 0, 0), (10, 1, .ireturn, 1, 0), (11, 1, .aload_n 0, 0, 0), (12, 3, .getfield 54, 5, 3), (15, 3, .invokevirtual 95, 23, 1), (18, 1, .aload_n 0, 0, 0), (19, 3, .getfield 54, 5, 3), (22, 3, .invokevirtual 113, 22, 1), (25, 1, .istore_n 2, 0, 0), (26, 1, .aload_n 0, 0, 0), (27, 1, .iload_n 2, 0, 0), (28, 3, .invokevirtual 194, 105, 2), (31, 1, .istore_n 3, 0, 0), (32, 1, .aload_n 0, 0, 0), (33, 1, .iload_n 2, 0, 0), (34, 3, .invokevirtual 217, 104, 2), (37, 2, .istore 4, 0, 0), (39, 1, .iconst 0, 0, 0), (40, 2, .istore 5, 0, 0), (42, 2, .bipush (-5), 0, 0), (44, 2, .istore 6, 0, 0), (46, 1, .iconst 0, 0, 0), (47, 2, .istore 7, 0, 0), (49, 2, .iload 7, 0, 0), (51, 1, .aload_n 0, 0, 0), (52, 3, .getfield 54, 5, 3), (55, 3, .getfield 81, 1, 0), (58, 3, .if_icmp .ge 98, 0, 0), (61, 2, .iload 7, 0, 0), (63, 1, .iconst 1, 0, 0), (64, 1, .iadd, 0, 0), (65, 2, .istore 8, 0, 0), (67, 2, .iload 8, 0, 0), (69, 1, .aload_n 0, 0, 0), (70, 3, .getfield 54, 5, 3), (73, 3, .getfield 81, 1, 0), (76, 3, .if_icmp .ge 74, 0, 0), (79, 1, .iload_n 3, 0, 0), (80, 2, .iload 7, 0, 0), (82, 3, .invokestatic 188, 98, 2), (85, 3, .ifCond .eq 59, 0, 0), (88, 1, .iload_n 3, 0, 0), (89, 2, .iload 8, 0, 0), (91, 3, .invokestatic 188, 98, 2), (94, 3, .ifCond .eq 50, 0, 0), (97, 1, .aload_n 0, 0, 0), (98, 1, .iload_n 2, 0, 0), (99, 1, .iconst 1, 0, 0), (100, 2, .iload 7, 0, 0), (102, 1, .ishl, 0, 0), (103, 1, .iconst (-1), 0, 0), (104, 1, .ixor, 0, 0), (105, 1, .iand, 0, 0), (106, 1, .iconst 1, 0, 0), (107, 2, .iload 8, 0, 0), (109, 1, .ishl, 0, 0), (110, 1, .iconst (-1), 0, 0), (111, 1, .ixor, 0, 0), (112, 1, .iand, 0, 0), (113, 3, .invokevirtual 217, 104, 2), (116, 2, .iload 4, 0, 0), (118, 3, .if_icmp .le 26, 0, 0), (121, 2, .iload 5, 0, 0), (123, 3, .ifCond .ne 14, 0, 0), (126, 2, .bipush 10, 0, 0), (128, 2, .iload 7, 0, 0), (130, 1, .imul, 0, 0), (131, 2, .iload 8, 0, 0), (133, 1, .iadd, 0, 0), (134, 3, .goto 5, 0, 0), (137, 2, .iload 6, 0, 0), (139, 2, .istore 6, 0, 0), (141, 3, .iinc 5 1, 0, 0), (144, 3, .iinc 8 1, 0, 0), (147, 3, .goto (-80), 0, 0), (150, 3, .iinc 7 1, 0, 0), (153, 3, .goto (-104), 0, 0), (156, 1, .iload_n 1, 0, 0), (157, 3, .ifCond .ne 8, 0, 0), (160, 2, .iload 5, 0, 0), (162, 3, .goto 5, 0, 0), (165, 2, .iload 6, 0, 0), (167, 1, .ireturn, 1, 0)]
def kX5_load : List CE := [(0, 1, .aload_n 0, 0, 0), (1, 3, .getfield 54, 5, 3), (4, 3, .invokevirtual 214, 31, 1), (7, 1, .aload_n 0, 0, 0), (8, 3, .getfield 54, 5, 3), (11, 3, .invokevirtual 150, 29, 1), (14, 1, .isub, 0, 0), (15, 1, .ireturn, 1, 0)]
def kX5_dust : List CE := [(0, 1, .iload_n 1, 0, 0), (1, 1, .iconst (-1), 0, 0), (2, 3, .if_icmp .ne 13, 0, 0), (5, 1, .aload_n 0, 0, 0), (6, 3, .getfield 34, 5, 6), (9, 1, .iconst 0, 0, 0), (10, 3, .putfield 220, 4, 2), (13, 1, .iconst 0, 0, 0), (14, 1, .ireturn, 1, 0), (15, 1, .iload_n 1, 0, 0), (16, 3, .ifCond .lt 19, 0, 0), (19, 1, .iload_n 1, 0, 0), (20, 2, .bipush 40, 0, 0), (22, 3, .if_icmp .gt 13, 0, 0), (25, 1, .iload_n 2, 0, 0), (26, 3, .ifCond .lt 9, 0, 0), (29, 1, .iload_n 2, 0, 0), (30, 2, .bipush 6, 0, 0), (32, 3, .if_icmp .le 6, 0, 0), (35, 2, .bipush (-2), 0, 0), (37, 1, .ireturn, 1, 0), (38, 1, .aload_n 0, 0, 0), (39, 3, .getfield 34, 5, 6), (42, 3, .getfield 220, 4, 2), (45, 2, .bipush 6, 0, 0), (47, 3, .if_icmp .lt 6, 0, 0), (50, 2, .bipush (-4), 0, 0), (52, 1, .ireturn, 1, 0), (53, 1, .aload_n 0, 0, 0), (54, 3, .getfield 34, 5, 6), (57, 3, .getfield 223, 4, 6), (60, 1, .aload_n 0, 0, 0), (61, 3, .getfield 34, 5, 6), (64, 3, .getfield 220, 4, 2), (67, 1, .iload_n 1, 0, 0), (68, 1, .iastore, 0, 0), (69, 1, .aload_n 0, 0, 0), (70, 3, .getfield 34, 5, 6), (73, 3, .getfield 226, 4, 7), (76, 1, .aload_n 0, 0, 0), (77, 3, .getfield 34, 5, 6), (80, 3, .getfield 220, 4, 2), (83, 1, .iload_n 2, 0, 0), (84, 1, .iastore, 0, 0), (85, 1, .aload_n 0, 0, 0), (86, 3, .getfield 34, 5, 6), (89, 1, .dup, 0, 0), (90, 3, .getfield 220, 4, 2), (93, 1, .iconst 1, 0, 0), (94, 1, .iadd, 0, 0), (95, 3, .putfield 220, 4, 2), (98, 1, .aload_n 0, 0, 0), (99, 3, .getfield 34, 5, 6), (102, 3, .getfield 220, 4, 2), (105, 1, .ireturn, 1, 0)]
def kX5_flat : List CE := [(0, 1, .iconst 0, 0, 0), (1, 1, .istore_n 1, 0, 0), (2, 1, .iconst 0, 0, 0), (3, 1, .istore_n 2, 0, 0), (4, 1, .iload_n 2, 0, 0), (5, 1, .aload_n 0, 0, 0), (6, 3, .getfield 54, 5, 3), (9, 3, .getfield 81, 1, 0), (12, 3, .if_icmp .ge 36, 0, 0), (15, 1, .aload_n 0, 0, 0), (16, 3, .getfield 54, 5, 3), (19, 3, .getfield 92, 1, 7), (22, 1, .iload_n 2, 0, 0), (23, 1, .iaload, 0, 0), (24, 1, .iconst (-1), 0, 0), (25, 3, .if_icmp .eq 17, 0, 0), (28, 1, .aload_n 0, 0, 0), (29, 1, .iload_n 2, 0, 0), (30, 3, .invokevirtual 229, 107, 2), (33, 3, .ifCond .eq 9, 0, 0), (36, 1, .iload_n 1, 0, 0), (37, 1, .iconst 1, 0, 0), (38, 1, .iload_n 2, 0, 0), (39, 1, .ishl, 0, 0), (40, 1, .ior, 0, 0), (41, 1, .istore_n 1, 0, 0), (42, 3, .iinc 2 1, 0, 0), (45, 3, .goto (-41), 0, 0), (48, 1, .iload_n 1, 0, 0), (49, 1, .ireturn, 1, 0)]
def kX5_order : List CE := [(0, 1, .iload_n 1, 0, 0), (1, 1, .iconst (-1), 0, 0), (2, 3, .if_icmp .lt 9, 0, 0), (5, 1, .iload_n 1, 0, 0), (6, 2, .bipush 6, 0, 0), (8, 3, .if_icmp .lt 5, 0, 0), (11, 1, .iconst (-1), 0, 0), (12, 1, .ireturn, 1, 0), (13, 1, .aload_n 0, 0, 0), (14, 3, .invokevirtual 211, 108, 1), (17, 1, .istore_n 2, 0, 0), (18, 1, .iload_n 1, 0, 0), (19, 3, .ifCond .lt 20, 0, 0), (22, 1, .iload_n 1, 0, 0), (23, 1, .iload_n 2, 0, 0), (24, 3, .if_icmp .ge 12, 0, 0), (27, 1, .aload_n 0, 0, 0), (28, 3, .getfield 45, 5, 9), (31, 1, .iload_n 1, 0, 0), (32, 1, .iaload, 0, 0), (33, 3, .goto 5, 0, 0), (36, 2, .bipush (-5), 0, 0), (38, 1, .ireturn, 1, 0), (39, 1, .aload_n 0, 0, 0), (40, 3, .getfield 54, 5, 3), (43, 3, .invokevirtual 150, 29, 1), (46, 1, .istore_n 3, 0, 0), (47, 1, .iconst 0, 0, 0), (48, 2, .istore 4, 0, 0), (50, 1, .iconst 0, 0, 0), (51, 2, .istore 5, 0, 0), (53, 1, .iconst 0, 0, 0), (54, 2, .istore 6, 0, 0), (56, 2, .iload 6, 0, 0), (58, 1, .iload_n 2, 0, 0), (59, 3, .if_icmp .ge 45, 0, 0), (62, 2, .iload 4, 0, 0), (64, 1, .aload_n 0, 0, 0), (65, 3, .getfield 54, 5, 3), (68, 3, .getfield 141, 1, 10), (71, 1, .aload_n 0, 0, 0), (72, 3, .getfield 45, 5, 9), (75, 2, .iload 6, 0, 0), (77, 1, .iaload, 0, 0), (78, 1, .iaload, 0, 0), (79, 1, .iadd, 0, 0), (80, 2, .istore 4, 0, 0), (82, 2, .iload 5, 0, 0), (84, 2, .iload 4, 0, 0), (86, 1, .iload_n 3, 0, 0), (87, 3, .if_icmp .gt 7, 0, 0), (90, 1, .iconst 1, 0, 0), (91, 3, .goto 4, 0, 0), (94, 1, .iconst 0, 0, 0), (95, 1, .iadd, 0, 0), (96, 2, .istore 5, 0, 0), (98, 3, .iinc 6 1, 0, 0), (101, 3, .goto (-45), 0, 0), (104, 1, .iload_n 2, 0, 0), (105, 2, .iload 5, 0, 0), (107, 1, .isub, 0, 0), (108, 1, .ireturn, 1, 0)]
def kX5_odds : List CE := [(0, 1, .aload_n 0, 0, 0), (1, 3, .getfield 54, 5, 3), (4, 3, .getfield 81, 1, 0), (7, 3, .ifCond .ne 7, 0, 0), (10, 3, .ldc2_w 232, 0, 0), (13, 1, .lreturn, 0, 0), (14, 1, .aload_n 0, 0, 0), (15, 3, .getfield 54, 5, 3), (18, 3, .invokevirtual 95, 23, 1), (21, 1, .aload_n 0, 0, 0), (22, 3, .getfield 54, 5, 3), (25, 3, .invokevirtual 113, 22, 1), (28, 1, .istore_n 2, 0, 0), (29, 1, .iconst 0, 0, 0), (30, 1, .istore_n 3, 0, 0), (31, 1, .iconst 0, 0, 0), (32, 2, .istore 4, 0, 0), (34, 2, .iload 4, 0, 0), (36, 1, .aload_n 0, 0, 0), (37, 3, .getfield 54, 5, 3), (40, 3, .getfield 81, 1, 0), (43, 3, .if_icmp .ge 27, 0, 0), (46, 1, .aload_n 0, 0, 0), (47, 1, .iload_n 2, 0, 0), (48, 1, .iconst 1, 0, 0), (49, 2, .iload 4, 0, 0), (51, 1, .ishl, 0, 0), (52, 1, .iconst (-1), 0, 0), (53, 1, .ixor, 0, 0), (54, 1, .iand, 0, 0), (55, 3, .invokevirtual 217, 104, 2), (58, 3, .ifCond .ne 6, 0, 0), (61, 3, .iinc 3 1, 0, 0), (64, 3, .iinc 4 1, 0, 0), (67, 3, .goto (-33), 0, 0), (70, 1, .iload_n 3, 0, 0), (71, 1, .aload_n 0, 0, 0), (72, 3, .getfield 54, 5, 3), (75, 3, .getfield 81, 1, 0), (78, 1, .iload_n 1, 0, 0), (79, 3, .invokestatic 234, 109, 3), (82, 1, .lreturn, 0, 0)]
def kX5_mean : List CE := [(0, 1, .iload_n 1, 0, 0), (1, 1, .iconst 1, 0, 0), (2, 3, .if_icmp .lt 9, 0, 0), (5, 1, .iload_n 1, 0, 0), (6, 2, .bipush 40, 0, 0), (8, 3, .if_icmp .le 7, 0, 0), (11, 3, .ldc2_w 232, 0, 0), (14, 1, .lreturn, 0, 0), (15, 1, .aload_n 0, 0, 0), (16, 3, .getfield 58, 5, 4), (19, 1, .aload_n 0, 0, 0), (20, 3, .getfield 54, 5, 3), (23, 3, .invokevirtual 172, 17, 2), (26, 1, .iconst 0, 0, 0), (27, 1, .istore_n 3, 0, 0), (28, 1, .iconst 0, 0, 0), (29, 2, .istore 4, 0, 0), (31, 2, .iload 4, 0, 0), (33, 1, .iload_n 1, 0, 0), (34, 3, .if_icmp .ge 27, 0, 0), (37, 1, .iload_n 3, 0, 0), (38, 1, .aload_n 0, 0, 0), (39, 3, .getfield 58, 5, 4), (42, 3, .invokevirtual 150, 29, 1), (45, 1, .iadd, 0, 0), (46, 1, .istore_n 3, 0, 0), (47, 1, .aload_n 0, 0, 0), (48, 3, .getfield 58, 5, 4), (51, 3, .invokevirtual 169, 35, 1), (54, 1, .pop, 0, 0), (55, 3, .iinc 4 1, 0, 0), (58, 3, .goto (-27), 0, 0), (61, 1, .iload_n 3, 0, 0), (62, 1, .iload_n 1, 0, 0), (63, 1, .iload_n 2, 0, 0), (64, 3, .invokestatic 234, 109, 3), (67, 1, .lreturn, 0, 0)]
def kX5_wage : List CE := [(0, 1, .aload_n 0, 0, 0), (1, 1, .iload_n 1, 0, 0), (2, 3, .invokevirtual 88, 96, 2), (5, 3, .ifCond .ne 7, 0, 0), (8, 3, .ldc2_w 232, 0, 0), (11, 1, .lreturn, 0, 0), (12, 1, .aload_n 0, 0, 0), (13, 3, .getfield 54, 5, 3), (16, 3, .getfield 92, 1, 7), (19, 1, .iload_n 1, 0, 0), (20, 1, .iaload, 0, 0), (21, 1, .iconst (-1), 0, 0), (22, 3, .if_icmp .ne 10, 0, 0), (25, 1, .iconst 0, 0, 0), (26, 1, .iconst 1, 0, 0), (27, 1, .iload_n 2, 0, 0), (28, 3, .invokestatic 234, 109, 3), (31, 1, .lreturn, 0, 0), (32, 1, .aload_n 0, 0, 0), (33, 3, .getfield 54, 5, 3), (36, 3, .invokevirtual 95, 23, 1), (39, 1, .iconst 1, 0, 0), (40, 1, .iload_n 1, 0, 0), (41, 1, .ishl, 0, 0), (42, 1, .istore_n 3, 0, 0), (43, 1, .aload_n 0, 0, 0), (44, 3, .getfield 54, 5, 3), (47, 3, .invokevirtual 113, 22, 1), (50, 1, .iload_n 3, 0, 0), (51, 1, .iconst (-1), 0, 0), (52, 1, .ixor, 0, 0), (53, 1, .iand, 0, 0), (54, 2, .istore 4, 0, 0), (56, 1, .iconst 0, 0, 0), (57, 2, .istore 5, 0, 0), (59, 1, .iconst 0, 0, 0), (60, 2, .istore 6, 0, 0), (62, 1, .iconst 0, 0, 0), (63, 2, .istore 7, 0, 0), (65, 2, .iload 7, 0, 0), (67, 2, .iload 4, 0, 0), (69, 3, .if_icmp .gt 48, 0, 0), (72, 2, .iload 7, 0, 0), (74, 2, .iload 4, 0, 0), (76, 1, .iconst (-1), 0, 0), (77, 1, .ixor, 0, 0), (78, 1, .iand, 0, 0), (79, 3, .ifCond .ne 32, 0, 0), (82, 2, .iload 5, 0, 0), (84, 1, .aload_n 0, 0, 0), (85, 3, .getfield 54, 5, 3), (88, 2, .iload 7, 0, 0), (90, 1, .iload_n 3, 0, 0), (91, 1, .ior, 0, 0), (92, 3, .invokevirtual 191, 28, 2), (95, 1, .aload_n 0, 0, 0), (96, 3, .getfield 54, 5, 3), (99, 2, .iload 7, 0, 0), (101, 3, .invokevirtual 191, 28, 2), (104, 1, .isub, 0, 0), (105, 1, .iadd, 0, 0), (106, 2, .istore 5, 0, 0), (108, 3, .iinc 6 1, 0, 0), (111, 3, .iinc 7 1, 0, 0), (114, 3, .goto (-49), 0, 0), (117, 2, .iload 5, 0, 0), (119, 2, .iload 6, 0, 0), (121, 1, .iload_n 2, 0, 0), (122, 3, .invokestatic 234, 109, 3), (125, 1, .lreturn, 0, 0)]
def kX5_plan : List CE := [(0, 1, .iload_n 1, 0, 0), (1, 1, .iconst (-1), 0, 0), (2, 3, .if_icmp .ne 13, 0, 0), (5, 1, .aload_n 0, 0, 0), (6, 3, .getfield 34, 5, 6), (9, 1, .iconst 0, 0, 0), (10, 3, .putfield 238, 4, 3), (13, 1, .iconst 0, 0, 0), (14, 1, .ireturn, 1, 0), (15, 1, .aload_n 0, 0, 0), (16, 1, .iload_n 1, 0, 0), (17, 3, .invokevirtual 88, 96, 2), (20, 3, .ifCond .ne 5, 0, 0), (23, 1, .iconst (-1), 0, 0), (24, 1, .ireturn, 1, 0), (25, 1, .iload_n 2, 0, 0), (26, 1, .iconst (-1), 0, 0), (27, 3, .if_icmp .lt 9, 0, 0), (30, 1, .iload_n 2, 0, 0), (31, 2, .bipush 23, 0, 0), (33, 3, .if_icmp .le 6, 0, 0), (36, 2, .bipush (-2), 0, 0), (38, 1, .ireturn, 1, 0), (39, 1, .aload_n 0, 0, 0), (40, 3, .getfield 34, 5, 6), (43, 3, .getfield 238, 4, 3), (46, 2, .bipush 8, 0, 0), (48, 3, .if_icmp .lt 6, 0, 0), (51, 2, .bipush (-4), 0, 0), (53, 1, .ireturn, 1, 0), (54, 1, .aload_n 0, 0, 0), (55, 3, .getfield 34, 5, 6), (58, 3, .getfield 241, 4, 8), (61, 1, .aload_n 0, 0, 0), (62, 3, .getfield 34, 5, 6), (65, 3, .getfield 238, 4, 3), (68, 1, .iload_n 1, 0, 0), (69, 1, .iastore, 0, 0), (70, 1, .aload_n 0, 0, 0), (71, 3, .getfield 34, 5, 6), (74, 3, .getfield 244, 4, 9), (77, 1, .aload_n 0, 0, 0), (78, 3, .getfield 34, 5, 6), (81, 3, .getfield 238, 4, 3), (84, 1, .iload_n 2, 0, 0), (85, 1, .iastore, 0, 0), (86, 1, .aload_n 0, 0, 0), (87, 3, .getfield 34, 5, 6), (90, 1, .dup, 0, 0), (91, 3, .getfield 238, 4, 3), (94, 1, .iconst 1, 0, 0), (95, 1, .iadd, 0, 0), (96, 3, .putfield 238, 4, 3), (99, 1, .aload_n 0, 0, 0), (100, 3, .getfield 34, 5, 6), (103, 3, .getfield 238, 4, 3), (106, 1, .ireturn, 1, 0)]
def kX5_planned : List CE := [(0, 1, .iload_n 1, 0, 0), (1, 3, .ifCond .lt 8, 0, 0), (4, 1, .iload_n 1, 0, 0), (5, 1, .iconst 1, 0, 0), (6, 3, .if_icmp .le 5, 0, 0), (9, 1, .iconst (-1), 0, 0), (10, 1, .ireturn, 1, 0), (11, 1, .aload_n 0, 0, 0), (12, 3, .getfield 58, 5, 4), (15, 1, .aload_n 0, 0, 0), (16, 3, .getfield 54, 5, 3), (19, 3, .invokevirtual 172, 17, 2), (22, 1, .iconst 0, 0, 0), (23, 1, .istore_n 2, 0, 0), (24, 1, .iload_n 2, 0, 0), (25, 1, .aload_n 0, 0, 0), (26, 3, .getfield 34, 5, 6), (29, 3, .getfield 238, 4, 3), (32, 3, .if_icmp .ge 74, 0, 0), (35, 1, .aload_n 0, 0, 0), (36, 3, .getfield 34, 5, 6), (39, 3, .getfield 241, 4, 8), (42, 1, .iload_n 2, 0, 0), (43, 1, .iaload, 0, 0), (44, 1, .istore_n 3, 0, 0), (45, 1, .aload_n 0, 0, 0), (46, 3, .getfield 34, 5, 6), (49, 3, .getfield 244, 4, 9), (52, 1, .iload_n 2, 0, 0), (53, 1, .iaload, 0, 0), (54, 2, .istore 4, 0, 0), (56, 1, .aload_n 0, 0, 0), (57, 1, .iload_n 3, 0, 0), (58, 3, .invokevirtual 88, 96, 2), (61, 3, .ifCond .eq 31, 0, 0), (64, 1, .aload_n 0, 0, 0), (65, 3, .getfield 58, 5, 4), (68, 3, .getfield 92, 1, 7), (71, 1, .iload_n 3, 0, 0), (72, 1, .aload_n 0, 0, 0), (73, 3, .getfield 58, 5, 4), (76, 1, .iload_n 3, 0, 0), (77, 2, .iload 4, 0, 0), (79, 3, .invokevirtual 127, 21, 3), (82, 3, .ifCond .eq 8, 0, 0), (85, 2, .iload 4, 0, 0), (87, 3, .goto 4, 0, 0), (90, 1, .iconst (-1), 0, 0), (91, 1, .iastore, 0, 0), (92, 1, .aload_n 0, 0, 0), (93, 3, .getfield 58, 5, 4), (96, 3, .invokevirtual 169, 35, 1), (99, 1, .pop, 0, 0), (100, 3, .iinc 2 1, 0, 0), (103, 3, .goto (-79), 0, 0), (106, 1, .iload_n 1, 0, 0), (107, 3, .ifCond .ne 13, 0, 0), (110, 1, .aload_n 0, 0, 0), (111, 3, .getfield 58, 5, 4), (114, 3, .invokevirtual 165, 33, 1), (117, 3, .goto 10, 0, 0), (120, 1, .aload_n 0, 0, 0), (121, 3, .getfield 58, 5, 4), (124, 3, .invokevirtual 150, 29, 1), (127, 1, .ireturn, 1, 0)]
def kX5_book : List CE := [(0, 1, .iload_n 1, 0, 0), (1, 1, .iconst (-1), 0, 0), (2, 3, .if_icmp .ne 13, 0, 0), (5, 1, .aload_n 0, 0, 0), (6, 3, .getfield 34, 5, 6), (9, 1, .iconst 0, 0, 0), (10, 3, .putfield 247, 4, 4), (13, 1, .iconst 0, 0, 0), (14, 1, .ireturn, 1, 0), (15, 1, .aload_n 0, 0, 0), (16, 1, .iload_n 1, 0, 0), (17, 3, .invokevirtual 88, 96, 2), (20, 3, .ifCond .ne 5, 0, 0), (23, 1, .iconst (-1), 0, 0), (24, 1, .ireturn, 1, 0), (25, 1, .iload_n 2, 0, 0), (26, 3, .ifCond .lt 10, 0, 0), (29, 1, .iload_n 2, 0, 0), (30, 3, .sipush 999, 0, 0), (33, 3, .if_icmp .le 6, 0, 0), (36, 2, .bipush (-2), 0, 0), (38, 1, .ireturn, 1, 0), (39, 1, .aload_n 0, 0, 0), (40, 3, .getfield 34, 5, 6), (43, 3, .getfield 247, 4, 4), (46, 2, .bipush 8, 0, 0), (48, 3, .if_icmp .lt 6, 0, 0), (51, 2, .bipush (-4), 0, 0), (53, 1, .ireturn, 1, 0), (54, 1, .aload_n 0, 0, 0), (55, 3, .getfield 34, 5, 6), (58, 3, .getfield 250, 4, 10), (61, 1, .aload_n 0, 0, 0), (62, 3, .getfield 34, 5, 6), (65, 3, .getfield 247, 4, 4), (68, 1, .iload_n 1, 0, 0), (69, 1, .iastore, 0, 0), (70, 1, .aload_n 0, 0, 0), (71, 3, .getfield 34, 5, 6), (74, 3, .getfield 253, 4, 11), (77, 1, .aload_n 0, 0, 0), (78, 3, .getfield 34, 5, 6), (81, 3, .getfield 247, 4, 4), (84, 1, .iload_n 2, 0, 0), (85, 1, .iastore, 0, 0), (86, 1, .aload_n 0, 0, 0), (87, 3, .getfield 34, 5, 6), (90, 1, .dup, 0, 0), (91, 3, .getfield 247, 4, 4), (94, 1, .iconst 1, 0, 0), (95, 1, .iadd, 0, 0), (96, 3, .putfield 247, 4, 4), (99, 1, .aload_n 0, 0, 0), (100, 3, .getfield 34, 5, 6), (103, 3, .getfield 247, 4, 4), (106, 1, .ireturn, 1, 0)]
def kX5_looked : List CE := [(0, 1, .aload_n 0, 0, 0), (1, 3, .getfield 54, 5, 3), (4, 3, .invokevirtual 95, 23, 1), (7, 1, .aload_n 0, 0, 0), (8, 3, .getfield 54, 5, 3), (11, 3, .invokevirtual 113, 22, 1), (14, 1, .istore_n 1, 0, 0), (15, 1, .iconst 0, 0, 0), (16, 1, .istore_n 2, 0, 0), (17, 1, .iload_n 2, 0, 0), (18, 1, .aload_n 0, 0, 0), (19, 3, .getfield 34, 5, 6), (22, 3, .getfield 247, 4, 4), (25, 3, .if_icmp .ge 58, 0, 0), (28, 1, .aload_n 0, 0, 0), (29, 3, .getfield 34, 5, 6), (32, 3, .getfield 250, 4, 10), (35, 1, .iload_n 2, 0, 0), (36, 1, .iaload, 0, 0), (37, 1, .istore_n 3, 0, 0), (38, 1, .iload_n 1, 0, 0), (39, 1, .iload_n 3, 0, 0), (40, 3, .invokestatic 188, 98, 2), (43, 3, .ifCond .eq 15, 0, 0), (46, 1, .aload_n 0, 0, 0), (47, 3, .getfield 54, 5, 3), (50, 1, .iload_n 3, 0, 0), (51, 1, .iload_n 1, 0, 0), (52, 3, .invokevirtual 117, 27, 3), (55, 3, .goto 4, 0, 0), (58, 1, .iconst 0, 0, 0), (59, 2, .istore 4, 0, 0), (61, 2, .iload 4, 0, 0), (63, 1, .aload_n 0, 0, 0), (64, 3, .getfield 34, 5, 6), (67, 3, .getfield 253, 4, 11), (70, 1, .iload_n 2, 0, 0), (71, 1, .iaload, 0, 0), (72, 3, .if_icmp .eq 5, 0, 0), (75, 1, .iload_n 2, 0, 0), (76, 1, .ireturn, 1, 0), (77, 3, .iinc 2 1, 0, 0), (80, 3, .goto (-63), 0, 0), (83, 2, .bipush (-5), 0, 0), (85, 1, .ireturn, 1, 0)]
def kX5_act : List CE := [(0, 1, .aload_n 0, 0, 0), (1, 3, .getfield 27, 5, 2), (4, 1, .iconst 0, 0, 0), (5, 3, .putfield 256, 0, 3), (8, 1, .aload_n 0, 0, 0), (9, 1, .iload_n 1, 0, 0), (10, 3, .invokevirtual 88, 96, 2), (13, 3, .ifCond .eq 12, 0, 0), (16, 1, .iload_n 2, 0, 0), (17, 3, .ifCond .lt 8, 0, 0), (20, 1, .iload_n 2, 0, 0), (21, 1, .iconst 3, 0, 0), (22, 3, .if_icmp .lt 5, 0, 0), (25, 1, .iconst 0, 0, 0), (26, 1, .ireturn, 1, 0), (27, 1, .aload_n 0, 0, 0), (28, 3, .getfield 27, 5, 2), (31, 1, .iload_n 1, 0, 0), (32, 3, .putfield 259, 0, 0), (35, 1, .aload_n 0, 0, 0), (36, 3, .getfield 27, 5, 2), (39, 1, .aload_n 0, 0, 0), (40, 3, .getfield 54, 5, 3), (43, 3, .getfield 98, 1, 4), (46, 1, .iload_n 1, 0, 0), (47, 1, .iaload, 0, 0), (48, 3, .putfield 262, 0, 1), (51, 1, .aload_n 0, 0, 0), (52, 3, .getfield 27, 5, 2), (55, 1, .aload_n 0, 0, 0), (56, 3, .getfield 54, 5, 3), (59, 3, .getfield 101, 1, 5), (62, 1, .iload_n 1, 0, 0), (63, 1, .iaload, 0, 0), (64, 3, .putfield 264, 0, 2), (67, 1, .aload_n 0, 0, 0), (68, 3, .getfield 27, 5, 2), (71, 1, .iload_n 2, 0, 0), (72, 1, .iload_n 3, 0, 0), (73, 3, .invokevirtual 266, 14, 3), (76, 1, .ireturn, 1, 0)]
def kX5_trace : List CE := [(0, 1, .iload_n 1, 0, 0), (1, 3, .ifCond .lt 20, 0, 0), (4, 1, .iload_n 1, 0, 0), (5, 1, .aload_n 0, 0, 0), (6, 3, .getfield 27, 5, 2), (9, 3, .getfield 256, 0, 3), (12, 3, .if_icmp .ge 9, 0, 0), (15, 1, .iload_n 1, 0, 0), (16, 2, .bipush 20, 0, 0), (18, 3, .if_icmp .lt 5, 0, 0), (21, 1, .iconst (-1), 0, 0), (22, 1, .ireturn, 1, 0), (23, 1, .aload_n 0, 0, 0), (24, 3, .getfield 27, 5, 2), (27, 3, .getfield 269, 0, 4), (30, 1, .iload_n 1, 0, 0), (31, 1, .iaload, 0, 0), (32, 1, .ireturn, 1, 0)]
def kX5_as : List CE := [(0, 1, .aload_n 0, 0, 0), (1, 1, .iload_n 1, 0, 0), (2, 3, .invokevirtual 88, 96, 2), (5, 3, .ifCond .eq 13, 0, 0), (8, 1, .iload_n 2, 0, 0), (9, 3, .ifCond .lt 9, 0, 0), (12, 1, .iload_n 2, 0, 0), (13, 2, .bipush 7, 0, 0), (15, 3, .if_icmp .lt 5, 0, 0), (18, 1, .iconst (-1), 0, 0), (19, 1, .ireturn, 1, 0), (20, 1, .aload_n 0, 0, 0), (21, 3, .getfield 54, 5, 3), (24, 3, .getfield 98, 1, 4), (27, 1, .iload_n 1, 0, 0), (28, 1, .iaload, 0, 0), (29, 1, .istore_n 3, 0, 0), (30, 1, .iconst 0, 0, 0), (31, 2, .istore 4, 0, 0), (33, 2, .iload 4, 0, 0), (35, 2, .bipush 7, 0, 0), (37, 3, .if_icmp .ge 40, 0, 0), (40, 1, .iload_n 3, 0, 0), (41, 3, .ifCond .lt 36, 0, 0), (44, 1, .iload_n 3, 0, 0), (45, 2, .bipush 7, 0, 0), (47, 3, .if_icmp .ge 30, 0, 0), (50, 1, .iload_n 3, 0, 0), (51, 1, .iload_n 2, 0, 0), (52, 3, .if_icmp .ne 13, 0, 0), (55, 1, .aload_n 0, 0, 0), (56, 3, .getfield 54, 5, 3), (59, 3, .getfield 101, 1, 5), (62, 1, .iload_n 1, 0, 0), (63, 1, .iaload, 0, 0), (64, 1, .ireturn, 1, 0), (65, 3, .getstatic 272, 1, 1), (68, 1, .iload_n 3, 0, 0), (69, 1, .iaload, 0, 0), (70, 1, .istore_n 3, 0, 0), (71, 3, .iinc 4 1, 0, 0), (74, 3, .goto (-41), 0, 0), (77, 2, .bipush (-6), 0, 0), (79, 1, .ireturn, 1, 0)]
def kX5_image : List CE := [(0, 1, .aload_n 0, 0, 0), (1, 3, .getfield 61, 5, 5), (4, 1, .aload_n 0, 0, 0), (5, 3, .getfield 54, 5, 3), (8, 3, .invokevirtual 172, 17, 2), (11, 1, .aload_n 0, 0, 0), (12, 3, .getfield 38, 5, 7), (15, 1, .aload_n 0, 0, 0), (16, 3, .getfield 34, 5, 6), (19, 3, .invokevirtual 275, 55, 2), (22, 1, .aload_n 0, 0, 0), (23, 1, .iconst 1, 0, 0), (24, 3, .putfield 278, 5, 10), (27, 1, .aload_n 0, 0, 0), (28, 3, .getfield 54, 5, 3), (31, 3, .getfield 81, 1, 0), (34, 1, .ireturn, 1, 0)]
def kX5_undo : List CE := [(0, 1, .aload_n 0, 0, 0), (1, 3, .getfield 278, 5, 10), (4, 3, .ifCond .ne 6, 0, 0), (7, 2, .bipush (-3), 0, 0), (9, 1, .ireturn, 1, 0), (10, 1, .aload_n 0, 0, 0), (11, 3, .getfield 54, 5, 3), (14, 1, .aload_n 0, 0, 0), (15, 3, .getfield 61, 5, 5), (18, 3, .invokevirtual 172, 17, 2), (21, 1, .aload_n 0, 0, 0), (22, 3, .getfield 34, 5, 6), (25, 1, .aload_n 0, 0, 0), (26, 3, .getfield 38, 5, 7), (29, 3, .invokevirtual 275, 55, 2), (32, 1, .aload_n 0, 0, 0), (33, 3, .getfield 54, 5, 3), (36, 3, .getfield 81, 1, 0), (39, 1, .ireturn, 1, 0)]
def kX5_count : List CE := [(0, 1, .iload_n 1, 0, 0), (1, 47, .tableswitch 111 0 7 #[47, 55, 63, 71, 79, 87, 95, 103], 0, 0), (48, 1, .aload_n 0, 0, 0), (49, 3, .getfield 54, 5, 3), (52, 3, .getfield 81, 1, 0), (55, 1, .ireturn, 1, 0), (56, 1, .aload_n 0, 0, 0), (57, 3, .getfield 54, 5, 3), (60, 3, .getfield 131, 1, 1), (63, 1, .ireturn, 1, 0), (64, 1, .aload_n 0, 0, 0), (65, 3, .getfield 34, 5, 6), (68, 3, .getfield 71, 4, 1), (71, 1, .ireturn, 1, 0), (72, 1, .aload_n 0, 0, 0), (73, 3, .getfield 34, 5, 6), (76, 3, .getfield 220, 4, 2), (79, 1, .ireturn, 1, 0), (80, 1, .aload_n 0, 0, 0), (81, 3, .getfield 34, 5, 6), (84, 3, .getfield 238, 4, 3), (87, 1, .ireturn, 1, 0), (88, 1, .aload_n 0, 0, 0), (89, 3, .getfield 34, 5, 6), (92, 3, .getfield 247, 4, 4), (95, 1, .ireturn, 1, 0), (96, 1, .aload_n 0, 0, 0), (97, 3, .getfield 34, 5, 6), (100, 3, .getfield 64, 4, 0), (103, 1, .ireturn, 1, 0), (104, 1, .aload_n 0, 0, 0), (105, 3, .getfield 27, 5, 2), (108, 3, .getfield 256, 0, 3), (111, 1, .ireturn, 1, 0), (112, 1, .iconst (-1), 0, 0), (113, 1, .ireturn, 1, 0)]
def kX5_isSinger : List CE := [(0, 1, .iload_n 1, 0, 0), (1, 3, .ifCond .lt 18, 0, 0), (4, 1, .iload_n 1, 0, 0), (5, 1, .aload_n 0, 0, 0), (6, 3, .getfield 54, 5, 3), (9, 3, .getfield 81, 1, 0), (12, 3, .if_icmp .ge 7, 0, 0), (15, 1, .iconst 1, 0, 0), (16, 3, .goto 4, 0, 0), (19, 1, .iconst 0, 0, 0), (20, 1, .ireturn, 2, 0)]
def kX5_isStone : List CE := [(0, 1, .iload_n 1, 0, 0), (1, 3, .ifCond .lt 18, 0, 0), (4, 1, .iload_n 1, 0, 0), (5, 1, .aload_n 0, 0, 0), (6, 3, .getfield 54, 5, 3), (9, 3, .getfield 131, 1, 1), (12, 3, .if_icmp .ge 7, 0, 0), (15, 1, .iconst 1, 0, 0), (16, 3, .goto 4, 0, 0), (19, 1, .iconst 0, 0, 0), (20, 1, .ireturn, 2, 0)]
def kX5_hasBit : List CE := [(0, 1, .iload_n 0, 0, 0), (1, 1, .iload_n 1, 0, 0), (2, 1, .ishr, 0, 0), (3, 1, .iconst 1, 0, 0), (4, 1, .iand, 0, 0), (5, 3, .ifCond .eq 7, 0, 0), (8, 1, .iconst 1, 0, 0), (9, 3, .goto 4, 0, 0), (12, 1, .iconst 0, 0, 0), (13, 1, .ireturn, 2, 0)]
def kX5_bestNote : List CE := [(0, 1, .aload_n 0, 0, 0), (1, 3, .getfield 58, 5, 4), (4, 3, .getfield 92, 1, 7), (7, 1, .iload_n 1, 0, 0), (8, 1, .iaload, 0, 0), (9, 1, .istore_n 2, 0, 0), (10, 1, .iconst (-1), 0, 0), (11, 1, .istore_n 3, 0, 0), (12, 1, .iconst 0, 0, 0), (13, 2, .istore 4, 0, 0), (15, 1, .aload_n 0, 0, 0), (16, 3, .getfield 54, 5, 3), (19, 3, .getfield 104, 1, 6), (22, 1, .iload_n 1, 0, 0), (23, 1, .iaload, 0, 0), (24, 2, .istore 5, 0, 0), (26, 2, .iload 5, 0, 0), (28, 1, .aload_n 0, 0, 0), (29, 3, .getfield 54, 5, 3), (32, 1, .iload_n 1, 0, 0), (33, 3, .invokevirtual 282, 20, 2), (36, 3, .if_icmp .gt 48, 0, 0), (39, 1, .aload_n 0, 0, 0), (40, 3, .getfield 58, 5, 4), (43, 3, .getfield 92, 1, 7), (46, 1, .iload_n 1, 0, 0), (47, 2, .iload 5, 0, 0), (49, 1, .iastore, 0, 0), (50, 1, .aload_n 0, 0, 0), (51, 3, .getfield 58, 5, 4), (54, 3, .invokevirtual 150, 29, 1), (57, 2, .istore 6, 0, 0), (59, 1, .iload_n 3, 0, 0), (60, 1, .iconst (-1), 0, 0), (61, 3, .if_icmp .eq 10, 0, 0), (64, 2, .iload 6, 0, 0), (66, 2, .iload 4, 0, 0), (68, 3, .if_icmp .le 10, 0, 0), (71, 2, .iload 5, 0, 0), (73, 1, .istore_n 3, 0, 0), (74, 2, .iload 6, 0, 0), (76, 2, .istore 4, 0, 0), (78, 3, .iinc 5 1, 0, 0), (81, 3, .goto (-55), 0, 0), (84, 1, .aload_n 0, 0, 0), (85, 3, .getfield 58, 5, 4), (88, 3, .getfield 92, 1, 7), (91, 1, .iload_n 1, 0, 0), (92, 1, .iload_n 2, 0, 0), (93, 1, .iastore, 0, 0), (94, 1, .iload_n 3, 0, 0), (95, 1, .ireturn, 1, 0)]
def kX5_measureChords : List CE := [(0, 1, .aload_n 0, 0, 0), (1, 3, .getfield 58, 5, 4), (4, 1, .aload_n 0, 0, 0), (5, 3, .getfield 54, 5, 3), (8, 3, .invokevirtual 172, 17, 2), (11, 1, .iconst 0, 0, 0), (12, 1, .istore_n 1, 0, 0), (13, 1, .iload_n 1, 0, 0), (14, 1, .aload_n 0, 0, 0), (15, 3, .getfield 54, 5, 3), (18, 3, .getfield 81, 1, 0), (21, 3, .if_icmp .ge 55, 0, 0), (24, 1, .iconst 0, 0, 0), (25, 1, .istore_n 2, 0, 0), (26, 1, .iload_n 2, 0, 0), (27, 1, .iconst 5, 0, 0), (28, 3, .if_icmp .ge 42, 0, 0), (31, 1, .aload_n 0, 0, 0), (32, 3, .getfield 58, 5, 4), (35, 3, .getfield 92, 1, 7), (38, 1, .iload_n 1, 0, 0), (39, 1, .aload_n 0, 0, 0), (40, 1, .iload_n 1, 0, 0), (41, 1, .iload_n 2, 0, 0), (42, 3, .invokevirtual 285, 101, 3), (45, 1, .iastore, 0, 0), (46, 1, .aload_n 0, 0, 0), (47, 3, .getfield 41, 5, 8), (50, 1, .iload_n 1, 0, 0), (51, 1, .iconst 5, 0, 0), (52, 1, .imul, 0, 0), (53, 1, .iload_n 2, 0, 0), (54, 1, .iadd, 0, 0), (55, 1, .aload_n 0, 0, 0), (56, 3, .getfield 58, 5, 4), (59, 1, .iload_n 1, 0, 0), (60, 3, .invokevirtual 288, 24, 2), (63, 1, .iastore, 0, 0), (64, 3, .iinc 2 1, 0, 0), (67, 3, .goto (-41), 0, 0), (70, 3, .iinc 1 1, 0, 0), (73, 3, .goto (-60), 0, 0), (76, 1, .return_, 0, 0)]
def kX5_chordNote : List CE := [(0, 2, .bipush 23, 0, 0), (2, 1, .aload_n 0, 0, 0), (3, 3, .getfield 54, 5, 3), (6, 3, .getfield 104, 1, 6), (9, 1, .iload_n 1, 0, 0), (10, 1, .iaload, 0, 0), (11, 3, .getstatic 291, 1, 0), (14, 1, .iload_n 2, 0, 0), (15, 1, .iaload, 0, 0), (16, 1, .iadd, 0, 0), (17, 3, .invokestatic 203, 1000, 0), (20, 1, .ireturn, 1, 0)]
def kX5_bestChord : List CE := [(0, 1, .iconst 1, 0, 0), (1, 1, .istore_n 1, 0, 0), (2, 1, .iconst 0, 0, 0), (3, 1, .istore_n 2, 0, 0), (4, 1, .iload_n 2, 0, 0), (5, 1, .aload_n 0, 0, 0), (6, 3, .getfield 54, 5, 3), (9, 3, .getfield 81, 1, 0), (12, 3, .if_icmp .ge 13, 0, 0), (15, 1, .iload_n 1, 0, 0), (16, 1, .iconst 5, 0, 0), (17, 1, .imul, 0, 0), (18, 1, .istore_n 1, 0, 0), (19, 3, .iinc 2 1, 0, 0), (22, 3, .goto (-18), 0, 0), (25, 1, .iconst 0, 0, 0), (26, 1, .istore_n 2, 0, 0), (27, 1, .iconst (-1), 0, 0), (28, 1, .istore_n 3, 0, 0), (29, 1, .iconst 0, 0, 0), (30, 2, .istore 4, 0, 0), (32, 2, .iload 4, 0, 0), (34, 1, .iload_n 1, 0, 0), (35, 3, .if_icmp .ge 29, 0, 0), (38, 1, .aload_n 0, 0, 0), (39, 2, .iload 4, 0, 0), (41, 3, .invokevirtual 185, 103, 2), (44, 2, .istore 5, 0, 0), (46, 2, .iload 5, 0, 0), (48, 1, .iload_n 3, 0, 0), (49, 3, .if_icmp .le 9, 0, 0), (52, 2, .iload 4, 0, 0), (54, 1, .istore_n 2, 0, 0), (55, 2, .iload 5, 0, 0), (57, 1, .istore_n 3, 0, 0), (58, 3, .iinc 4 1, 0, 0), (61, 3, .goto (-29), 0, 0), (64, 1, .iload_n 2, 0, 0), (65, 1, .ireturn, 1, 0)]
def kX5_singChord : List CE := [(0, 1, .iload_n 1, 0, 0), (1, 1, .istore_n 2, 0, 0), (2, 1, .aload_n 0, 0, 0), (3, 3, .getfield 54, 5, 3), (6, 3, .getfield 81, 1, 0), (9, 1, .iconst 1, 0, 0), (10, 1, .isub, 0, 0), (11, 1, .istore_n 3, 0, 0), (12, 1, .iload_n 3, 0, 0), (13, 3, .ifCond .lt 54, 0, 0), (16, 1, .iload_n 2, 0, 0), (17, 1, .iconst 5, 0, 0), (18, 1, .irem, 0, 0), (19, 2, .istore 4, 0, 0), (21, 1, .iload_n 2, 0, 0), (22, 1, .iconst 5, 0, 0), (23, 1, .idiv, 0, 0), (24, 1, .istore_n 2, 0, 0), (25, 1, .aload_n 0, 0, 0), (26, 3, .getfield 58, 5, 4), (29, 3, .getfield 92, 1, 7), (32, 1, .iload_n 3, 0, 0), (33, 1, .aload_n 0, 0, 0), (34, 1, .iload_n 3, 0, 0), (35, 2, .iload 4, 0, 0), (37, 3, .invokevirtual 285, 101, 3), (40, 1, .iastore, 0, 0), (41, 1, .aload_n 0, 0, 0), (42, 3, .getfield 58, 5, 4), (45, 3, .getfield 110, 1, 13), (48, 1, .iload_n 3, 0, 0), (49, 1, .aload_n 0, 0, 0), (50, 3, .getfield 41, 5, 8), (53, 1, .iload_n 3, 0, 0), (54, 1, .iconst 5, 0, 0), (55, 1, .imul, 0, 0), (56, 2, .iload 4, 0, 0), (58, 1, .iadd, 0, 0), (59, 1, .iaload, 0, 0), (60, 1, .iastore, 0, 0), (61, 3, .iinc 3 (-1), 0, 0), (64, 3, .goto (-52), 0, 0), (67, 1, .aload_n 0, 0, 0), (68, 3, .getfield 58, 5, 4), (71, 1, .iconst 1, 0, 0), (72, 1, .aload_n 0, 0, 0), (73, 3, .getfield 54, 5, 3), (76, 3, .getfield 81, 1, 0), (79, 1, .ishl, 0, 0), (80, 1, .iconst 1, 0, 0), (81, 1, .isub, 0, 0), (82, 3, .invokevirtual 191, 28, 2), (85, 1, .ireturn, 1, 0)]
def kX5_looseOf : List CE := [(0, 1, .aload_n 0, 0, 0), (1, 3, .getfield 54, 5, 3), (4, 1, .aload_n 0, 0, 0), (5, 3, .getfield 54, 5, 3), (8, 1, .iload_n 1, 0, 0), (9, 3, .invokevirtual 191, 28, 2), (12, 3, .invokevirtual 153, 32, 2), (15, 3, .invokestatic 294, 1, 1), (18, 1, .ireturn, 1, 0)]
def kX5_spareBits : List CE := [(0, 1, .aload_n 0, 0, 0), (1, 1, .iload_n 1, 0, 0), (2, 3, .invokevirtual 217, 104, 2), (5, 1, .istore_n 2, 0, 0), (6, 1, .iconst 0, 0, 0), (7, 1, .istore_n 3, 0, 0), (8, 1, .iconst 0, 0, 0), (9, 2, .istore 4, 0, 0), (11, 2, .iload 4, 0, 0), (13, 1, .aload_n 0, 0, 0), (14, 3, .getfield 54, 5, 3), (17, 3, .getfield 81, 1, 0), (20, 3, .if_icmp .ge 41, 0, 0), (23, 1, .iload_n 1, 0, 0), (24, 2, .iload 4, 0, 0), (26, 3, .invokestatic 188, 98, 2), (29, 3, .ifCond .eq 26, 0, 0), (32, 1, .aload_n 0, 0, 0), (33, 1, .iload_n 1, 0, 0), (34, 1, .iconst 1, 0, 0), (35, 2, .iload 4, 0, 0), (37, 1, .ishl, 0, 0), (38, 1, .iconst (-1), 0, 0), (39, 1, .ixor, 0, 0), (40, 1, .iand, 0, 0), (41, 3, .invokevirtual 217, 104, 2), (44, 1, .iload_n 2, 0, 0), (45, 3, .if_icmp .gt 10, 0, 0), (48, 1, .iload_n 3, 0, 0), (49, 1, .iconst 1, 0, 0), (50, 2, .iload 4, 0, 0), (52, 1, .ishl, 0, 0), (53, 1, .ior, 0, 0), (54, 1, .istore_n 3, 0, 0), (55, 3, .iinc 4 1, 0, 0), (58, 3, .goto (-47), 0, 0), (61, 1, .iload_n 3, 0, 0), (62, 1, .ireturn, 1, 0)]
def kX5_setShift : List CE := [(0, 1, .aload_n 0, 0, 0), (1, 3, .getfield 54, 5, 3), (4, 3, .invokevirtual 113, 22, 1), (7, 1, .istore_n 1, 0, 0), (8, 1, .aload_n 0, 0, 0), (9, 3, .getfield 58, 5, 4), (12, 1, .aload_n 0, 0, 0), (13, 3, .getfield 54, 5, 3), (16, 1, .iload_n 1, 0, 0), (17, 3, .invokevirtual 299, 37, 3), (20, 1, .aload_n 0, 0, 0), (21, 3, .getfield 58, 5, 4), (24, 3, .invokevirtual 95, 23, 1), (27, 1, .iload_n 1, 0, 0), (28, 1, .istore_n 2, 0, 0), (29, 2, .bipush 7, 0, 0), (31, 1, .istore_n 3, 0, 0), (32, 1, .iconst 0, 0, 0), (33, 2, .istore 4, 0, 0), (35, 2, .iload 4, 0, 0), (37, 1, .iload_n 1, 0, 0), (38, 3, .if_icmp .gt 55, 0, 0), (41, 2, .iload 4, 0, 0), (43, 1, .iload_n 1, 0, 0), (44, 1, .iconst (-1), 0, 0), (45, 1, .ixor, 0, 0), (46, 1, .iand, 0, 0), (47, 3, .ifCond .ne 40, 0, 0), (50, 2, .iload 4, 0, 0), (52, 3, .invokestatic 294, 1, 1), (55, 1, .iload_n 3, 0, 0), (56, 3, .if_icmp .ge 31, 0, 0), (59, 1, .aload_n 0, 0, 0), (60, 3, .getfield 58, 5, 4), (63, 1, .aload_n 0, 0, 0), (64, 3, .getfield 58, 5, 4), (67, 2, .iload 4, 0, 0), (69, 3, .invokevirtual 191, 28, 2), (72, 3, .invokevirtual 153, 32, 2), (75, 3, .ifCond .ne 12, 0, 0), (78, 2, .iload 4, 0, 0), (80, 1, .istore_n 2, 0, 0), (81, 2, .iload 4, 0, 0), (83, 3, .invokestatic 294, 1, 1), (86, 1, .istore_n 3, 0, 0), (87, 3, .iinc 4 1, 0, 0), (90, 3, .goto (-55), 0, 0), (93, 1, .aload_n 0, 0, 0), (94, 3, .getfield 58, 5, 4), (97, 1, .aload_n 0, 0, 0), (98, 3, .getfield 54, 5, 3), (101, 1, .iload_n 2, 0, 0), (102, 3, .invokevirtual 299, 37, 3), (105, 1, .iload_n 2, 0, 0), (106, 1, .ireturn, 1, 0)]
def kX5_isDustBy : List CE := [(0, 1, .aload_n 0, 0, 0), (1, 3, .getfield 58, 5, 4), (4, 1, .aload_n 0, 0, 0), (5, 3, .getfield 54, 5, 3), (8, 3, .invokevirtual 172, 17, 2), (11, 1, .aload_n 0, 0, 0), (12, 3, .getfield 58, 5, 4), (15, 3, .getfield 92, 1, 7), (18, 1, .iload_n 1, 0, 0), (19, 1, .iconst 0, 0, 0), (20, 1, .aload_n 0, 0, 0), (21, 3, .getfield 54, 5, 3), (24, 3, .getfield 92, 1, 7), (27, 1, .iload_n 1, 0, 0), (28, 1, .iaload, 0, 0), (29, 1, .iconst 1, 0, 0), (30, 1, .isub, 0, 0), (31, 3, .invokestatic 303, 1001, 0), (34, 1, .iastore, 0, 0), (35, 1, .iconst 0, 0, 0), (36, 1, .istore_n 2, 0, 0), (37, 1, .iload_n 2, 0, 0), (38, 2, .bipush 40, 0, 0), (40, 3, .if_icmp .gt 76, 0, 0), (43, 1, .aload_n 0, 0, 0), (44, 3, .getfield 58, 5, 4), (47, 3, .invokevirtual 165, 33, 1), (50, 1, .istore_n 3, 0, 0), (51, 1, .iconst 0, 0, 0), (52, 2, .istore 4, 0, 0), (54, 2, .iload 4, 0, 0), (56, 1, .aload_n 0, 0, 0), (57, 3, .getfield 34, 5, 6), (60, 3, .getfield 220, 4, 2), (63, 3, .if_icmp .ge 39, 0, 0), (66, 1, .aload_n 0, 0, 0), (67, 3, .getfield 34, 5, 6), (70, 3, .getfield 223, 4, 6), (73, 2, .iload 4, 0, 0), (75, 1, .iaload, 0, 0), (76, 1, .iload_n 2, 0, 0), (77, 3, .if_icmp .ne 19, 0, 0), (80, 1, .aload_n 0, 0, 0), (81, 3, .getfield 34, 5, 6), (84, 3, .getfield 226, 4, 7), (87, 2, .iload 4, 0, 0), (89, 1, .iaload, 0, 0), (90, 1, .iload_n 3, 0, 0), (91, 3, .if_icmp .eq 5, 0, 0), (94, 1, .iconst 0, 0, 0), (95, 1, .ireturn, 2, 0), (96, 3, .iinc 4 1, 0, 0), (99, 3, .goto (-45), 0, 0), (102, 1, .aload_n 0, 0, 0), (103, 3, .getfield 58, 5, 4), (106, 3, .invokevirtual 169, 35, 1), (109, 1, .pop, 0, 0), (110, 3, .iinc 2 1, 0, 0), (113, 3, .goto (-76), 0, 0), (116, 1, .iconst 1, 0, 0), (117, 1, .ireturn, 2, 0)]
def kX5_sortHanging : List CE := [(0, 1, .iconst 0, 0, 0), (1, 1, .istore_n 1, 0, 0), (2, 1, .iconst 0, 0, 0), (3, 1, .istore_n 2, 0, 0), (4, 1, .iload_n 2, 0, 0), (5, 1, .aload_n 0, 0, 0), (6, 3, .getfield 54, 5, 3), (9, 3, .getfield 131, 1, 1), (12, 3, .if_icmp .ge 84, 0, 0), (15, 1, .aload_n 0, 0, 0), (16, 3, .getfield 54, 5, 3), (19, 1, .iload_n 2, 0, 0), (20, 3, .invokevirtual 306, 30, 2), (23, 3, .ifCond .eq 67, 0, 0), (26, 1, .iload_n 1, 0, 0), (27, 1, .istore_n 3, 0, 0), (28, 1, .iload_n 3, 0, 0), (29, 3, .ifCond .le 51, 0, 0), (32, 1, .aload_n 0, 0, 0), (33, 3, .getfield 54, 5, 3), (36, 3, .getfield 141, 1, 10), (39, 1, .aload_n 0, 0, 0), (40, 3, .getfield 45, 5, 9), (43, 1, .iload_n 3, 0, 0), (44, 1, .iconst 1, 0, 0), (45, 1, .isub, 0, 0), (46, 1, .iaload, 0, 0), (47, 1, .iaload, 0, 0), (48, 1, .aload_n 0, 0, 0), (49, 3, .getfield 54, 5, 3), (52, 3, .getfield 141, 1, 10), (55, 1, .iload_n 2, 0, 0), (56, 1, .iaload, 0, 0), (57, 3, .if_icmp .le 23, 0, 0), (60, 1, .aload_n 0, 0, 0), (61, 3, .getfield 45, 5, 9), (64, 1, .iload_n 3, 0, 0), (65, 1, .aload_n 0, 0, 0), (66, 3, .getfield 45, 5, 9), (69, 1, .iload_n 3, 0, 0), (70, 1, .iconst 1, 0, 0), (71, 1, .isub, 0, 0), (72, 1, .iaload, 0, 0), (73, 1, .iastore, 0, 0), (74, 3, .iinc 3 (-1), 0, 0), (77, 3, .goto (-49), 0, 0), (80, 1, .aload_n 0, 0, 0), (81, 3, .getfield 45, 5, 9), (84, 1, .iload_n 3, 0, 0), (85, 1, .iload_n 2, 0, 0), (86, 1, .iastore, 0, 0), (87, 3, .iinc 1 1, 0, 0), (90, 3, .iinc 2 1, 0, 0), (93, 3, .goto (-89), 0, 0), (96, 1, .iload_n 1, 0, 0), (97, 1, .ireturn, 1, 0)]
def kX5_inLowestTerms : List CE := [(0, 1, .iload_n 2, 0, 0), (1, 3, .ifCond .lt 8, 0, 0), (4, 1, .iload_n 2, 0, 0), (5, 1, .iconst 1, 0, 0), (6, 3, .if_icmp .le 7, 0, 0), (9, 3, .ldc2_w 232, 0, 0), (12, 1, .lreturn, 0, 0), (13, 1, .iconst 1, 0, 0), (14, 1, .iload_n 0, 0, 0), (15, 3, .invokestatic 309, 1002, 0), (18, 1, .iload_n 1, 0, 0), (19, 3, .invokestatic 312, 110, 2), (22, 3, .invokestatic 303, 1001, 0), (25, 1, .istore_n 3, 0, 0), (26, 1, .iload_n 2, 0, 0), (27, 3, .ifCond .ne 7, 0, 0), (30, 1, .iload_n 0, 0, 0), (31, 3, .goto 4, 0, 0), (34, 1, .iload_n 1, 0, 0), (35, 1, .iload_n 3, 0, 0), (36, 1, .idiv, 0, 0), (37, 1, .i2l, 0, 0), (38, 1, .lreturn, 0, 0)]
def kX5_commonDivisor : List CE := [(0, 1, .iload_n 0, 0, 0), (1, 1, .istore_n 2, 0, 0), (2, 1, .iload_n 1, 0, 0), (3, 1, .istore_n 3, 0, 0), (4, 1, .iconst 0, 0, 0), (5, 2, .istore 4, 0, 0), (7, 2, .iload 4, 0, 0), (9, 2, .bipush 64, 0, 0), (11, 3, .if_icmp .ge 23, 0, 0), (14, 1, .iload_n 3, 0, 0), (15, 3, .ifCond .le 19, 0, 0), (18, 1, .iload_n 2, 0, 0), (19, 1, .iload_n 3, 0, 0), (20, 1, .irem, 0, 0), (21, 2, .istore 5, 0, 0), (23, 1, .iload_n 3, 0, 0), (24, 1, .istore_n 2, 0, 0), (25, 2, .iload 5, 0, 0), (27, 1, .istore_n 3, 0, 0), (28, 3, .iinc 4 1, 0, 0), (31, 3, .goto (-24), 0, 0), (34, 1, .iload_n 2, 0, 0), (35, 1, .ireturn, 1, 0)]
def kX6_in : List CE := [(0, 1, .iload_n 0, 0, 0), (1, 1, .iload_n 1, 0, 0), (2, 3, .if_icmp .lt 12, 0, 0), (5, 1, .iload_n 0, 0, 0), (6, 1, .iload_n 2, 0, 0), (7, 3, .if_icmp .gt 7, 0, 0), (10, 1, .iconst 1, 0, 0), (11, 3, .goto 4, 0, 0), (14, 1, .iconst 0, 0, 0), (15, 1, .ireturn, 2, 0)]
def kX6_isSinger : List CE := [(0, 1, .iload_n 1, 0, 0), (1, 1, .iconst 0, 0, 0), (2, 1, .aload_n 0, 0, 0), (3, 3, .getfield 9, 6, 1), (6, 2, .bipush 19, 0, 0), (8, 1, .iaload, 0, 0), (9, 1, .iconst 1, 0, 0), (10, 1, .isub, 0, 0), (11, 3, .invokestatic 47, 111, 3), (14, 1, .ireturn, 2, 0)]
def kX6_isStone : List CE := [(0, 1, .iload_n 1, 0, 0), (1, 1, .iconst 0, 0, 0), (2, 1, .aload_n 0, 0, 0), (3, 3, .getfield 9, 6, 1), (6, 2, .bipush 20, 0, 0), (8, 1, .iaload, 0, 0), (9, 1, .iconst 1, 0, 0), (10, 1, .isub, 0, 0), (11, 3, .invokestatic 47, 111, 3), (14, 1, .ireturn, 2, 0)]
def kX6_doesSing : List CE := [(0, 1, .aload_n 0, 0, 0), (1, 3, .getfield 9, 6, 1), (4, 1, .iconst 1, 0, 0), (5, 1, .iload_n 1, 0, 0), (6, 1, .iadd, 0, 0), (7, 1, .iaload, 0, 0), (8, 1, .iconst (-1), 0, 0), (9, 3, .if_icmp .eq 7, 0, 0), (12, 1, .iconst 1, 0, 0), (13, 3, .goto 4, 0, 0), (16, 1, .iconst 0, 0, 0), (17, 1, .ireturn, 2, 0)]
def kX6_keeps : List CE := [(0, 1, .iconst 0, 0, 0), (1, 1, .istore_n 1, 0, 0), (2, 1, .iload_n 1, 0, 0), (3, 2, .bipush 19, 0, 0), (5, 3, .if_icmp .ge 21, 0, 0), (8, 1, .aload_n 0, 0, 0), (9, 3, .getfield 18, 6, 3), (12, 1, .iload_n 1, 0, 0), (13, 1, .aload_n 0, 0, 0), (14, 3, .getfield 9, 6, 1), (17, 1, .iload_n 1, 0, 0), (18, 1, .iaload, 0, 0), (19, 1, .iastore, 0, 0), (20, 3, .iinc 1 1, 0, 0), (23, 3, .goto (-21), 0, 0), (26, 1, .return_, 0, 0)]
def kX6_goesBack : List CE := [(0, 1, .iconst 0, 0, 0), (1, 1, .istore_n 1, 0, 0), (2, 1, .iload_n 1, 0, 0), (3, 2, .bipush 19, 0, 0), (5, 3, .if_icmp .ge 21, 0, 0), (8, 1, .aload_n 0, 0, 0), (9, 3, .getfield 9, 6, 1), (12, 1, .iload_n 1, 0, 0), (13, 1, .aload_n 0, 0, 0), (14, 3, .getfield 18, 6, 3), (17, 1, .iload_n 1, 0, 0), (18, 1, .iaload, 0, 0), (19, 1, .iastore, 0, 0), (20, 3, .iinc 1 1, 0, 0), (23, 3, .goto (-21), 0, 0), (26, 1, .return_, 0, 0)]
def kX6_feed : List CE := [(0, 1, .iload_n 1, 0, 0), (1, 1, .iconst 0, 0, 0), (2, 2, .bipush 127, 0, 0), (4, 3, .invokestatic 47, 111, 3), (7, 3, .ifCond .ne 6, 0, 0), (10, 2, .bipush (-2), 0, 0), (12, 1, .ireturn, 1, 0), (13, 1, .aload_n 0, 0, 0), (14, 3, .getfield 9, 6, 1), (17, 2, .bipush 25, 0, 0), (19, 1, .iaload, 0, 0), (20, 2, .bipush 100, 0, 0), (22, 3, .if_icmp .ne 6, 0, 0), (25, 2, .bipush (-4), 0, 0), (27, 1, .ireturn, 1, 0), (28, 1, .aload_n 0, 0, 0), (29, 3, .getfield 9, 6, 1), (32, 2, .bipush 125, 0, 0), (34, 1, .aload_n 0, 0, 0), (35, 3, .getfield 9, 6, 1), (38, 2, .bipush 25, 0, 0), (40, 1, .iaload, 0, 0), (41, 1, .iadd, 0, 0), (42, 1, .iload_n 1, 0, 0), (43, 1, .iastore, 0, 0), (44, 1, .aload_n 0, 0, 0), (45, 3, .getfield 9, 6, 1), (48, 2, .bipush 25, 0, 0), (50, 1, .dup2, 0, 0), (51, 1, .iaload, 0, 0), (52, 1, .iconst 1, 0, 0), (53, 1, .iadd, 0, 0), (54, 1, .iastore, 0, 0), (55, 1, .aload_n 0, 0, 0), (56, 3, .getfield 9, 6, 1), (59, 2, .bipush 25, 0, 0), (61, 1, .iaload, 0, 0), (62, 1, .ireturn, 1, 0)]
def kX6_here : List CE := [(0, 1, .aload_n 0, 0, 0), (1, 3, .getfield 51, 6, 6), (4, 1, .aload_n 0, 0, 0), (5, 3, .getfield 54, 6, 7), (8, 3, .if_icmp .ge 18, 0, 0), (11, 1, .aload_n 0, 0, 0), (12, 3, .getfield 9, 6, 1), (15, 2, .bipush 125, 0, 0), (17, 1, .aload_n 0, 0, 0), (18, 3, .getfield 51, 6, 6), (21, 1, .iadd, 0, 0), (22, 1, .iaload, 0, 0), (23, 3, .goto 4, 0, 0), (26, 1, .iconst (-1), 0, 0), (27, 1, .ireturn, 1, 0)]
def kX6_must : List CE := [(0, 1, .aload_n 0, 0, 0), (1, 1, .aload_n 0, 0, 0), (2, 3, .getfield 57, 6, 8), (5, 3, .ifCond .ne 11, 0, 0), (8, 1, .aload_n 0, 0, 0), (9, 3, .invokevirtual 61, 118, 1), (12, 1, .iload_n 1, 0, 0), (13, 3, .if_icmp .eq 7, 0, 0), (16, 1, .iconst 1, 0, 0), (17, 3, .goto 4, 0, 0), (20, 1, .iconst 0, 0, 0), (21, 3, .putfield 57, 6, 8), (24, 1, .aload_n 0, 0, 0), (25, 1, .dup, 0, 0), (26, 3, .getfield 51, 6, 6), (29, 1, .aload_n 0, 0, 0), (30, 3, .getfield 57, 6, 8), (33, 3, .ifCond .eq 7, 0, 0), (36, 1, .iconst 0, 0, 0), (37, 3, .goto 4, 0, 0), (40, 1, .iconst 1, 0, 0), (41, 1, .iadd, 0, 0), (42, 3, .putfield 51, 6, 6), (45, 1, .return_, 0, 0)]
def kX6_spells : List CE := [(0, 1, .iconst 0, 0, 0), (1, 1, .istore_n 2, 0, 0), (2, 1, .iload_n 2, 0, 0), (3, 1, .aload_n 1, 0, 0), (4, 3, .invokevirtual 65, 2, 1), (7, 3, .if_icmp .ge 18, 0, 0), (10, 1, .aload_n 0, 0, 0), (11, 1, .aload_n 1, 0, 0), (12, 1, .iload_n 2, 0, 0), (13, 3, .invokevirtual 70, 3, 2), (16, 3, .invokevirtual 74, 119, 2), (19, 3, .iinc 2 1, 0, 0), (22, 3, .goto (-20), 0, 0), (25, 1, .return_, 0, 0)]
def kX6_figures : List CE := [(0, 1, .aload_n 0, 0, 0), (1, 1, .aload_n 0, 0, 0), (2, 3, .getfield 57, 6, 8), (5, 3, .ifCond .ne 17, 0, 0), (8, 1, .aload_n 0, 0, 0), (9, 3, .invokevirtual 61, 118, 1), (12, 2, .bipush 48, 0, 0), (14, 2, .bipush 57, 0, 0), (16, 3, .invokestatic 47, 111, 3), (19, 3, .ifCond .ne 7, 0, 0), (22, 1, .iconst 1, 0, 0), (23, 3, .goto 4, 0, 0), (26, 1, .iconst 0, 0, 0), (27, 3, .putfield 57, 6, 8), (30, 1, .iconst 0, 0, 0), (31, 1, .istore_n 1, 0, 0), (32, 1, .iconst 0, 0, 0), (33, 1, .istore_n 2, 0, 0), (34, 1, .iload_n 2, 0, 0), (35, 1, .iconst 2, 0, 0), (36, 3, .if_icmp .ge 61, 0, 0), (39, 1, .aload_n 0, 0, 0), (40, 3, .getfield 57, 6, 8), (43, 3, .ifCond .ne 54, 0, 0), (46, 1, .aload_n 0, 0, 0), (47, 3, .invokevirtual 61, 118, 1), (50, 2, .bipush 48, 0, 0), (52, 2, .bipush 57, 0, 0), (54, 3, .invokestatic 47, 111, 3), (57, 3, .ifCond .eq 40, 0, 0), (60, 1, .iload_n 2, 0, 0), (61, 3, .ifCond .eq 7, 0, 0), (64, 1, .iload_n 1, 0, 0), (65, 3, .ifCond .le 32, 0, 0), (68, 2, .bipush 10, 0, 0), (70, 1, .iload_n 1, 0, 0), (71, 1, .imul, 0, 0), (72, 1, .aload_n 0, 0, 0), (73, 3, .invokevirtual 61, 118, 1), (76, 1, .iadd, 0, 0), (77, 2, .bipush 48, 0, 0), (79, 1, .isub, 0, 0), (80, 1, .istore_n 1, 0, 0), (81, 1, .aload_n 0, 0, 0), (82, 1, .dup, 0, 0), (83, 3, .getfield 51, 6, 6), (86, 1, .iconst 1, 0, 0), (87, 1, .iadd, 0, 0), (88, 3, .putfield 51, 6, 6), (91, 3, .iinc 2 1, 0, 0), (94, 3, .goto (-60), 0, 0), (97, 1, .iload_n 1, 0, 0), (98, 1, .ireturn, 1, 0)]
def kX6_among : List CE := [(0, 1, .iconst 0, 0, 0), (1, 1, .istore_n 2, 0, 0), (2, 1, .iload_n 2, 0, 0), (3, 1, .aload_n 1, 0, 0), (4, 3, .invokevirtual 65, 2, 1), (7, 3, .if_icmp .ge 33, 0, 0), (10, 1, .aload_n 0, 0, 0), (11, 3, .invokevirtual 61, 118, 1), (14, 1, .aload_n 1, 0, 0), (15, 1, .iload_n 2, 0, 0), (16, 3, .invokevirtual 70, 3, 2), (19, 3, .if_icmp .ne 15, 0, 0), (22, 1, .aload_n 0, 0, 0), (23, 1, .dup, 0, 0), (24, 3, .getfield 51, 6, 6), (27, 1, .iconst 1, 0, 0), (28, 1, .iadd, 0, 0), (29, 3, .putfield 51, 6, 6), (32, 1, .iload_n 2, 0, 0), (33, 1, .ireturn, 1, 0), (34, 3, .iinc 2 1, 0, 0), (37, 3, .goto (-35), 0, 0), (40, 1, .iconst (-1), 0, 0), (41, 1, .ireturn, 1, 0)]
def kX6_emits : List CE := [(0, 1, .aload_n 0, 0, 0), (1, 3, .getfield 57, 6, 8), (4, 3, .ifCond .ne 52, 0, 0), (7, 1, .aload_n 0, 0, 0), (8, 3, .getfield 9, 6, 1), (11, 3, .sipush 240, 0, 0), (14, 3, .sipush 140, 0, 0), (17, 1, .aload_n 0, 0, 0), (18, 3, .getfield 78, 6, 5), (21, 1, .imul, 0, 0), (22, 1, .iadd, 0, 0), (23, 1, .aload_n 0, 0, 0), (24, 3, .getfield 9, 6, 1), (27, 3, .sipush 235, 0, 0), (30, 1, .aload_n 0, 0, 0), (31, 3, .getfield 78, 6, 5), (34, 1, .iadd, 0, 0), (35, 1, .iaload, 0, 0), (36, 1, .iadd, 0, 0), (37, 1, .iload_n 1, 0, 0), (38, 1, .iastore, 0, 0), (39, 1, .aload_n 0, 0, 0), (40, 3, .getfield 9, 6, 1), (43, 3, .sipush 235, 0, 0), (46, 1, .aload_n 0, 0, 0), (47, 3, .getfield 78, 6, 5), (50, 1, .iadd, 0, 0), (51, 1, .dup2, 0, 0), (52, 1, .iaload, 0, 0), (53, 1, .iconst 1, 0, 0), (54, 1, .iadd, 0, 0), (55, 1, .iastore, 0, 0), (56, 1, .return_, 0, 0)]
def kX6_factor : List CE := [(0, 1, .aload_n 0, 0, 0), (1, 3, .getfield 57, 6, 8), (4, 3, .ifCond .eq 4, 0, 0), (7, 1, .return_, 0, 0), (8, 1, .aload_n 0, 0, 0), (9, 3, .invokevirtual 61, 118, 1), (12, 1, .istore_n 1, 0, 0), (13, 1, .iload_n 1, 0, 0), (14, 2, .bipush 33, 0, 0), (16, 3, .if_icmp .eq 9, 0, 0), (19, 1, .iload_n 1, 0, 0), (20, 2, .bipush 40, 0, 0), (22, 3, .if_icmp .ne 90, 0, 0), (25, 1, .aload_n 0, 0, 0), (26, 1, .aload_n 0, 0, 0), (27, 3, .getfield 81, 6, 9), (30, 1, .iconst 5, 0, 0), (31, 3, .if_icmp .ne 7, 0, 0), (34, 1, .iconst 1, 0, 0), (35, 3, .goto 4, 0, 0), (38, 1, .iconst 0, 0, 0), (39, 3, .putfield 57, 6, 8), (42, 1, .aload_n 0, 0, 0), (43, 1, .dup, 0, 0), (44, 3, .getfield 81, 6, 9), (47, 1, .iconst 1, 0, 0), (48, 1, .iadd, 0, 0), (49, 3, .putfield 81, 6, 9), (52, 1, .aload_n 0, 0, 0), (53, 1, .dup, 0, 0), (54, 3, .getfield 51, 6, 6), (57, 1, .aload_n 0, 0, 0), (58, 3, .getfield 57, 6, 8), (61, 3, .ifCond .eq 7, 0, 0), (64, 1, .iconst 0, 0, 0), (65, 3, .goto 4, 0, 0), (68, 1, .iconst 1, 0, 0), (69, 1, .iadd, 0, 0), (70, 3, .putfield 51, 6, 6), (73, 1, .iload_n 1, 0, 0), (74, 2, .bipush 33, 0, 0), (76, 3, .if_icmp .ne 15, 0, 0), (79, 1, .aload_n 0, 0, 0), (80, 3, .invokevirtual 84, 124, 1), (83, 1, .aload_n 0, 0, 0), (84, 1, .iconst (-1), 0, 0), (85, 3, .invokevirtual 87, 123, 2), (88, 3, .goto 13, 0, 0), (91, 1, .aload_n 0, 0, 0), (92, 3, .invokevirtual 90, 126, 1), (95, 1, .aload_n 0, 0, 0), (96, 2, .bipush 41, 0, 0), (98, 3, .invokevirtual 74, 119, 2), (101, 1, .aload_n 0, 0, 0), (102, 1, .dup, 0, 0), (103, 3, .getfield 81, 6, 9), (106, 1, .iconst 1, 0, 0), (107, 1, .isub, 0, 0), (108, 3, .putfield 81, 6, 9), (111, 1, .return_, 0, 0), (112, 1, .aload_n 0, 0, 0), (113, 2, .ldc 93, 1, 4), (115, 3, .invokevirtual 95, 122, 2), (118, 1, .istore_n 2, 0, 0), (119, 1, .aload_n 0, 0, 0), (120, 1, .iload_n 2, 0, 0), (121, 1, .iconst (-1), 0, 0), (122, 3, .if_icmp .ne 7, 0, 0), (125, 1, .iconst 1, 0, 0), (126, 3, .goto 4, 0, 0), (129, 1, .iconst 0, 0, 0), (130, 3, .putfield 57, 6, 8), (133, 1, .aload_n 0, 0, 0), (134, 3, .getfield 57, 6, 8), (137, 3, .ifCond .eq 7, 0, 0), (140, 1, .iconst 0, 0, 0), (141, 3, .goto 9, 0, 0), (144, 1, .aload_n 0, 0, 0), (145, 2, .ldc 99, 1, 5), (147, 3, .invokevirtual 95, 122, 2), (150, 1, .istore_n 3, 0, 0), (151, 1, .aload_n 0, 0, 0), (152, 1, .aload_n 0, 0, 0), (153, 3, .getfield 57, 6, 8), (156, 3, .ifCond .ne 8, 0, 0), (159, 1, .iload_n 3, 0, 0), (160, 1, .iconst (-1), 0, 0), (161, 3, .if_icmp .ne 7, 0, 0), (164, 1, .iconst 1, 0, 0), (165, 3, .goto 4, 0, 0), (168, 1, .iconst 0, 0, 0), (169, 3, .putfield 57, 6, 8), (172, 1, .aload_n 0, 0, 0), (173, 3, .invokevirtual 101, 121, 1), (176, 2, .istore 4, 0, 0), (178, 1, .aload_n 0, 0, 0), (179, 1, .iload_n 2, 0, 0), (180, 2, .bipush 8, 0, 0), (182, 1, .iload_n 3, 0, 0), (183, 1, .imul, 0, 0), (184, 1, .iadd, 0, 0), (185, 2, .bipush 32, 0, 0), (187, 2, .iload 4, 0, 0), (189, 1, .imul, 0, 0), (190, 1, .iadd, 0, 0), (191, 3, .invokevirtual 87, 123, 2), (194, 1, .return_, 0, 0)]
def kX6_every : List CE := [(0, 1, .aload_n 0, 0, 0), (1, 3, .invokevirtual 84, 124, 1), (4, 1, .aload_n 0, 0, 0), (5, 3, .getfield 57, 6, 8), (8, 3, .ifCond .ne 35, 0, 0), (11, 1, .aload_n 0, 0, 0), (12, 3, .invokevirtual 61, 118, 1), (15, 2, .bipush 38, 0, 0), (17, 3, .if_icmp .ne 26, 0, 0), (20, 1, .aload_n 0, 0, 0), (21, 1, .dup, 0, 0), (22, 3, .getfield 51, 6, 6), (25, 1, .iconst 1, 0, 0), (26, 1, .iadd, 0, 0), (27, 3, .putfield 51, 6, 6), (30, 1, .aload_n 0, 0, 0), (31, 3, .invokevirtual 84, 124, 1), (34, 1, .aload_n 0, 0, 0), (35, 2, .bipush (-2), 0, 0), (37, 3, .invokevirtual 87, 123, 2), (40, 3, .goto (-36), 0, 0), (43, 1, .return_, 0, 0)]
def kX6_some : List CE := [(0, 1, .aload_n 0, 0, 0), (1, 3, .invokevirtual 104, 125, 1), (4, 1, .aload_n 0, 0, 0), (5, 3, .getfield 57, 6, 8), (8, 3, .ifCond .ne 35, 0, 0), (11, 1, .aload_n 0, 0, 0), (12, 3, .invokevirtual 61, 118, 1), (15, 2, .bipush 124, 0, 0), (17, 3, .if_icmp .ne 26, 0, 0), (20, 1, .aload_n 0, 0, 0), (21, 1, .dup, 0, 0), (22, 3, .getfield 51, 6, 6), (25, 1, .iconst 1, 0, 0), (26, 1, .iadd, 0, 0), (27, 3, .putfield 51, 6, 6), (30, 1, .aload_n 0, 0, 0), (31, 3, .invokevirtual 104, 125, 1), (34, 1, .aload_n 0, 0, 0), (35, 2, .bipush (-3), 0, 0), (37, 3, .invokevirtual 87, 123, 2), (40, 3, .goto (-36), 0, 0), (43, 1, .return_, 0, 0)]
def kX6_much : List CE := [(0, 1, .aload_n 0, 0, 0), (1, 1, .aload_n 2, 0, 0), (2, 3, .invokevirtual 107, 120, 2), (5, 1, .aload_n 0, 0, 0), (6, 3, .invokevirtual 101, 121, 1), (9, 1, .istore_n 3, 0, 0), (10, 1, .aload_n 0, 0, 0), (11, 2, .bipush 32, 0, 0), (13, 3, .invokevirtual 74, 119, 2), (16, 1, .aload_n 0, 0, 0), (17, 3, .invokevirtual 90, 126, 1), (20, 1, .aload_n 0, 0, 0), (21, 1, .iload_n 1, 0, 0), (22, 1, .iload_n 3, 0, 0), (23, 1, .isub, 0, 0), (24, 3, .invokevirtual 87, 123, 2), (27, 1, .return_, 0, 0)]
def kX6_tellsHere : List CE := [(0, 1, .aload_n 0, 0, 0), (1, 1, .aload_n 2, 0, 0), (2, 3, .invokevirtual 107, 120, 2), (5, 1, .aload_n 0, 0, 0), (6, 3, .invokevirtual 101, 121, 1), (9, 1, .istore_n 3, 0, 0), (10, 1, .aload_n 0, 0, 0), (11, 3, .getfield 57, 6, 8), (14, 3, .ifCond .ne 15, 0, 0), (17, 1, .aload_n 0, 0, 0), (18, 3, .getfield 9, 6, 1), (21, 1, .iload_n 1, 0, 0), (22, 1, .aload_n 0, 0, 0), (23, 3, .getfield 78, 6, 5), (26, 1, .iadd, 0, 0), (27, 1, .iload_n 3, 0, 0), (28, 1, .iastore, 0, 0), (29, 1, .return_, 0, 0)]
def kX6_clauseHere : List CE := [(0, 1, .aload_n 0, 0, 0), (1, 3, .invokevirtual 61, 118, 1), (4, 44, .lookupswitch 91 #[(100, 79), (101, 44), (108, 68), (119, 56)], 0, 0), (48, 1, .aload_n 0, 0, 0), (49, 3, .sipush 225, 0, 0), (52, 2, .ldc 111, 1, 0), (54, 3, .invokevirtual 113, 128, 3), (57, 3, .goto 43, 0, 0), (60, 1, .aload_n 0, 0, 0), (61, 3, .sipush 230, 0, 0), (64, 2, .ldc 117, 1, 1), (66, 3, .invokevirtual 113, 128, 3), (69, 3, .goto 31, 0, 0), (72, 1, .aload_n 0, 0, 0), (73, 2, .bipush (-10), 0, 0), (75, 2, .ldc 119, 1, 2), (77, 3, .invokevirtual 121, 127, 3), (80, 3, .goto 20, 0, 0), (83, 1, .aload_n 0, 0, 0), (84, 3, .sipush (-200), 0, 0), (87, 2, .ldc 124, 1, 3), (89, 3, .invokevirtual 121, 127, 3), (92, 3, .goto 8, 0, 0), (95, 1, .aload_n 0, 0, 0), (96, 1, .iconst 1, 0, 0), (97, 3, .putfield 57, 6, 8), (100, 1, .return_, 0, 0)]
def kX6_setting : List CE := [(0, 1, .aload_n 0, 0, 0), (1, 3, .getfield 9, 6, 1), (4, 2, .bipush 21, 0, 0), (6, 1, .iaload, 0, 0), (7, 1, .iconst 5, 0, 0), (8, 3, .if_icmp .ne 6, 0, 0), (11, 2, .bipush (-4), 0, 0), (13, 1, .ireturn, 1, 0), (14, 1, .aload_n 0, 0, 0), (15, 1, .aload_n 0, 0, 0), (16, 3, .getfield 9, 6, 1), (19, 2, .bipush 21, 0, 0), (21, 1, .iaload, 0, 0), (22, 3, .putfield 78, 6, 5), (25, 1, .aload_n 0, 0, 0), (26, 1, .aload_n 0, 0, 0), (27, 3, .getfield 9, 6, 1), (30, 2, .bipush 25, 0, 0), (32, 1, .iaload, 0, 0), (33, 3, .putfield 54, 6, 7), (36, 1, .aload_n 0, 0, 0), (37, 3, .getfield 9, 6, 1), (40, 2, .bipush 25, 0, 0), (42, 1, .iconst 0, 0, 0), (43, 1, .iastore, 0, 0), (44, 1, .aload_n 0, 0, 0), (45, 3, .getfield 9, 6, 1), (48, 3, .sipush 225, 0, 0), (51, 1, .aload_n 0, 0, 0), (52, 3, .getfield 78, 6, 5), (55, 1, .iadd, 0, 0), (56, 1, .iconst 3, 0, 0), (57, 1, .iastore, 0, 0), (58, 1, .aload_n 0, 0, 0), (59, 3, .getfield 9, 6, 1), (62, 3, .sipush 230, 0, 0), (65, 1, .aload_n 0, 0, 0), (66, 3, .getfield 78, 6, 5), (69, 1, .iadd, 0, 0), (70, 1, .iconst 1, 0, 0), (71, 1, .iastore, 0, 0), (72, 1, .aload_n 0, 0, 0), (73, 3, .getfield 9, 6, 1), (76, 3, .sipush 235, 0, 0), (79, 1, .aload_n 0, 0, 0), (80, 3, .getfield 78, 6, 5), (83, 1, .iadd, 0, 0), (84, 1, .iconst 0, 0, 0), (85, 1, .iastore, 0, 0), (86, 1, .aload_n 0, 0, 0), (87, 1, .iconst 0, 0, 0), (88, 3, .putfield 51, 6, 6), (91, 1, .aload_n 0, 0, 0), (92, 1, .iconst 0, 0, 0), (93, 3, .putfield 57, 6, 8), (96, 1, .aload_n 0, 0, 0), (97, 1, .iconst 0, 0, 0), (98, 3, .putfield 81, 6, 9), (101, 1, .iconst 1, 0, 0), (102, 1, .istore_n 1, 0, 0), (103, 1, .aload_n 0, 0, 0), (104, 3, .invokevirtual 126, 129, 1), (107, 1, .aload_n 0, 0, 0), (108, 3, .getfield 57, 6, 8), (111, 3, .ifCond .ne 38, 0, 0), (114, 1, .iload_n 1, 0, 0), (115, 2, .bipush 10, 0, 0), (117, 3, .if_icmp .ge 32, 0, 0), (120, 1, .aload_n 0, 0, 0), (121, 3, .invokevirtual 61, 118, 1), (124, 2, .bipush 59, 0, 0), (126, 3, .if_icmp .ne 23, 0, 0), (129, 1, .aload_n 0, 0, 0), (130, 1, .dup, 0, 0), (131, 3, .getfield 51, 6, 6), (134, 1, .iconst 1, 0, 0), (135, 1, .iadd, 0, 0), (136, 3, .putfield 51, 6, 6), (139, 1, .aload_n 0, 0, 0), (140, 3, .invokevirtual 126, 129, 1), (143, 3, .iinc 1 1, 0, 0), (146, 3, .goto (-39), 0, 0), (149, 1, .aload_n 0, 0, 0), (150, 3, .getfield 57, 6, 8), (153, 3, .ifCond .ne 14, 0, 0), (156, 1, .aload_n 0, 0, 0), (157, 3, .getfield 51, 6, 6), (160, 1, .aload_n 0, 0, 0), (161, 3, .getfield 54, 6, 7), (164, 3, .if_icmp .eq 11, 0, 0), (167, 2, .bipush (-10), 0, 0), (169, 1, .aload_n 0, 0, 0), (170, 3, .getfield 51, 6, 6), (173, 1, .isub, 0, 0), (174, 1, .ireturn, 1, 0), (175, 1, .aload_n 0, 0, 0), (176, 3, .getfield 9, 6, 1), (179, 2, .bipush 21, 0, 0), (181, 1, .dup2, 0, 0), (182, 1, .iaload, 0, 0), (183, 1, .iconst 1, 0, 0), (184, 1, .iadd, 0, 0), (185, 1, .iastore, 0, 0), (186, 1, .aload_n 0, 0, 0), (187, 3, .getfield 9, 6, 1), (190, 2, .bipush 26, 0, 0), (192, 1, .aload_n 0, 0, 0), (193, 3, .getfield 78, 6, 5), (196, 1, .iastore, 0, 0), (197, 1, .aload_n 0, 0, 0), (198, 3, .getfield 78, 6, 5), (201, 1, .ireturn, 1, 0)]
def kX6_tellsOf : List CE := [(0, 1, .aload_n 0, 0, 0), (1, 3, .getfield 9, 6, 1), (4, 2, .bipush 26, 0, 0), (6, 1, .iaload, 0, 0), (7, 1, .iconst (-1), 0, 0), (8, 3, .if_icmp .ne 7, 0, 0), (11, 1, .iload_n 2, 0, 0), (12, 3, .goto 17, 0, 0), (15, 1, .aload_n 0, 0, 0), (16, 3, .getfield 9, 6, 1), (19, 1, .iload_n 1, 0, 0), (20, 1, .aload_n 0, 0, 0), (21, 3, .getfield 9, 6, 1), (24, 2, .bipush 26, 0, 0), (26, 1, .iaload, 0, 0), (27, 1, .iadd, 0, 0), (28, 1, .iaload, 0, 0), (29, 1, .ireturn, 1, 0)]
def kX6_looks : List CE := [(0, 1, .aload_n 0, 0, 0), (1, 3, .getfield 21, 6, 10), (4, 1, .iconst 0, 0, 0), (5, 1, .iload_n 1, 0, 0), (6, 1, .iastore, 0, 0), (7, 1, .aload_n 0, 0, 0), (8, 3, .getfield 21, 6, 10), (11, 1, .iconst 1, 0, 0), (12, 1, .aload_n 0, 0, 0), (13, 3, .getfield 9, 6, 1), (16, 2, .bipush 27, 0, 0), (18, 1, .iload_n 1, 0, 0), (19, 1, .iadd, 0, 0), (20, 1, .iaload, 0, 0), (21, 1, .iastore, 0, 0), (22, 1, .aload_n 0, 0, 0), (23, 3, .getfield 21, 6, 10), (26, 1, .iconst 2, 0, 0), (27, 1, .aload_n 0, 0, 0), (28, 3, .getfield 9, 6, 1), (31, 2, .bipush 33, 0, 0), (33, 1, .iload_n 1, 0, 0), (34, 1, .iadd, 0, 0), (35, 1, .iaload, 0, 0), (36, 1, .iastore, 0, 0), (37, 1, .aload_n 0, 0, 0), (38, 3, .getfield 21, 6, 10), (41, 1, .iconst 3, 0, 0), (42, 1, .aload_n 0, 0, 0), (43, 3, .getfield 9, 6, 1), (46, 1, .iconst 1, 0, 0), (47, 1, .iload_n 1, 0, 0), (48, 1, .iadd, 0, 0), (49, 1, .iaload, 0, 0), (50, 1, .iastore, 0, 0), (51, 1, .aload_n 0, 0, 0), (52, 3, .getfield 21, 6, 10), (55, 1, .iconst 4, 0, 0), (56, 1, .aload_n 0, 0, 0), (57, 3, .getfield 9, 6, 1), (60, 2, .bipush 7, 0, 0), (62, 1, .iload_n 1, 0, 0), (63, 1, .iadd, 0, 0), (64, 1, .iaload, 0, 0), (65, 2, .bipush 10, 0, 0), (67, 1, .idiv, 0, 0), (68, 1, .iastore, 0, 0), (69, 1, .aload_n 0, 0, 0), (70, 3, .getfield 21, 6, 10), (73, 1, .iconst 5, 0, 0), (74, 1, .aload_n 0, 0, 0), (75, 3, .getfield 9, 6, 1), (78, 1, .iconst 0, 0, 0), (79, 1, .iaload, 0, 0), (80, 2, .bipush 10, 0, 0), (82, 1, .irem, 0, 0), (83, 1, .iastore, 0, 0), (84, 1, .iconst 0, 0, 0), (85, 1, .istore_n 2, 0, 0), (86, 1, .aload_n 0, 0, 0), (87, 3, .sipush 235, 0, 0), (90, 1, .iconst 0, 0, 0), (91, 3, .invokevirtual 129, 131, 3), (94, 1, .istore_n 3, 0, 0), (95, 3, .sipush 240, 0, 0), (98, 3, .sipush 140, 0, 0), (101, 1, .aload_n 0, 0, 0), (102, 3, .getfield 9, 6, 1), (105, 2, .bipush 26, 0, 0), (107, 1, .iaload, 0, 0), (108, 1, .imul, 0, 0), (109, 1, .iadd, 0, 0), (110, 2, .istore 4, 0, 0), (112, 1, .iconst 0, 0, 0), (113, 2, .istore 5, 0, 0), (115, 2, .iload 4, 0, 0), (117, 2, .istore 6, 0, 0), (119, 2, .iload 6, 0, 0), (121, 2, .iload 4, 0, 0), (123, 1, .iload_n 3, 0, 0), (124, 1, .iadd, 0, 0), (125, 3, .if_icmp .ge 300, 0, 0), (128, 1, .aload_n 0, 0, 0), (129, 3, .getfield 9, 6, 1), (132, 2, .iload 6, 0, 0), (134, 1, .iaload, 0, 0), (135, 2, .istore 7, 0, 0), (137, 2, .iload 7, 0, 0), (139, 3, .ifCond .lt 97, 0, 0), (142, 1, .aload_n 0, 0, 0), (143, 3, .getfield 21, 6, 10), (146, 2, .iload 7, 0, 0), (148, 2, .bipush 8, 0, 0), (150, 1, .irem, 0, 0), (151, 1, .iaload, 0, 0), (152, 2, .istore 8, 0, 0), (154, 2, .iload 7, 0, 0), (156, 2, .bipush 8, 0, 0), (158, 1, .idiv, 0, 0), (159, 1, .iconst 4, 0, 0), (160, 1, .irem, 0, 0), (161, 2, .istore 9, 0, 0), (163, 2, .iload 7, 0, 0), (165, 2, .bipush 32, 0, 0), (167, 1, .idiv, 0, 0), (168, 2, .istore 10, 0, 0), (170, 1, .aload_n 0, 0, 0), (171, 3, .getfield 24, 6, 11), (174, 2, .iload 5, 0, 0), (176, 2, .iload 9, 0, 0), (178, 3, .ifCond .ne 18, 0, 0), (181, 2, .iload 8, 0, 0), (183, 2, .iload 10, 0, 0), (185, 3, .if_icmp .ge 7, 0, 0), (188, 1, .iconst 1, 0, 0), (189, 3, .goto 40, 0, 0), (192, 1, .iconst 0, 0, 0), (193, 3, .goto 36, 0, 0), (196, 2, .iload 9, 0, 0), (198, 1, .iconst 1, 0, 0), (199, 3, .if_icmp .ne 18, 0, 0), (202, 2, .iload 8, 0, 0), (204, 2, .iload 10, 0, 0), (206, 3, .if_icmp .ne 7, 0, 0), (209, 1, .iconst 1, 0, 0), (210, 3, .goto 19, 0, 0), (213, 1, .iconst 0, 0, 0), (214, 3, .goto 15, 0, 0), (217, 2, .iload 8, 0, 0), (219, 2, .iload 10, 0, 0), (221, 3, .if_icmp .le 7, 0, 0), (224, 1, .iconst 1, 0, 0), (225, 3, .goto 4, 0, 0), (228, 1, .iconst 0, 0, 0), (229, 1, .bastore, 0, 0), (230, 3, .iinc 5 1, 0, 0), (233, 3, .goto 186, 0, 0), (236, 2, .iload 7, 0, 0), (238, 1, .iconst (-1), 0, 0), (239, 3, .if_icmp .ne 32, 0, 0), (242, 1, .aload_n 0, 0, 0), (243, 3, .getfield 24, 6, 11), (246, 2, .iload 5, 0, 0), (248, 1, .iconst 1, 0, 0), (249, 1, .isub, 0, 0), (250, 1, .aload_n 0, 0, 0), (251, 3, .getfield 24, 6, 11), (254, 2, .iload 5, 0, 0), (256, 1, .iconst 1, 0, 0), (257, 1, .isub, 0, 0), (258, 1, .baload, 0, 0), (259, 3, .ifCond .ne 7, 0, 0), (262, 1, .iconst 1, 0, 0), (263, 3, .goto 4, 0, 0), (266, 1, .iconst 0, 0, 0), (267, 1, .bastore, 0, 0), (268, 3, .goto 151, 0, 0), (271, 2, .iload 7, 0, 0), (273, 2, .bipush (-10), 0, 0), (275, 3, .if_icmp .le 82, 0, 0), (278, 3, .iinc 5 (-1), 0, 0), (281, 1, .aload_n 0, 0, 0), (282, 3, .getfield 24, 6, 11), (285, 2, .iload 5, 0, 0), (287, 1, .iconst 1, 0, 0), (288, 1, .isub, 0, 0), (289, 2, .iload 7, 0, 0), (291, 2, .bipush (-2), 0, 0), (293, 3, .if_icmp .ne 33, 0, 0), (296, 1, .aload_n 0, 0, 0), (297, 3, .getfield 24, 6, 11), (300, 2, .iload 5, 0, 0), (302, 1, .iconst 1, 0, 0), (303, 1, .isub, 0, 0), (304, 1, .baload, 0, 0), (305, 3, .ifCond .eq 17, 0, 0), (308, 1, .aload_n 0, 0, 0), (309, 3, .getfield 24, 6, 11), (312, 2, .iload 5, 0, 0), (314, 1, .baload, 0, 0), (315, 3, .ifCond .eq 7, 0, 0), (318, 1, .iconst 1, 0, 0), (319, 3, .goto 34, 0, 0), (322, 1, .iconst 0, 0, 0), (323, 3, .goto 30, 0, 0), (326, 1, .aload_n 0, 0, 0), (327, 3, .getfield 24, 6, 11), (330, 2, .iload 5, 0, 0), (332, 1, .iconst 1, 0, 0), (333, 1, .isub, 0, 0), (334, 1, .baload, 0, 0), (335, 3, .ifCond .ne 13, 0, 0), (338, 1, .aload_n 0, 0, 0), (339, 3, .getfield 24, 6, 11), (342, 2, .iload 5, 0, 0), (344, 1, .baload, 0, 0), (345, 3, .ifCond .eq 7, 0, 0), (348, 1, .iconst 1, 0, 0), (349, 3, .goto 4, 0, 0), (352, 1, .iconst 0, 0, 0), (353, 1, .bastore, 0, 0), (354, 3, .goto 65, 0, 0), (357, 1, .iconst 0, 0, 0), (358, 2, .istore 5, 0, 0), (360, 1, .aload_n 0, 0, 0), (361, 3, .getfield 24, 6, 11), (364, 1, .iconst 0, 0, 0), (365, 1, .baload, 0, 0), (366, 2, .istore 8, 0, 0), (368, 1, .iload_n 2, 0, 0), (369, 2, .iload 8, 0, 0), (371, 3, .ifCond .eq 19, 0, 0), (374, 2, .iload 7, 0, 0), (376, 3, .sipush (-200), 0, 0), (379, 3, .if_icmp .le 11, 0, 0), (382, 2, .bipush (-10), 0, 0), (384, 2, .iload 7, 0, 0), (386, 1, .isub, 0, 0), (387, 3, .goto 4, 0, 0), (390, 1, .iconst 0, 0, 0), (391, 1, .iadd, 0, 0), (392, 1, .istore_n 2, 0, 0), (393, 1, .iload_n 2, 0, 0), (394, 2, .iload 8, 0, 0), (396, 3, .ifCond .eq 20, 0, 0), (399, 2, .iload 7, 0, 0), (401, 3, .sipush (-200), 0, 0), (404, 3, .if_icmp .gt 12, 0, 0), (407, 3, .sipush (-200), 0, 0), (410, 2, .iload 7, 0, 0), (412, 1, .isub, 0, 0), (413, 3, .goto 4, 0, 0), (416, 1, .iconst 0, 0, 0), (417, 1, .isub, 0, 0), (418, 1, .istore_n 2, 0, 0), (419, 3, .iinc 6 1, 0, 0), (422, 3, .goto (-303), 0, 0), (425, 1, .iload_n 2, 0, 0), (426, 1, .ireturn, 1, 0)]
def kX6_strengthOf : List CE := [(0, 1, .aload_n 0, 0, 0), (1, 3, .getfield 9, 6, 1), (4, 1, .iconst 1, 0, 0), (5, 1, .iload_n 1, 0, 0), (6, 1, .iadd, 0, 0), (7, 1, .iaload, 0, 0), (8, 1, .istore_n 2, 0, 0), (9, 1, .aload_n 0, 0, 0), (10, 3, .getfield 9, 6, 1), (13, 2, .bipush 33, 0, 0), (15, 1, .iload_n 1, 0, 0), (16, 1, .iadd, 0, 0), (17, 1, .iaload, 0, 0), (18, 1, .istore_n 3, 0, 0), (19, 1, .aload_n 0, 0, 0), (20, 3, .getfield 9, 6, 1), (23, 2, .bipush 27, 0, 0), (25, 1, .iload_n 1, 0, 0), (26, 1, .iadd, 0, 0), (27, 1, .iaload, 0, 0), (28, 40, .tableswitch 139 1 6 #[40, 54, 61, 66, 87, 113], 0, 0), (68, 1, .iload_n 2, 0, 0), (69, 2, .bipush 11, 0, 0), (71, 3, .if_icmp .gt 8, 0, 0), (74, 2, .bipush 12, 0, 0), (76, 3, .goto 5, 0, 0), (79, 2, .bipush 8, 0, 0), (81, 1, .ireturn, 1, 0), (82, 2, .bipush 8, 0, 0), (84, 1, .iload_n 2, 0, 0), (85, 1, .iconst 2, 0, 0), (86, 1, .idiv, 0, 0), (87, 1, .iadd, 0, 0), (88, 1, .ireturn, 1, 0), (89, 2, .bipush 10, 0, 0), (91, 1, .iload_n 3, 0, 0), (92, 1, .iadd, 0, 0), (93, 1, .ireturn, 1, 0), (94, 1, .iload_n 2, 0, 0), (95, 2, .bipush 11, 0, 0), (97, 3, .if_icmp .gt 8, 0, 0), (100, 2, .bipush 12, 0, 0), (102, 3, .goto 5, 0, 0), (105, 2, .bipush 8, 0, 0), (107, 2, .bipush 23, 0, 0), (109, 1, .iload_n 2, 0, 0), (110, 1, .isub, 0, 0), (111, 1, .iconst 4, 0, 0), (112, 1, .idiv, 0, 0), (113, 1, .iadd, 0, 0), (114, 1, .ireturn, 1, 0), (115, 1, .aload_n 0, 0, 0), (116, 3, .getfield 9, 6, 1), (119, 1, .iconst 0, 0, 0), (120, 1, .iaload, 0, 0), (121, 1, .iload_n 1, 0, 0), (122, 1, .iadd, 0, 0), (123, 1, .iload_n 3, 0, 0), (124, 1, .iconst 2, 0, 0), (125, 1, .iadd, 0, 0), (126, 1, .irem, 0, 0), (127, 3, .ifCond .ne 7, 0, 0), (130, 1, .iconst 0, 0, 0), (131, 3, .goto 9, 0, 0), (134, 2, .bipush 8, 0, 0), (136, 1, .iload_n 2, 0, 0), (137, 1, .iconst 2, 0, 0), (138, 1, .idiv, 0, 0), (139, 1, .iadd, 0, 0), (140, 1, .ireturn, 1, 0), (141, 2, .bipush 10, 0, 0), (143, 1, .iload_n 3, 0, 0), (144, 1, .iadd, 0, 0), (145, 1, .aload_n 0, 0, 0), (146, 3, .getfield 9, 6, 1), (149, 2, .bipush 45, 0, 0), (151, 1, .iconst 4, 0, 0), (152, 1, .iload_n 1, 0, 0), (153, 1, .imul, 0, 0), (154, 1, .iadd, 0, 0), (155, 1, .aload_n 0, 0, 0), (156, 3, .getfield 9, 6, 1), (159, 1, .iconst 0, 0, 0), (160, 1, .iaload, 0, 0), (161, 1, .iconst 4, 0, 0), (162, 1, .irem, 0, 0), (163, 1, .iadd, 0, 0), (164, 1, .iaload, 0, 0), (165, 1, .iadd, 0, 0), (166, 1, .ireturn, 1, 0), (167, 2, .bipush 10, 0, 0), (169, 1, .ireturn, 1, 0)]
def kX6_forceOf : List CE := [(0, 1, .aload_n 0, 0, 0), (1, 1, .iload_n 1, 0, 0), (2, 3, .invokevirtual 133, 114, 2), (5, 3, .ifCond .ne 5, 0, 0), (8, 1, .iconst 0, 0, 0), (9, 1, .ireturn, 1, 0), (10, 1, .aload_n 0, 0, 0), (11, 1, .iload_n 1, 0, 0), (12, 3, .invokevirtual 137, 133, 2), (15, 1, .aload_n 0, 0, 0), (16, 1, .iload_n 1, 0, 0), (17, 3, .invokevirtual 141, 132, 2), (20, 1, .iadd, 0, 0), (21, 1, .aload_n 0, 0, 0), (22, 3, .getfield 9, 6, 1), (25, 2, .bipush 7, 0, 0), (27, 1, .iload_n 1, 0, 0), (28, 1, .iadd, 0, 0), (29, 1, .iaload, 0, 0), (30, 2, .bipush 10, 0, 0), (32, 1, .idiv, 0, 0), (33, 1, .isub, 0, 0), (34, 1, .istore_n 2, 0, 0), (35, 1, .iload_n 2, 0, 0), (36, 3, .ifCond .ge 7, 0, 0), (39, 1, .iconst 0, 0, 0), (40, 3, .goto 4, 0, 0), (43, 1, .iload_n 2, 0, 0), (44, 1, .ireturn, 1, 0)]
def kX6_isTune : List CE := [(0, 1, .iload_n 0, 0, 0), (1, 1, .iload_n 1, 0, 0), (2, 3, .if_icmp .ge 9, 0, 0), (5, 1, .iload_n 1, 0, 0), (6, 1, .iload_n 0, 0, 0), (7, 1, .isub, 0, 0), (8, 3, .goto 6, 0, 0), (11, 1, .iload_n 0, 0, 0), (12, 1, .iload_n 1, 0, 0), (13, 1, .isub, 0, 0), (14, 1, .istore_n 2, 0, 0), (15, 1, .iload_n 2, 0, 0), (16, 2, .bipush 12, 0, 0), (18, 1, .irem, 0, 0), (19, 1, .istore_n 3, 0, 0), (20, 1, .iload_n 3, 0, 0), (21, 3, .ifCond .eq 36, 0, 0), (24, 1, .iload_n 3, 0, 0), (25, 1, .iconst 3, 0, 0), (26, 3, .if_icmp .eq 31, 0, 0), (29, 1, .iload_n 3, 0, 0), (30, 1, .iconst 4, 0, 0), (31, 3, .if_icmp .eq 26, 0, 0), (34, 1, .iload_n 3, 0, 0), (35, 1, .iconst 5, 0, 0), (36, 3, .if_icmp .eq 21, 0, 0), (39, 1, .iload_n 3, 0, 0), (40, 2, .bipush 7, 0, 0), (42, 3, .if_icmp .eq 15, 0, 0), (45, 1, .iload_n 3, 0, 0), (46, 2, .bipush 8, 0, 0), (48, 3, .if_icmp .eq 9, 0, 0), (51, 1, .iload_n 3, 0, 0), (52, 2, .bipush 9, 0, 0), (54, 3, .if_icmp .ne 7, 0, 0), (57, 1, .iconst 1, 0, 0), (58, 3, .goto 4, 0, 0), (61, 1, .iconst 0, 0, 0), (62, 1, .ireturn, 2, 0)]
def kX6_looksForForces : List CE := [(0, 1, .iconst 0, 0, 0), (1, 1, .istore_n 1, 0, 0), (2, 1, .iload_n 1, 0, 0), (3, 1, .aload_n 0, 0, 0), (4, 3, .getfield 9, 6, 1), (7, 2, .bipush 19, 0, 0), (9, 1, .iaload, 0, 0), (10, 3, .if_icmp .ge 20, 0, 0), (13, 1, .aload_n 0, 0, 0), (14, 3, .getfield 28, 6, 12), (17, 1, .iload_n 1, 0, 0), (18, 1, .aload_n 0, 0, 0), (19, 1, .iload_n 1, 0, 0), (20, 3, .invokevirtual 144, 134, 2), (23, 1, .iastore, 0, 0), (24, 3, .iinc 1 1, 0, 0), (27, 3, .goto (-25), 0, 0), (30, 1, .return_, 0, 0)]
def kX6_isOf : List CE := [(0, 1, .iload_n 1, 0, 0), (1, 1, .iload_n 2, 0, 0), (2, 1, .ishr, 0, 0), (3, 1, .iconst 1, 0, 0), (4, 1, .iand, 0, 0), (5, 1, .iconst 1, 0, 0), (6, 3, .if_icmp .ne 15, 0, 0), (9, 1, .aload_n 0, 0, 0), (10, 1, .iload_n 2, 0, 0), (11, 3, .invokevirtual 133, 114, 2), (14, 3, .ifCond .eq 7, 0, 0), (17, 1, .iconst 1, 0, 0), (18, 3, .goto 4, 0, 0), (21, 1, .iconst 0, 0, 0), (22, 1, .ireturn, 2, 0)]
def kX6_tunesOf : List CE := [(0, 1, .iconst 0, 0, 0), (1, 1, .istore_n 3, 0, 0), (2, 1, .iconst 0, 0, 0), (3, 2, .istore 4, 0, 0), (5, 2, .iload 4, 0, 0), (7, 1, .aload_n 0, 0, 0), (8, 3, .getfield 9, 6, 1), (11, 2, .bipush 19, 0, 0), (13, 1, .iaload, 0, 0), (14, 3, .if_icmp .ge 56, 0, 0), (17, 1, .iload_n 3, 0, 0), (18, 2, .iload 4, 0, 0), (20, 1, .iload_n 2, 0, 0), (21, 3, .if_icmp .eq 40, 0, 0), (24, 1, .aload_n 0, 0, 0), (25, 1, .iload_n 1, 0, 0), (26, 2, .iload 4, 0, 0), (28, 3, .invokevirtual 147, 137, 3), (31, 3, .ifCond .eq 30, 0, 0), (34, 1, .aload_n 0, 0, 0), (35, 3, .getfield 9, 6, 1), (38, 1, .iconst 1, 0, 0), (39, 1, .iload_n 2, 0, 0), (40, 1, .iadd, 0, 0), (41, 1, .iaload, 0, 0), (42, 1, .aload_n 0, 0, 0), (43, 3, .getfield 9, 6, 1), (46, 1, .iconst 1, 0, 0), (47, 2, .iload 4, 0, 0), (49, 1, .iadd, 0, 0), (50, 1, .iaload, 0, 0), (51, 3, .invokestatic 151, 135, 2), (54, 3, .ifCond .eq 7, 0, 0), (57, 1, .iconst 1, 0, 0), (58, 3, .goto 4, 0, 0), (61, 1, .iconst 0, 0, 0), (62, 1, .iadd, 0, 0), (63, 1, .istore_n 3, 0, 0), (64, 3, .iinc 4 1, 0, 0), (67, 3, .goto (-62), 0, 0), (70, 1, .iload_n 3, 0, 0), (71, 1, .ireturn, 1, 0)]
def kX6_bearsOf : List CE := [(0, 1, .aload_n 0, 0, 0), (1, 1, .iload_n 1, 0, 0), (2, 1, .iload_n 2, 0, 0), (3, 3, .invokevirtual 147, 137, 3), (6, 3, .ifCond .ne 5, 0, 0), (9, 1, .iconst 0, 0, 0), (10, 1, .ireturn, 1, 0), (11, 1, .aload_n 0, 0, 0), (12, 1, .iload_n 1, 0, 0), (13, 1, .iload_n 2, 0, 0), (14, 3, .invokevirtual 154, 138, 3), (17, 1, .istore_n 3, 0, 0), (18, 1, .iload_n 3, 0, 0), (19, 3, .ifCond .ne 14, 0, 0), (22, 1, .aload_n 0, 0, 0), (23, 3, .getfield 28, 6, 12), (26, 1, .iload_n 2, 0, 0), (27, 1, .iaload, 0, 0), (28, 1, .iconst 2, 0, 0), (29, 1, .idiv, 0, 0), (30, 3, .goto 11, 0, 0), (33, 1, .aload_n 0, 0, 0), (34, 3, .getfield 28, 6, 12), (37, 1, .iload_n 2, 0, 0), (38, 1, .iaload, 0, 0), (39, 1, .iload_n 3, 0, 0), (40, 1, .imul, 0, 0), (41, 1, .ireturn, 1, 0)]
def kX6_allBy : List CE := [(0, 1, .iconst 0, 0, 0), (1, 1, .istore_n 2, 0, 0), (2, 1, .iconst 0, 0, 0), (3, 1, .istore_n 3, 0, 0), (4, 1, .iload_n 3, 0, 0), (5, 1, .aload_n 0, 0, 0), (6, 3, .getfield 9, 6, 1), (9, 2, .bipush 19, 0, 0), (11, 1, .iaload, 0, 0), (12, 3, .if_icmp .ge 18, 0, 0), (15, 1, .iload_n 2, 0, 0), (16, 1, .aload_n 0, 0, 0), (17, 1, .iload_n 1, 0, 0), (18, 1, .iload_n 3, 0, 0), (19, 3, .invokevirtual 157, 139, 3), (22, 1, .iadd, 0, 0), (23, 1, .istore_n 2, 0, 0), (24, 3, .iinc 3 1, 0, 0), (27, 3, .goto (-23), 0, 0), (30, 1, .iload_n 2, 0, 0), (31, 1, .ireturn, 1, 0)]
def kX6_singing : List CE := [(0, 1, .iconst 0, 0, 0), (1, 1, .istore_n 1, 0, 0), (2, 1, .iconst 0, 0, 0), (3, 1, .istore_n 2, 0, 0), (4, 1, .iload_n 2, 0, 0), (5, 1, .aload_n 0, 0, 0), (6, 3, .getfield 9, 6, 1), (9, 2, .bipush 19, 0, 0), (11, 1, .iaload, 0, 0), (12, 3, .if_icmp .ge 27, 0, 0), (15, 1, .iload_n 1, 0, 0), (16, 1, .aload_n 0, 0, 0), (17, 1, .iload_n 2, 0, 0), (18, 3, .invokevirtual 133, 114, 2), (21, 3, .ifCond .eq 9, 0, 0), (24, 1, .iconst 1, 0, 0), (25, 1, .iload_n 2, 0, 0), (26, 1, .ishl, 0, 0), (27, 3, .goto 4, 0, 0), (30, 1, .iconst 0, 0, 0), (31, 1, .ior, 0, 0), (32, 1, .istore_n 1, 0, 0), (33, 3, .iinc 2 1, 0, 0), (36, 3, .goto (-32), 0, 0), (39, 1, .iload_n 1, 0, 0), (40, 1, .ireturn, 1, 0)]
def kX6_allNow : List CE := [(0, 1, .aload_n 0, 0, 0), (1, 3, .invokevirtual 160, 136, 1), (4, 1, .aload_n 0, 0, 0), (5, 2, .bipush 63, 0, 0), (7, 3, .invokevirtual 163, 140, 2), (10, 1, .ireturn, 1, 0)]
def kX6_doesHang : List CE := [(0, 1, .aload_n 0, 0, 0), (1, 3, .getfield 9, 6, 1), (4, 2, .bipush 75, 0, 0), (6, 1, .iload_n 1, 0, 0), (7, 1, .iadd, 0, 0), (8, 1, .iaload, 0, 0), (9, 3, .ifCond .ne 19, 0, 0), (12, 1, .aload_n 0, 0, 0), (13, 3, .getfield 9, 6, 1), (16, 2, .bipush 13, 0, 0), (18, 1, .iload_n 1, 0, 0), (19, 1, .iadd, 0, 0), (20, 1, .iaload, 0, 0), (21, 3, .ifCond .ne 7, 0, 0), (24, 1, .iconst 1, 0, 0), (25, 3, .goto 4, 0, 0), (28, 1, .iconst 0, 0, 0), (29, 1, .ireturn, 2, 0)]
def kX6_looseBy : List CE := [(0, 1, .iconst 0, 0, 0), (1, 1, .istore_n 2, 0, 0), (2, 1, .iconst 0, 0, 0), (3, 1, .istore_n 3, 0, 0), (4, 1, .iconst 0, 0, 0), (5, 2, .istore 4, 0, 0), (7, 2, .iload 4, 0, 0), (9, 1, .aload_n 0, 0, 0), (10, 3, .getfield 9, 6, 1), (13, 2, .bipush 20, 0, 0), (15, 1, .iaload, 0, 0), (16, 3, .if_icmp .ge 47, 0, 0), (19, 1, .aload_n 0, 0, 0), (20, 2, .iload 4, 0, 0), (22, 3, .invokevirtual 166, 143, 2), (25, 3, .ifCond .eq 32, 0, 0), (28, 1, .iload_n 2, 0, 0), (29, 1, .aload_n 0, 0, 0), (30, 3, .getfield 9, 6, 1), (33, 2, .bipush 69, 0, 0), (35, 2, .iload 4, 0, 0), (37, 1, .iadd, 0, 0), (38, 1, .iaload, 0, 0), (39, 1, .iadd, 0, 0), (40, 1, .istore_n 2, 0, 0), (41, 1, .iload_n 3, 0, 0), (42, 1, .iload_n 2, 0, 0), (43, 1, .iload_n 1, 0, 0), (44, 3, .if_icmp .le 10, 0, 0), (47, 1, .iconst 1, 0, 0), (48, 2, .iload 4, 0, 0), (50, 1, .ishl, 0, 0), (51, 3, .goto 4, 0, 0), (54, 1, .iconst 0, 0, 0), (55, 1, .ior, 0, 0), (56, 1, .istore_n 3, 0, 0), (57, 3, .iinc 4 1, 0, 0), (60, 3, .goto (-53), 0, 0), (63, 1, .iload_n 3, 0, 0), (64, 1, .ireturn, 1, 0)]
def kX6_fallenMany : List CE := [(0, 1, .iconst 0, 0, 0), (1, 1, .istore_n 1, 0, 0), (2, 1, .iconst 0, 0, 0), (3, 1, .istore_n 2, 0, 0), (4, 1, .iload_n 2, 0, 0), (5, 1, .aload_n 0, 0, 0), (6, 3, .getfield 9, 6, 1), (9, 2, .bipush 20, 0, 0), (11, 1, .iaload, 0, 0), (12, 3, .if_icmp .ge 21, 0, 0), (15, 1, .iload_n 1, 0, 0), (16, 1, .aload_n 0, 0, 0), (17, 3, .getfield 9, 6, 1), (20, 2, .bipush 13, 0, 0), (22, 1, .iload_n 2, 0, 0), (23, 1, .iadd, 0, 0), (24, 1, .iaload, 0, 0), (25, 1, .iadd, 0, 0), (26, 1, .istore_n 1, 0, 0), (27, 3, .iinc 2 1, 0, 0), (30, 3, .goto (-26), 0, 0), (33, 1, .iload_n 1, 0, 0), (34, 1, .ireturn, 1, 0)]
def kX6_sizeOf : List CE := [(0, 1, .iconst 0, 0, 0), (1, 1, .istore_n 1, 0, 0), (2, 1, .iconst 0, 0, 0), (3, 1, .istore_n 2, 0, 0), (4, 1, .iload_n 2, 0, 0), (5, 2, .bipush 6, 0, 0), (7, 3, .if_icmp .ge 17, 0, 0), (10, 1, .iload_n 1, 0, 0), (11, 1, .iload_n 0, 0, 0), (12, 1, .iload_n 2, 0, 0), (13, 1, .ishr, 0, 0), (14, 1, .iconst 1, 0, 0), (15, 1, .iand, 0, 0), (16, 1, .iadd, 0, 0), (17, 1, .istore_n 1, 0, 0), (18, 3, .iinc 2 1, 0, 0), (21, 3, .goto (-17), 0, 0), (24, 1, .iload_n 1, 0, 0), (25, 1, .ireturn, 1, 0)]
def kX6_hangingWeight : List CE := [(0, 1, .iconst 0, 0, 0), (1, 1, .istore_n 1, 0, 0), (2, 1, .iconst 0, 0, 0), (3, 1, .istore_n 2, 0, 0), (4, 1, .iload_n 2, 0, 0), (5, 1, .aload_n 0, 0, 0), (6, 3, .getfield 9, 6, 1), (9, 2, .bipush 20, 0, 0), (11, 1, .iaload, 0, 0), (12, 3, .if_icmp .ge 33, 0, 0), (15, 1, .iload_n 1, 0, 0), (16, 1, .aload_n 0, 0, 0), (17, 1, .iload_n 2, 0, 0), (18, 3, .invokevirtual 166, 143, 2), (21, 3, .ifCond .eq 15, 0, 0), (24, 1, .aload_n 0, 0, 0), (25, 3, .getfield 9, 6, 1), (28, 2, .bipush 69, 0, 0), (30, 1, .iload_n 2, 0, 0), (31, 1, .iadd, 0, 0), (32, 1, .iaload, 0, 0), (33, 3, .goto 4, 0, 0), (36, 1, .iconst 0, 0, 0), (37, 1, .iadd, 0, 0), (38, 1, .istore_n 1, 0, 0), (39, 3, .iinc 2 1, 0, 0), (42, 3, .goto (-38), 0, 0), (45, 1, .iload_n 1, 0, 0), (46, 1, .ireturn, 1, 0)]
def kX6_singer : List CE := [(0, 1, .iload_n 1, 0, 0), (1, 1, .iconst 0, 0, 0), (2, 2, .bipush 6, 0, 0), (4, 3, .invokestatic 47, 111, 3), (7, 3, .ifCond .ne 5, 0, 0), (10, 1, .iconst (-1), 0, 0), (11, 1, .ireturn, 1, 0), (12, 1, .iload_n 2, 0, 0), (13, 1, .iconst 0, 0, 0), (14, 2, .bipush 9, 0, 0), (16, 3, .invokestatic 47, 111, 3), (19, 3, .ifCond .eq 13, 0, 0), (22, 1, .iload_n 3, 0, 0), (23, 1, .iconst 0, 0, 0), (24, 2, .bipush 23, 0, 0), (26, 3, .invokestatic 47, 111, 3), (29, 3, .ifCond .ne 6, 0, 0), (32, 2, .bipush (-2), 0, 0), (34, 1, .ireturn, 1, 0), (35, 1, .aload_n 0, 0, 0), (36, 3, .getfield 9, 6, 1), (39, 2, .bipush 19, 0, 0), (41, 1, .iaload, 0, 0), (42, 2, .bipush 6, 0, 0), (44, 3, .if_icmp .ne 6, 0, 0), (47, 2, .bipush (-4), 0, 0), (49, 1, .ireturn, 1, 0), (50, 1, .aload_n 0, 0, 0), (51, 3, .getfield 9, 6, 1), (54, 2, .bipush 19, 0, 0), (56, 1, .iaload, 0, 0), (57, 2, .istore 4, 0, 0), (59, 1, .aload_n 0, 0, 0), (60, 3, .getfield 9, 6, 1), (63, 2, .bipush 27, 0, 0), (65, 2, .iload 4, 0, 0), (67, 1, .iadd, 0, 0), (68, 1, .iload_n 1, 0, 0), (69, 1, .iastore, 0, 0), (70, 1, .aload_n 0, 0, 0), (71, 3, .getfield 9, 6, 1), (74, 2, .bipush 33, 0, 0), (76, 2, .iload 4, 0, 0), (78, 1, .iadd, 0, 0), (79, 1, .iload_n 2, 0, 0), (80, 1, .iastore, 0, 0), (81, 1, .aload_n 0, 0, 0), (82, 3, .getfield 9, 6, 1), (85, 2, .bipush 39, 0, 0), (87, 2, .iload 4, 0, 0), (89, 1, .iadd, 0, 0), (90, 1, .iload_n 3, 0, 0), (91, 1, .iastore, 0, 0), (92, 1, .aload_n 0, 0, 0), (93, 3, .getfield 9, 6, 1), (96, 1, .iconst 1, 0, 0), (97, 2, .iload 4, 0, 0), (99, 1, .iadd, 0, 0), (100, 1, .iconst (-1), 0, 0), (101, 1, .iastore, 0, 0), (102, 1, .aload_n 0, 0, 0), (103, 3, .getfield 9, 6, 1), (106, 2, .bipush 7, 0, 0), (108, 2, .iload 4, 0, 0), (110, 1, .iadd, 0, 0), (111, 1, .iconst 0, 0, 0), (112, 1, .iastore, 0, 0), (113, 1, .iconst 0, 0, 0), (114, 2, .istore 5, 0, 0), (116, 2, .iload 5, 0, 0), (118, 1, .iconst 4, 0, 0), (119, 3, .if_icmp .ge 25, 0, 0), (122, 1, .aload_n 0, 0, 0), (123, 3, .getfield 9, 6, 1), (126, 2, .bipush 45, 0, 0), (128, 1, .iconst 4, 0, 0), (129, 2, .iload 4, 0, 0), (131, 1, .imul, 0, 0), (132, 1, .iadd, 0, 0), (133, 2, .iload 5, 0, 0), (135, 1, .iadd, 0, 0), (136, 1, .iconst 0, 0, 0), (137, 1, .iastore, 0, 0), (138, 3, .iinc 5 1, 0, 0), (141, 3, .goto (-25), 0, 0), (144, 1, .aload_n 0, 0, 0), (145, 3, .getfield 9, 6, 1), (148, 2, .bipush 19, 0, 0), (150, 1, .dup2, 0, 0), (151, 1, .iaload, 0, 0), (152, 1, .iconst 1, 0, 0), (153, 1, .iadd, 0, 0), (154, 1, .iastore, 0, 0), (155, 2, .iload 4, 0, 0), (157, 1, .ireturn, 1, 0)]
def kX6_highOf : List CE := [(0, 1, .aload_n 0, 0, 0), (1, 3, .getfield 9, 6, 1), (4, 2, .bipush 39, 0, 0), (6, 1, .iload_n 1, 0, 0), (7, 1, .iadd, 0, 0), (8, 1, .iaload, 0, 0), (9, 2, .bipush 12, 0, 0), (11, 3, .if_icmp .le 8, 0, 0), (14, 2, .bipush 23, 0, 0), (16, 3, .goto 15, 0, 0), (19, 1, .aload_n 0, 0, 0), (20, 3, .getfield 9, 6, 1), (23, 2, .bipush 39, 0, 0), (25, 1, .iload_n 1, 0, 0), (26, 1, .iadd, 0, 0), (27, 1, .iaload, 0, 0), (28, 2, .bipush 11, 0, 0), (30, 1, .iadd, 0, 0), (31, 1, .ireturn, 1, 0)]
def kX6_canSing : List CE := [(0, 1, .iload_n 2, 0, 0), (1, 1, .aload_n 0, 0, 0), (2, 3, .getfield 9, 6, 1), (5, 2, .bipush 39, 0, 0), (7, 1, .iload_n 1, 0, 0), (8, 1, .iadd, 0, 0), (9, 1, .iaload, 0, 0), (10, 1, .aload_n 0, 0, 0), (11, 1, .iload_n 1, 0, 0), (12, 3, .invokevirtual 169, 149, 2), (15, 3, .invokestatic 47, 111, 3), (18, 1, .ireturn, 2, 0)]
def kX6_of : List CE := [(0, 1, .aload_n 0, 0, 0), (1, 1, .iload_n 1, 0, 0), (2, 3, .invokevirtual 172, 112, 2), (5, 3, .ifCond .eq 13, 0, 0), (8, 1, .iload_n 2, 0, 0), (9, 1, .iconst 0, 0, 0), (10, 2, .bipush 7, 0, 0), (12, 3, .invokestatic 47, 111, 3), (15, 3, .ifCond .ne 5, 0, 0), (18, 1, .iconst (-1), 0, 0), (19, 1, .ireturn, 1, 0), (20, 1, .iload_n 2, 0, 0), (21, 43, .tableswitch 123 0 6 #[43, 53, 63, 73, 95, 105, 111], 0, 0), (64, 1, .aload_n 0, 0, 0), (65, 3, .getfield 9, 6, 1), (68, 2, .bipush 27, 0, 0), (70, 1, .iload_n 1, 0, 0), (71, 1, .iadd, 0, 0), (72, 1, .iaload, 0, 0), (73, 1, .ireturn, 1, 0), (74, 1, .aload_n 0, 0, 0), (75, 3, .getfield 9, 6, 1), (78, 2, .bipush 33, 0, 0), (80, 1, .iload_n 1, 0, 0), (81, 1, .iadd, 0, 0), (82, 1, .iaload, 0, 0), (83, 1, .ireturn, 1, 0), (84, 1, .aload_n 0, 0, 0), (85, 3, .getfield 9, 6, 1), (88, 2, .bipush 39, 0, 0), (90, 1, .iload_n 1, 0, 0), (91, 1, .iadd, 0, 0), (92, 1, .iaload, 0, 0), (93, 1, .ireturn, 1, 0), (94, 1, .aload_n 0, 0, 0), (95, 1, .iload_n 1, 0, 0), (96, 3, .invokevirtual 133, 114, 2), (99, 3, .ifCond .eq 14, 0, 0), (102, 1, .aload_n 0, 0, 0), (103, 3, .getfield 9, 6, 1), (106, 1, .iconst 1, 0, 0), (107, 1, .iload_n 1, 0, 0), (108, 1, .iadd, 0, 0), (109, 1, .iaload, 0, 0), (110, 3, .goto 5, 0, 0), (113, 2, .bipush (-5), 0, 0), (115, 1, .ireturn, 1, 0), (116, 1, .aload_n 0, 0, 0), (117, 3, .getfield 9, 6, 1), (120, 2, .bipush 7, 0, 0), (122, 1, .iload_n 1, 0, 0), (123, 1, .iadd, 0, 0), (124, 1, .iaload, 0, 0), (125, 1, .ireturn, 1, 0), (126, 1, .aload_n 0, 0, 0), (127, 1, .iload_n 1, 0, 0), (128, 3, .invokevirtual 144, 134, 2), (131, 1, .ireturn, 1, 0), (132, 1, .aload_n 0, 0, 0), (133, 3, .invokevirtual 160, 136, 1), (136, 1, .aload_n 0, 0, 0), (137, 2, .bipush 63, 0, 0), (139, 1, .iload_n 1, 0, 0), (140, 3, .invokevirtual 157, 139, 3), (143, 1, .ireturn, 1, 0), (144, 1, .aload_n 0, 0, 0), (145, 1, .iload_n 1, 0, 0), (146, 3, .invokevirtual 133, 114, 2), (149, 3, .ifCond .eq 13, 0, 0), (152, 1, .aload_n 0, 0, 0), (153, 2, .bipush 63, 0, 0), (155, 1, .iload_n 1, 0, 0), (156, 3, .invokevirtual 154, 138, 3), (159, 3, .goto 4, 0, 0), (162, 1, .iconst 0, 0, 0), (163, 1, .ireturn, 1, 0)]
def kX6_row : List CE := [(0, 1, .aload_n 0, 0, 0), (1, 1, .iload_n 1, 0, 0), (2, 3, .invokevirtual 172, 112, 2), (5, 3, .ifCond .eq 12, 0, 0), (8, 1, .iload_n 2, 0, 0), (9, 1, .iconst 0, 0, 0), (10, 1, .iconst 3, 0, 0), (11, 3, .invokestatic 47, 111, 3), (14, 3, .ifCond .ne 5, 0, 0), (17, 1, .iconst (-1), 0, 0), (18, 1, .ireturn, 1, 0), (19, 1, .iload_n 3, 0, 0), (20, 1, .iconst 0, 0, 0), (21, 2, .bipush 9, 0, 0), (23, 3, .invokestatic 47, 111, 3), (26, 3, .ifCond .ne 6, 0, 0), (29, 2, .bipush (-2), 0, 0), (31, 1, .ireturn, 1, 0), (32, 1, .aload_n 0, 0, 0), (33, 3, .getfield 9, 6, 1), (36, 2, .bipush 27, 0, 0), (38, 1, .iload_n 1, 0, 0), (39, 1, .iadd, 0, 0), (40, 1, .iaload, 0, 0), (41, 2, .bipush 6, 0, 0), (43, 3, .if_icmp .eq 6, 0, 0), (46, 2, .bipush (-3), 0, 0), (48, 1, .ireturn, 1, 0), (49, 1, .aload_n 0, 0, 0), (50, 3, .getfield 9, 6, 1), (53, 2, .bipush 45, 0, 0), (55, 1, .iconst 4, 0, 0), (56, 1, .iload_n 1, 0, 0), (57, 1, .imul, 0, 0), (58, 1, .iadd, 0, 0), (59, 1, .iload_n 2, 0, 0), (60, 1, .iadd, 0, 0), (61, 1, .iaload, 0, 0), (62, 2, .istore 4, 0, 0), (64, 1, .aload_n 0, 0, 0), (65, 3, .getfield 9, 6, 1), (68, 2, .bipush 45, 0, 0), (70, 1, .iconst 4, 0, 0), (71, 1, .iload_n 1, 0, 0), (72, 1, .imul, 0, 0), (73, 1, .iadd, 0, 0), (74, 1, .iload_n 2, 0, 0), (75, 1, .iadd, 0, 0), (76, 1, .iload_n 3, 0, 0), (77, 1, .iastore, 0, 0), (78, 2, .iload 4, 0, 0), (80, 1, .ireturn, 1, 0)]
def kX6_sing : List CE := [(0, 1, .aload_n 0, 0, 0), (1, 1, .iload_n 1, 0, 0), (2, 3, .invokevirtual 172, 112, 2), (5, 3, .ifCond .ne 5, 0, 0), (8, 1, .iconst (-1), 0, 0), (9, 1, .ireturn, 1, 0), (10, 1, .iload_n 2, 0, 0), (11, 1, .iconst (-1), 0, 0), (12, 3, .if_icmp .eq 15, 0, 0), (15, 1, .aload_n 0, 0, 0), (16, 1, .iload_n 1, 0, 0), (17, 1, .iload_n 2, 0, 0), (18, 3, .invokevirtual 175, 150, 3), (21, 3, .ifCond .ne 6, 0, 0), (24, 2, .bipush (-2), 0, 0), (26, 1, .ireturn, 1, 0), (27, 1, .aload_n 0, 0, 0), (28, 1, .iload_n 1, 0, 0), (29, 3, .invokevirtual 133, 114, 2), (32, 3, .ifCond .eq 14, 0, 0), (35, 1, .aload_n 0, 0, 0), (36, 3, .getfield 9, 6, 1), (39, 1, .iconst 1, 0, 0), (40, 1, .iload_n 1, 0, 0), (41, 1, .iadd, 0, 0), (42, 1, .iaload, 0, 0), (43, 3, .goto 5, 0, 0), (46, 2, .bipush (-5), 0, 0), (48, 1, .istore_n 3, 0, 0), (49, 1, .aload_n 0, 0, 0), (50, 3, .getfield 9, 6, 1), (53, 1, .iconst 1, 0, 0), (54, 1, .iload_n 1, 0, 0), (55, 1, .iadd, 0, 0), (56, 1, .iload_n 2, 0, 0), (57, 1, .iastore, 0, 0), (58, 1, .iload_n 3, 0, 0), (59, 1, .ireturn, 1, 0)]
def kX6_tire : List CE := [(0, 1, .aload_n 0, 0, 0), (1, 1, .iload_n 1, 0, 0), (2, 3, .invokevirtual 172, 112, 2), (5, 3, .ifCond .ne 5, 0, 0), (8, 1, .iconst (-1), 0, 0), (9, 1, .ireturn, 1, 0), (10, 1, .iload_n 2, 0, 0), (11, 1, .iconst 0, 0, 0), (12, 2, .bipush 99, 0, 0), (14, 3, .invokestatic 47, 111, 3), (17, 3, .ifCond .ne 6, 0, 0), (20, 2, .bipush (-2), 0, 0), (22, 1, .ireturn, 1, 0), (23, 1, .aload_n 0, 0, 0), (24, 3, .getfield 9, 6, 1), (27, 2, .bipush 7, 0, 0), (29, 1, .iload_n 1, 0, 0), (30, 1, .iadd, 0, 0), (31, 1, .iaload, 0, 0), (32, 1, .istore_n 3, 0, 0), (33, 1, .aload_n 0, 0, 0), (34, 3, .getfield 9, 6, 1), (37, 2, .bipush 7, 0, 0), (39, 1, .iload_n 1, 0, 0), (40, 1, .iadd, 0, 0), (41, 1, .iload_n 2, 0, 0), (42, 1, .iastore, 0, 0), (43, 1, .iload_n 3, 0, 0), (44, 1, .ireturn, 1, 0)]
def kX6_stone : List CE := [(0, 1, .iload_n 1, 0, 0), (1, 1, .iconst 1, 0, 0), (2, 2, .bipush 60, 0, 0), (4, 3, .invokestatic 47, 111, 3), (7, 3, .ifCond .ne 6, 0, 0), (10, 2, .bipush (-2), 0, 0), (12, 1, .ireturn, 1, 0), (13, 1, .aload_n 0, 0, 0), (14, 3, .getfield 9, 6, 1), (17, 2, .bipush 20, 0, 0), (19, 1, .iaload, 0, 0), (20, 2, .bipush 6, 0, 0), (22, 3, .if_icmp .ne 6, 0, 0), (25, 2, .bipush (-4), 0, 0), (27, 1, .ireturn, 1, 0), (28, 1, .aload_n 0, 0, 0), (29, 3, .getfield 9, 6, 1), (32, 2, .bipush 20, 0, 0), (34, 1, .iaload, 0, 0), (35, 1, .istore_n 2, 0, 0), (36, 1, .aload_n 0, 0, 0), (37, 3, .getfield 9, 6, 1), (40, 2, .bipush 69, 0, 0), (42, 1, .iload_n 2, 0, 0), (43, 1, .iadd, 0, 0), (44, 1, .iload_n 1, 0, 0), (45, 1, .iastore, 0, 0), (46, 1, .aload_n 0, 0, 0), (47, 3, .getfield 9, 6, 1), (50, 2, .bipush 75, 0, 0), (52, 1, .iload_n 2, 0, 0), (53, 1, .iadd, 0, 0), (54, 1, .iconst 0, 0, 0), (55, 1, .iastore, 0, 0), (56, 1, .aload_n 0, 0, 0), (57, 3, .getfield 9, 6, 1), (60, 2, .bipush 13, 0, 0), (62, 1, .iload_n 2, 0, 0), (63, 1, .iadd, 0, 0), (64, 1, .iconst 0, 0, 0), (65, 1, .iastore, 0, 0), (66, 1, .aload_n 0, 0, 0), (67, 3, .getfield 9, 6, 1), (70, 2, .bipush 20, 0, 0), (72, 1, .dup2, 0, 0), (73, 1, .iaload, 0, 0), (74, 1, .iconst 1, 0, 0), (75, 1, .iadd, 0, 0), (76, 1, .iastore, 0, 0), (77, 1, .iload_n 2, 0, 0), (78, 1, .ireturn, 1, 0)]
def kX6_at : List CE := [(0, 1, .aload_n 0, 0, 0), (1, 1, .iload_n 1, 0, 0), (2, 3, .invokevirtual 178, 113, 2), (5, 3, .ifCond .eq 12, 0, 0), (8, 1, .iload_n 2, 0, 0), (9, 1, .iconst 0, 0, 0), (10, 1, .iconst 3, 0, 0), (11, 3, .invokestatic 47, 111, 3), (14, 3, .ifCond .ne 5, 0, 0), (17, 1, .iconst (-1), 0, 0), (18, 1, .ireturn, 1, 0), (19, 1, .iload_n 2, 0, 0), (20, 3, .ifCond .ne 15, 0, 0), (23, 1, .aload_n 0, 0, 0), (24, 3, .getfield 9, 6, 1), (27, 2, .bipush 69, 0, 0), (29, 1, .iload_n 1, 0, 0), (30, 1, .iadd, 0, 0), (31, 1, .iaload, 0, 0), (32, 3, .goto 49, 0, 0), (35, 1, .iload_n 2, 0, 0), (36, 1, .iconst 1, 0, 0), (37, 3, .if_icmp .ne 15, 0, 0), (40, 1, .aload_n 0, 0, 0), (41, 3, .getfield 9, 6, 1), (44, 2, .bipush 75, 0, 0), (46, 1, .iload_n 1, 0, 0), (47, 1, .iadd, 0, 0), (48, 1, .iaload, 0, 0), (49, 3, .goto 32, 0, 0), (52, 1, .iload_n 2, 0, 0), (53, 1, .iconst 2, 0, 0), (54, 3, .if_icmp .ne 15, 0, 0), (57, 1, .aload_n 0, 0, 0), (58, 3, .getfield 9, 6, 1), (61, 2, .bipush 13, 0, 0), (63, 1, .iload_n 1, 0, 0), (64, 1, .iadd, 0, 0), (65, 1, .iaload, 0, 0), (66, 3, .goto 15, 0, 0), (69, 1, .aload_n 0, 0, 0), (70, 1, .aload_n 0, 0, 0), (71, 3, .invokevirtual 181, 142, 1), (74, 3, .invokevirtual 184, 144, 2), (77, 1, .iload_n 1, 0, 0), (78, 1, .ishr, 0, 0), (79, 1, .iconst 1, 0, 0), (80, 1, .iand, 0, 0), (81, 1, .ireturn, 1, 0)]
def kX6_prop : List CE := [(0, 1, .aload_n 0, 0, 0), (1, 1, .iload_n 1, 0, 0), (2, 3, .invokevirtual 178, 113, 2), (5, 3, .ifCond .ne 5, 0, 0), (8, 1, .iconst (-1), 0, 0), (9, 1, .ireturn, 1, 0), (10, 1, .aload_n 0, 0, 0), (11, 3, .getfield 9, 6, 1), (14, 2, .bipush 13, 0, 0), (16, 1, .iload_n 1, 0, 0), (17, 1, .iadd, 0, 0), (18, 1, .iaload, 0, 0), (19, 1, .iconst 1, 0, 0), (20, 3, .if_icmp .ne 6, 0, 0), (23, 2, .bipush (-3), 0, 0), (25, 1, .ireturn, 1, 0), (26, 1, .aload_n 0, 0, 0), (27, 3, .getfield 9, 6, 1), (30, 2, .bipush 75, 0, 0), (32, 1, .iload_n 1, 0, 0), (33, 1, .iadd, 0, 0), (34, 1, .iaload, 0, 0), (35, 1, .istore_n 3, 0, 0), (36, 1, .aload_n 0, 0, 0), (37, 3, .getfield 9, 6, 1), (40, 2, .bipush 75, 0, 0), (42, 1, .iload_n 1, 0, 0), (43, 1, .iadd, 0, 0), (44, 1, .iload_n 2, 0, 0), (45, 3, .ifCond .eq 7, 0, 0), (48, 1, .iconst 1, 0, 0), (49, 3, .goto 4, 0, 0), (52, 1, .iconst 0, 0, 0), (53, 1, .iastore, 0, 0), (54, 1, .iload_n 3, 0, 0), (55, 1, .ireturn, 1, 0)]
def kX6_told : List CE := [(0, 1, .iload_n 1, 0, 0), (1, 39, .tableswitch 83 0 5 #[39, 46, 55, 64, 69, 78], 0, 0), (40, 1, .aload_n 0, 0, 0), (41, 3, .getfield 9, 6, 1), (44, 1, .iconst 0, 0, 0), (45, 1, .iaload, 0, 0), (46, 1, .ireturn, 1, 0), (47, 1, .aload_n 0, 0, 0), (48, 3, .sipush 225, 0, 0), (51, 1, .iconst 3, 0, 0), (52, 3, .invokevirtual 129, 131, 3), (55, 1, .ireturn, 1, 0), (56, 1, .aload_n 0, 0, 0), (57, 3, .sipush 230, 0, 0), (60, 1, .iconst 1, 0, 0), (61, 3, .invokevirtual 129, 131, 3), (64, 1, .ireturn, 1, 0), (65, 1, .aload_n 0, 0, 0), (66, 3, .invokevirtual 181, 142, 1), (69, 1, .ireturn, 1, 0), (70, 1, .aload_n 0, 0, 0), (71, 1, .aload_n 0, 0, 0), (72, 3, .invokevirtual 181, 142, 1), (75, 3, .invokevirtual 184, 144, 2), (78, 1, .ireturn, 1, 0), (79, 1, .aload_n 0, 0, 0), (80, 3, .invokevirtual 187, 145, 1), (83, 1, .ireturn, 1, 0), (84, 1, .iconst (-1), 0, 0), (85, 1, .ireturn, 1, 0)]
def kX6_goesBy : List CE := [(0, 1, .aload_n 0, 0, 0), (1, 3, .invokevirtual 160, 136, 1), (4, 1, .aload_n 0, 0, 0), (5, 1, .aload_n 0, 0, 0), (6, 1, .iload_n 1, 0, 0), (7, 3, .invokevirtual 163, 140, 2), (10, 3, .invokevirtual 184, 144, 2), (13, 1, .istore_n 2, 0, 0), (14, 1, .iconst 0, 0, 0), (15, 1, .istore_n 3, 0, 0), (16, 1, .iload_n 3, 0, 0), (17, 1, .aload_n 0, 0, 0), (18, 3, .getfield 9, 6, 1), (21, 2, .bipush 20, 0, 0), (23, 1, .iaload, 0, 0), (24, 3, .if_icmp .ge 26, 0, 0), (27, 1, .aload_n 0, 0, 0), (28, 3, .getfield 9, 6, 1), (31, 2, .bipush 13, 0, 0), (33, 1, .iload_n 3, 0, 0), (34, 1, .iadd, 0, 0), (35, 1, .dup2, 0, 0), (36, 1, .iaload, 0, 0), (37, 1, .iload_n 2, 0, 0), (38, 1, .iload_n 3, 0, 0), (39, 1, .ishr, 0, 0), (40, 1, .iconst 1, 0, 0), (41, 1, .iand, 0, 0), (42, 1, .ior, 0, 0), (43, 1, .iastore, 0, 0), (44, 3, .iinc 3 1, 0, 0), (47, 3, .goto (-31), 0, 0), (50, 1, .iconst 0, 0, 0), (51, 1, .istore_n 3, 0, 0), (52, 1, .iload_n 3, 0, 0), (53, 1, .aload_n 0, 0, 0), (54, 3, .getfield 9, 6, 1), (57, 2, .bipush 19, 0, 0), (59, 1, .iaload, 0, 0), (60, 3, .if_icmp .ge 82, 0, 0), (63, 1, .aload_n 0, 0, 0), (64, 3, .getfield 9, 6, 1), (67, 2, .bipush 7, 0, 0), (69, 1, .iload_n 3, 0, 0), (70, 1, .iadd, 0, 0), (71, 1, .iaload, 0, 0), (72, 1, .aload_n 0, 0, 0), (73, 1, .iload_n 1, 0, 0), (74, 1, .iload_n 3, 0, 0), (75, 3, .invokevirtual 147, 137, 3), (78, 3, .ifCond .eq 14, 0, 0), (81, 1, .aload_n 0, 0, 0), (82, 3, .sipush 230, 0, 0), (85, 1, .iconst 1, 0, 0), (86, 3, .invokevirtual 129, 131, 3), (89, 3, .goto 12, 0, 0), (92, 1, .aload_n 0, 0, 0), (93, 3, .sipush 225, 0, 0), (96, 1, .iconst 3, 0, 0), (97, 3, .invokevirtual 129, 131, 3), (100, 1, .ineg, 0, 0), (101, 1, .iadd, 0, 0), (102, 2, .istore 4, 0, 0), (104, 1, .aload_n 0, 0, 0), (105, 3, .getfield 9, 6, 1), (108, 2, .bipush 7, 0, 0), (110, 1, .iload_n 3, 0, 0), (111, 1, .iadd, 0, 0), (112, 2, .iload 4, 0, 0), (114, 3, .ifCond .ge 7, 0, 0), (117, 1, .iconst 0, 0, 0), (118, 3, .goto 17, 0, 0), (121, 2, .iload 4, 0, 0), (123, 2, .bipush 99, 0, 0), (125, 3, .if_icmp .le 8, 0, 0), (128, 2, .bipush 99, 0, 0), (130, 3, .goto 5, 0, 0), (133, 2, .iload 4, 0, 0), (135, 1, .iastore, 0, 0), (136, 3, .iinc 3 1, 0, 0), (139, 3, .goto (-87), 0, 0), (142, 1, .aload_n 0, 0, 0), (143, 3, .getfield 9, 6, 1), (146, 1, .iconst 0, 0, 0), (147, 1, .dup2, 0, 0), (148, 1, .iaload, 0, 0), (149, 1, .iconst 1, 0, 0), (150, 1, .iadd, 0, 0), (151, 1, .iastore, 0, 0), (152, 1, .iload_n 2, 0, 0), (153, 3, .invokestatic 190, 146, 1), (156, 1, .ireturn, 1, 0)]
def kX6_goes : List CE := [(0, 1, .aload_n 0, 0, 0), (1, 2, .bipush 63, 0, 0), (3, 3, .invokevirtual 193, 159, 2), (6, 1, .ireturn, 1, 0)]
def kX6_beat : List CE := [(0, 1, .aload_n 0, 0, 0), (1, 3, .getfield 9, 6, 1), (4, 1, .iconst 0, 0, 0), (5, 1, .iaload, 0, 0), (6, 2, .ldc 196, 0, 99999), (8, 3, .if_icmp .ne 8, 0, 0), (11, 2, .bipush (-3), 0, 0), (13, 3, .goto 7, 0, 0), (16, 1, .aload_n 0, 0, 0), (17, 3, .invokevirtual 197, 160, 1), (20, 1, .ireturn, 1, 0)]
def kX6_on : List CE := [(0, 1, .iload_n 2, 0, 0), (1, 1, .iconst 0, 0, 0), (2, 1, .iconst 2, 0, 0), (3, 3, .invokestatic 47, 111, 3), (6, 3, .ifCond .ne 16, 0, 0), (9, 1, .aload_n 0, 0, 0), (10, 1, .iload_n 2, 0, 0), (11, 2, .bipush 10, 0, 0), (13, 1, .isub, 0, 0), (14, 3, .invokevirtual 172, 112, 2), (17, 3, .ifCond .ne 5, 0, 0), (20, 1, .iconst (-1), 0, 0), (21, 1, .ireturn, 1, 0), (22, 1, .iload_n 1, 0, 0), (23, 1, .iconst 0, 0, 0), (24, 2, .bipush 40, 0, 0), (26, 3, .invokestatic 47, 111, 3), (29, 3, .ifCond .ne 6, 0, 0), (32, 2, .bipush (-2), 0, 0), (34, 1, .ireturn, 1, 0), (35, 1, .aload_n 0, 0, 0), (36, 3, .invokevirtual 200, 115, 1), (39, 2, .bipush (-5), 0, 0), (41, 1, .istore_n 3, 0, 0), (42, 1, .iconst 1, 0, 0), (43, 2, .istore 4, 0, 0), (45, 2, .iload 4, 0, 0), (47, 1, .iload_n 1, 0, 0), (48, 3, .if_icmp .gt 33, 0, 0), (51, 1, .aload_n 0, 0, 0), (52, 3, .invokevirtual 197, 160, 1), (55, 2, .istore 5, 0, 0), (57, 1, .iload_n 3, 0, 0), (58, 2, .bipush (-5), 0, 0), (60, 3, .if_icmp .ne 13, 0, 0), (63, 2, .iload 5, 0, 0), (65, 3, .ifCond .le 8, 0, 0), (68, 2, .iload 4, 0, 0), (70, 3, .goto 4, 0, 0), (73, 1, .iload_n 3, 0, 0), (74, 1, .istore_n 3, 0, 0), (75, 3, .iinc 4 1, 0, 0), (78, 3, .goto (-33), 0, 0), (81, 1, .iload_n 2, 0, 0), (82, 3, .ifCond .ne 10, 0, 0), (85, 1, .aload_n 0, 0, 0), (86, 3, .invokevirtual 187, 145, 1), (89, 3, .goto 36, 0, 0), (92, 1, .iload_n 2, 0, 0), (93, 1, .iconst 1, 0, 0), (94, 3, .if_icmp .ne 7, 0, 0), (97, 1, .iload_n 3, 0, 0), (98, 3, .goto 27, 0, 0), (101, 1, .iload_n 2, 0, 0), (102, 1, .iconst 2, 0, 0), (103, 3, .if_icmp .ne 10, 0, 0), (106, 1, .aload_n 0, 0, 0), (107, 3, .invokevirtual 181, 142, 1), (110, 3, .goto 15, 0, 0), (113, 1, .aload_n 0, 0, 0), (114, 3, .getfield 9, 6, 1), (117, 2, .bipush 7, 0, 0), (119, 1, .iload_n 2, 0, 0), (120, 1, .iadd, 0, 0), (121, 2, .bipush 10, 0, 0), (123, 1, .isub, 0, 0), (124, 1, .iaload, 0, 0), (125, 2, .istore 4, 0, 0), (127, 1, .aload_n 0, 0, 0), (128, 3, .invokevirtual 203, 116, 1), (131, 2, .iload 4, 0, 0), (133, 1, .ireturn, 1, 0)]
def kX6_steady : List CE := [(0, 1, .aload_n 0, 0, 0), (1, 3, .invokevirtual 200, 115, 1), (4, 2, .bipush (-5), 0, 0), (6, 1, .istore_n 1, 0, 0), (7, 1, .iconst 0, 0, 0), (8, 1, .istore_n 2, 0, 0), (9, 1, .iload_n 2, 0, 0), (10, 2, .bipush 60, 0, 0), (12, 3, .if_icmp .gt 38, 0, 0), (15, 1, .iload_n 1, 0, 0), (16, 2, .bipush (-5), 0, 0), (18, 3, .if_icmp .ne 32, 0, 0), (21, 1, .aload_n 0, 0, 0), (22, 1, .aload_n 0, 0, 0), (23, 3, .invokevirtual 181, 142, 1), (26, 3, .invokevirtual 184, 144, 2), (29, 3, .ifCond .eq 7, 0, 0), (32, 1, .iload_n 2, 0, 0), (33, 3, .goto 5, 0, 0), (36, 2, .bipush (-5), 0, 0), (38, 1, .istore_n 1, 0, 0), (39, 1, .aload_n 0, 0, 0), (40, 3, .invokevirtual 197, 160, 1), (43, 1, .pop, 0, 0), (44, 3, .iinc 2 1, 0, 0), (47, 3, .goto (-38), 0, 0), (50, 1, .aload_n 0, 0, 0), (51, 3, .invokevirtual 203, 116, 1), (54, 1, .iload_n 1, 0, 0), (55, 1, .ireturn, 1, 0)]
def kX6_looksForNote : List CE := [(0, 1, .aload_n 0, 0, 0), (1, 3, .getfield 9, 6, 1), (4, 1, .iconst 1, 0, 0), (5, 1, .iload_n 1, 0, 0), (6, 1, .iadd, 0, 0), (7, 1, .iaload, 0, 0), (8, 1, .istore_n 2, 0, 0), (9, 1, .aload_n 0, 0, 0), (10, 1, .iconst (-1), 0, 0), (11, 3, .putfield 206, 6, 13), (14, 1, .aload_n 0, 0, 0), (15, 1, .iconst (-1), 0, 0), (16, 3, .putfield 209, 6, 14), (19, 1, .aload_n 0, 0, 0), (20, 3, .getfield 9, 6, 1), (23, 2, .bipush 39, 0, 0), (25, 1, .iload_n 1, 0, 0), (26, 1, .iadd, 0, 0), (27, 1, .iaload, 0, 0), (28, 1, .istore_n 3, 0, 0), (29, 1, .iload_n 3, 0, 0), (30, 1, .aload_n 0, 0, 0), (31, 1, .iload_n 1, 0, 0), (32, 3, .invokevirtual 169, 149, 2), (35, 3, .if_icmp .gt 67, 0, 0), (38, 1, .aload_n 0, 0, 0), (39, 3, .getfield 9, 6, 1), (42, 1, .iconst 1, 0, 0), (43, 1, .iload_n 1, 0, 0), (44, 1, .iadd, 0, 0), (45, 1, .iload_n 3, 0, 0), (46, 1, .iastore, 0, 0), (47, 1, .aload_n 0, 0, 0), (48, 3, .invokevirtual 181, 142, 1), (51, 2, .istore 4, 0, 0), (53, 1, .aload_n 0, 0, 0), (54, 2, .iload 4, 0, 0), (56, 1, .aload_n 0, 0, 0), (57, 3, .getfield 209, 6, 14), (60, 3, .if_icmp .le 7, 0, 0), (63, 1, .iload_n 3, 0, 0), (64, 3, .goto 7, 0, 0), (67, 1, .aload_n 0, 0, 0), (68, 3, .getfield 206, 6, 13), (71, 3, .putfield 206, 6, 13), (74, 1, .aload_n 0, 0, 0), (75, 2, .iload 4, 0, 0), (77, 1, .aload_n 0, 0, 0), (78, 3, .getfield 209, 6, 14), (81, 3, .if_icmp .le 8, 0, 0), (84, 2, .iload 4, 0, 0), (86, 3, .goto 7, 0, 0), (89, 1, .aload_n 0, 0, 0), (90, 3, .getfield 209, 6, 14), (93, 3, .putfield 209, 6, 14), (96, 3, .iinc 3 1, 0, 0), (99, 3, .goto (-70), 0, 0), (102, 1, .aload_n 0, 0, 0), (103, 3, .getfield 9, 6, 1), (106, 1, .iconst 1, 0, 0), (107, 1, .iload_n 1, 0, 0), (108, 1, .iadd, 0, 0), (109, 1, .iload_n 2, 0, 0), (110, 1, .iastore, 0, 0), (111, 1, .return_, 0, 0)]
def kX6_best : List CE := [(0, 1, .aload_n 0, 0, 0), (1, 1, .iload_n 1, 0, 0), (2, 3, .invokevirtual 172, 112, 2), (5, 3, .ifCond .eq 12, 0, 0), (8, 1, .iload_n 2, 0, 0), (9, 1, .iconst 0, 0, 0), (10, 1, .iconst 1, 0, 0), (11, 3, .invokestatic 47, 111, 3), (14, 3, .ifCond .ne 5, 0, 0), (17, 1, .iconst (-1), 0, 0), (18, 1, .ireturn, 1, 0), (19, 1, .aload_n 0, 0, 0), (20, 1, .iload_n 1, 0, 0), (21, 3, .invokevirtual 212, 164, 2), (24, 1, .iload_n 2, 0, 0), (25, 3, .ifCond .ne 10, 0, 0), (28, 1, .aload_n 0, 0, 0), (29, 3, .getfield 206, 6, 13), (32, 3, .goto 7, 0, 0), (35, 1, .aload_n 0, 0, 0), (36, 3, .getfield 209, 6, 14), (39, 1, .ireturn, 1, 0)]
def kX6_noteAbove : List CE := [(0, 1, .aload_n 0, 0, 0), (1, 3, .getfield 9, 6, 1), (4, 2, .bipush 39, 0, 0), (6, 1, .iload_n 1, 0, 0), (7, 1, .iadd, 0, 0), (8, 1, .iaload, 0, 0), (9, 1, .iload_n 2, 0, 0), (10, 3, .ifCond .ne 7, 0, 0), (13, 1, .iconst 0, 0, 0), (14, 3, .goto 32, 0, 0), (17, 1, .iload_n 2, 0, 0), (18, 1, .iconst 1, 0, 0), (19, 3, .if_icmp .ne 7, 0, 0), (22, 1, .iconst 2, 0, 0), (23, 3, .goto 23, 0, 0), (26, 1, .iload_n 2, 0, 0), (27, 1, .iconst 2, 0, 0), (28, 3, .if_icmp .ne 7, 0, 0), (31, 1, .iconst 4, 0, 0), (32, 3, .goto 14, 0, 0), (35, 1, .iload_n 2, 0, 0), (36, 1, .iconst 3, 0, 0), (37, 3, .if_icmp .ne 7, 0, 0), (40, 1, .iconst 5, 0, 0), (41, 3, .goto 5, 0, 0), (44, 2, .bipush 7, 0, 0), (46, 1, .iadd, 0, 0), (47, 1, .istore_n 3, 0, 0), (48, 1, .iload_n 3, 0, 0), (49, 2, .bipush 23, 0, 0), (51, 3, .if_icmp .le 8, 0, 0), (54, 2, .bipush 23, 0, 0), (56, 3, .goto 4, 0, 0), (59, 1, .iload_n 3, 0, 0), (60, 1, .ireturn, 1, 0)]
def kX6_chordsFrom : List CE := [(0, 1, .iload_n 1, 0, 0), (1, 1, .aload_n 0, 0, 0), (2, 3, .getfield 9, 6, 1), (5, 2, .bipush 19, 0, 0), (7, 1, .iaload, 0, 0), (8, 3, .if_icmp .ne 51, 0, 0), (11, 1, .aload_n 0, 0, 0), (12, 2, .bipush 63, 0, 0), (14, 3, .invokevirtual 163, 140, 2), (17, 1, .istore_n 2, 0, 0), (18, 1, .iload_n 2, 0, 0), (19, 1, .aload_n 0, 0, 0), (20, 3, .getfield 209, 6, 14), (23, 3, .if_icmp .le 35, 0, 0), (26, 1, .aload_n 0, 0, 0), (27, 1, .iload_n 2, 0, 0), (28, 3, .putfield 209, 6, 14), (31, 1, .iconst 0, 0, 0), (32, 1, .istore_n 3, 0, 0), (33, 1, .iload_n 3, 0, 0), (34, 1, .iload_n 1, 0, 0), (35, 3, .if_icmp .ge 23, 0, 0), (38, 1, .aload_n 0, 0, 0), (39, 3, .getfield 34, 6, 16), (42, 1, .iload_n 3, 0, 0), (43, 1, .aload_n 0, 0, 0), (44, 3, .getfield 9, 6, 1), (47, 1, .iconst 1, 0, 0), (48, 1, .iload_n 3, 0, 0), (49, 1, .iadd, 0, 0), (50, 1, .iaload, 0, 0), (51, 1, .iastore, 0, 0), (52, 3, .iinc 3 1, 0, 0), (55, 3, .goto (-22), 0, 0), (58, 1, .return_, 0, 0), (59, 1, .iconst 0, 0, 0), (60, 1, .istore_n 2, 0, 0), (61, 1, .iload_n 2, 0, 0), (62, 1, .iconst 5, 0, 0), (63, 3, .if_icmp .ge 46, 0, 0), (66, 1, .aload_n 0, 0, 0), (67, 3, .getfield 9, 6, 1), (70, 1, .iconst 1, 0, 0), (71, 1, .iload_n 1, 0, 0), (72, 1, .iadd, 0, 0), (73, 1, .aload_n 0, 0, 0), (74, 1, .iload_n 1, 0, 0), (75, 1, .iload_n 2, 0, 0), (76, 3, .invokevirtual 215, 166, 3), (79, 1, .iastore, 0, 0), (80, 1, .aload_n 0, 0, 0), (81, 3, .getfield 28, 6, 12), (84, 1, .iload_n 1, 0, 0), (85, 1, .aload_n 0, 0, 0), (86, 3, .getfield 31, 6, 15), (89, 1, .iconst 5, 0, 0), (90, 1, .iload_n 1, 0, 0), (91, 1, .imul, 0, 0), (92, 1, .iload_n 2, 0, 0), (93, 1, .iadd, 0, 0), (94, 1, .iaload, 0, 0), (95, 1, .iastore, 0, 0), (96, 1, .aload_n 0, 0, 0), (97, 1, .iload_n 1, 0, 0), (98, 1, .iconst 1, 0, 0), (99, 1, .iadd, 0, 0), (100, 3, .invokevirtual 218, 167, 2), (103, 3, .iinc 2 1, 0, 0), (106, 3, .goto (-45), 0, 0), (109, 1, .return_, 0, 0)]
def kX6_chord : List CE := [(0, 1, .iload_n 1, 0, 0), (1, 1, .iconst (-1), 0, 0), (2, 1, .iconst 4, 0, 0), (3, 3, .invokestatic 47, 111, 3), (6, 3, .ifCond .ne 5, 0, 0), (9, 1, .iconst (-1), 0, 0), (10, 1, .ireturn, 1, 0), (11, 1, .aload_n 0, 0, 0), (12, 3, .getfield 9, 6, 1), (15, 2, .bipush 19, 0, 0), (17, 1, .iaload, 0, 0), (18, 1, .iconst 5, 0, 0), (19, 3, .if_icmp .le 6, 0, 0), (22, 2, .bipush (-9), 0, 0), (24, 1, .ireturn, 1, 0), (25, 1, .aload_n 0, 0, 0), (26, 3, .invokevirtual 200, 115, 1), (29, 1, .iconst 0, 0, 0), (30, 1, .istore_n 2, 0, 0), (31, 1, .iload_n 2, 0, 0), (32, 1, .aload_n 0, 0, 0), (33, 3, .getfield 9, 6, 1), (36, 2, .bipush 19, 0, 0), (38, 1, .iaload, 0, 0), (39, 3, .if_icmp .ge 51, 0, 0), (42, 1, .iconst 0, 0, 0), (43, 1, .istore_n 3, 0, 0), (44, 1, .iload_n 3, 0, 0), (45, 1, .iconst 5, 0, 0), (46, 3, .if_icmp .ge 38, 0, 0), (49, 1, .aload_n 0, 0, 0), (50, 3, .getfield 9, 6, 1), (53, 1, .iconst 1, 0, 0), (54, 1, .iload_n 2, 0, 0), (55, 1, .iadd, 0, 0), (56, 1, .aload_n 0, 0, 0), (57, 1, .iload_n 2, 0, 0), (58, 1, .iload_n 3, 0, 0), (59, 3, .invokevirtual 215, 166, 3), (62, 1, .iastore, 0, 0), (63, 1, .aload_n 0, 0, 0), (64, 3, .getfield 31, 6, 15), (67, 1, .iconst 5, 0, 0), (68, 1, .iload_n 2, 0, 0), (69, 1, .imul, 0, 0), (70, 1, .iload_n 3, 0, 0), (71, 1, .iadd, 0, 0), (72, 1, .aload_n 0, 0, 0), (73, 1, .iload_n 2, 0, 0), (74, 3, .invokevirtual 144, 134, 2), (77, 1, .iastore, 0, 0), (78, 3, .iinc 3 1, 0, 0), (81, 3, .goto (-37), 0, 0), (84, 3, .iinc 2 1, 0, 0), (87, 3, .goto (-56), 0, 0), (90, 1, .aload_n 0, 0, 0), (91, 1, .iconst (-1), 0, 0), (92, 3, .putfield 209, 6, 14), (95, 1, .aload_n 0, 0, 0), (96, 1, .iconst 0, 0, 0), (97, 3, .invokevirtual 218, 167, 2), (100, 1, .aload_n 0, 0, 0), (101, 3, .invokevirtual 203, 116, 1), (104, 1, .iload_n 1, 0, 0), (105, 1, .iconst (-1), 0, 0), (106, 3, .if_icmp .ne 10, 0, 0), (109, 1, .aload_n 0, 0, 0), (110, 3, .getfield 209, 6, 14), (113, 3, .goto 25, 0, 0), (116, 1, .iload_n 1, 0, 0), (117, 1, .aload_n 0, 0, 0), (118, 3, .getfield 9, 6, 1), (121, 2, .bipush 19, 0, 0), (123, 1, .iaload, 0, 0), (124, 3, .if_icmp .ge 12, 0, 0), (127, 1, .aload_n 0, 0, 0), (128, 3, .getfield 34, 6, 16), (131, 1, .iload_n 1, 0, 0), (132, 1, .iaload, 0, 0), (133, 3, .goto 5, 0, 0), (136, 2, .bipush (-5), 0, 0), (138, 1, .ireturn, 1, 0)]
def kX6_needed : List CE := [(0, 1, .aload_n 0, 0, 0), (1, 3, .invokevirtual 160, 136, 1), (4, 2, .ldc 221, 0, 100000000), (6, 1, .istore_n 1, 0, 0), (7, 2, .bipush (-5), 0, 0), (9, 1, .istore_n 2, 0, 0), (10, 1, .iconst 0, 0, 0), (11, 1, .istore_n 3, 0, 0), (12, 1, .iload_n 3, 0, 0), (13, 1, .aload_n 0, 0, 0), (14, 3, .getfield 9, 6, 1), (17, 2, .bipush 19, 0, 0), (19, 1, .iaload, 0, 0), (20, 3, .if_icmp .ge 61, 0, 0), (23, 1, .aload_n 0, 0, 0), (24, 1, .iload_n 3, 0, 0), (25, 3, .invokevirtual 133, 114, 2), (28, 3, .ifCond .eq 18, 0, 0), (31, 1, .aload_n 0, 0, 0), (32, 2, .bipush 63, 0, 0), (34, 1, .iconst 1, 0, 0), (35, 1, .iload_n 3, 0, 0), (36, 1, .ishl, 0, 0), (37, 1, .iconst (-1), 0, 0), (38, 1, .ixor, 0, 0), (39, 1, .iand, 0, 0), (40, 3, .invokevirtual 163, 140, 2), (43, 3, .goto 5, 0, 0), (46, 2, .ldc 221, 0, 100000000), (48, 2, .istore 4, 0, 0), (50, 2, .iload 4, 0, 0), (52, 1, .iload_n 1, 0, 0), (53, 3, .if_icmp .ge 7, 0, 0), (56, 1, .iload_n 3, 0, 0), (57, 3, .goto 4, 0, 0), (60, 1, .iload_n 2, 0, 0), (61, 1, .istore_n 2, 0, 0), (62, 2, .iload 4, 0, 0), (64, 1, .iload_n 1, 0, 0), (65, 3, .if_icmp .ge 8, 0, 0), (68, 2, .iload 4, 0, 0), (70, 3, .goto 4, 0, 0), (73, 1, .iload_n 1, 0, 0), (74, 1, .istore_n 1, 0, 0), (75, 3, .iinc 3 1, 0, 0), (78, 3, .goto (-66), 0, 0), (81, 1, .iload_n 2, 0, 0), (82, 1, .ireturn, 1, 0)]
def kX6_looseMany : List CE := [(0, 1, .aload_n 0, 0, 0), (1, 1, .aload_n 0, 0, 0), (2, 1, .iload_n 1, 0, 0), (3, 3, .invokevirtual 163, 140, 2), (6, 3, .invokevirtual 184, 144, 2), (9, 3, .invokestatic 190, 146, 1), (12, 1, .ireturn, 1, 0)]
def kX6_spare : List CE := [(0, 1, .aload_n 0, 0, 0), (1, 3, .invokevirtual 160, 136, 1), (4, 1, .aload_n 0, 0, 0), (5, 2, .bipush 63, 0, 0), (7, 3, .invokevirtual 222, 170, 2), (10, 1, .istore_n 1, 0, 0), (11, 1, .iconst 0, 0, 0), (12, 1, .istore_n 2, 0, 0), (13, 1, .iconst 0, 0, 0), (14, 1, .istore_n 3, 0, 0), (15, 1, .iload_n 3, 0, 0), (16, 1, .aload_n 0, 0, 0), (17, 3, .getfield 9, 6, 1), (20, 2, .bipush 19, 0, 0), (22, 1, .iaload, 0, 0), (23, 3, .if_icmp .ge 43, 0, 0), (26, 1, .iload_n 2, 0, 0), (27, 1, .aload_n 0, 0, 0), (28, 1, .iload_n 3, 0, 0), (29, 3, .invokevirtual 133, 114, 2), (32, 3, .ifCond .eq 25, 0, 0), (35, 1, .aload_n 0, 0, 0), (36, 2, .bipush 63, 0, 0), (38, 1, .iconst 1, 0, 0), (39, 1, .iload_n 3, 0, 0), (40, 1, .ishl, 0, 0), (41, 1, .iconst (-1), 0, 0), (42, 1, .ixor, 0, 0), (43, 1, .iand, 0, 0), (44, 3, .invokevirtual 222, 170, 2), (47, 1, .iload_n 1, 0, 0), (48, 3, .if_icmp .gt 9, 0, 0), (51, 1, .iconst 1, 0, 0), (52, 1, .iload_n 3, 0, 0), (53, 1, .ishl, 0, 0), (54, 3, .goto 4, 0, 0), (57, 1, .iconst 0, 0, 0), (58, 1, .ior, 0, 0), (59, 1, .istore_n 2, 0, 0), (60, 3, .iinc 3 1, 0, 0), (63, 3, .goto (-48), 0, 0), (66, 1, .iload_n 2, 0, 0), (67, 1, .ireturn, 1, 0)]
def kX6_fewestOf : List CE := [(0, 1, .aload_n 0, 0, 0), (1, 3, .invokevirtual 160, 136, 1), (4, 1, .iconst (-1), 0, 0), (5, 1, .istore_n 2, 0, 0), (6, 1, .iconst 0, 0, 0), (7, 1, .istore_n 3, 0, 0), (8, 1, .iload_n 3, 0, 0), (9, 1, .iload_n 1, 0, 0), (10, 3, .if_icmp .gt 43, 0, 0), (13, 1, .iload_n 3, 0, 0), (14, 1, .iload_n 1, 0, 0), (15, 1, .iconst (-1), 0, 0), (16, 1, .ixor, 0, 0), (17, 1, .iand, 0, 0), (18, 3, .ifCond .ne 29, 0, 0), (21, 1, .aload_n 0, 0, 0), (22, 1, .iload_n 3, 0, 0), (23, 3, .invokevirtual 222, 170, 2), (26, 3, .ifCond .ne 21, 0, 0), (29, 1, .iload_n 2, 0, 0), (30, 1, .iconst (-1), 0, 0), (31, 3, .if_icmp .eq 14, 0, 0), (34, 1, .iload_n 3, 0, 0), (35, 3, .invokestatic 190, 146, 1), (38, 1, .iload_n 2, 0, 0), (39, 3, .invokestatic 190, 146, 1), (42, 3, .if_icmp .ge 5, 0, 0), (45, 1, .iload_n 3, 0, 0), (46, 1, .istore_n 2, 0, 0), (47, 3, .iinc 3 1, 0, 0), (50, 3, .goto (-42), 0, 0), (53, 1, .iload_n 2, 0, 0), (54, 1, .iconst (-1), 0, 0), (55, 3, .if_icmp .ne 7, 0, 0), (58, 1, .iload_n 1, 0, 0), (59, 3, .goto 4, 0, 0), (62, 1, .iload_n 2, 0, 0), (63, 1, .ireturn, 1, 0)]
def kX6_shift : List CE := [(0, 1, .iload_n 2, 0, 0), (1, 1, .iconst 0, 0, 0), (2, 1, .iconst 2, 0, 0), (3, 3, .invokestatic 47, 111, 3), (6, 3, .ifCond .ne 5, 0, 0), (9, 1, .iconst (-1), 0, 0), (10, 1, .ireturn, 1, 0), (11, 1, .iload_n 1, 0, 0), (12, 1, .iconst 1, 0, 0), (13, 2, .bipush 8, 0, 0), (15, 3, .invokestatic 47, 111, 3), (18, 3, .ifCond .ne 6, 0, 0), (21, 2, .bipush (-2), 0, 0), (23, 1, .ireturn, 1, 0), (24, 1, .aload_n 0, 0, 0), (25, 3, .invokevirtual 200, 115, 1), (28, 1, .aload_n 0, 0, 0), (29, 3, .invokevirtual 225, 141, 1), (32, 1, .istore_n 3, 0, 0), (33, 1, .iconst 0, 0, 0), (34, 2, .istore 4, 0, 0), (36, 1, .iconst 0, 0, 0), (37, 2, .istore 5, 0, 0), (39, 2, .iload 5, 0, 0), (41, 1, .iload_n 1, 0, 0), (42, 3, .if_icmp .ge 23, 0, 0), (45, 1, .aload_n 0, 0, 0), (46, 1, .iload_n 3, 0, 0), (47, 3, .invokevirtual 228, 172, 2), (50, 2, .istore 4, 0, 0), (52, 1, .aload_n 0, 0, 0), (53, 2, .iload 4, 0, 0), (55, 3, .invokevirtual 193, 159, 2), (58, 1, .pop, 0, 0), (59, 3, .iinc 5 1, 0, 0), (62, 3, .goto (-23), 0, 0), (65, 1, .iconst 0, 0, 0), (66, 2, .istore 5, 0, 0), (68, 1, .iconst 0, 0, 0), (69, 2, .istore 6, 0, 0), (71, 2, .iload 6, 0, 0), (73, 1, .aload_n 0, 0, 0), (74, 3, .getfield 9, 6, 1), (77, 2, .bipush 19, 0, 0), (79, 1, .iaload, 0, 0), (80, 3, .if_icmp .ge 24, 0, 0), (83, 2, .iload 5, 0, 0), (85, 1, .aload_n 0, 0, 0), (86, 3, .getfield 9, 6, 1), (89, 2, .bipush 7, 0, 0), (91, 2, .iload 6, 0, 0), (93, 1, .iadd, 0, 0), (94, 1, .iaload, 0, 0), (95, 1, .iadd, 0, 0), (96, 2, .istore 5, 0, 0), (98, 3, .iinc 6 1, 0, 0), (101, 3, .goto (-30), 0, 0), (104, 1, .iload_n 2, 0, 0), (105, 3, .ifCond .ne 8, 0, 0), (108, 2, .iload 5, 0, 0), (110, 3, .goto 17, 0, 0), (113, 1, .iload_n 2, 0, 0), (114, 1, .iconst 1, 0, 0), (115, 3, .if_icmp .ne 10, 0, 0), (118, 1, .aload_n 0, 0, 0), (119, 3, .invokevirtual 187, 145, 1), (122, 3, .goto 5, 0, 0), (125, 2, .iload 4, 0, 0), (127, 2, .istore 6, 0, 0), (129, 1, .aload_n 0, 0, 0), (130, 3, .invokevirtual 203, 116, 1), (133, 2, .iload 6, 0, 0), (135, 1, .ireturn, 1, 0)]
def kX6_ill : List CE := [(0, 1, .aload_n 0, 0, 0), (1, 1, .iload_n 1, 0, 0), (2, 3, .invokevirtual 172, 112, 2), (5, 3, .ifCond .ne 5, 0, 0), (8, 1, .iconst (-1), 0, 0), (9, 1, .ireturn, 1, 0), (10, 1, .aload_n 0, 0, 0), (11, 1, .iload_n 1, 0, 0), (12, 3, .invokevirtual 133, 114, 2), (15, 3, .ifCond .ne 6, 0, 0), (18, 2, .bipush (-5), 0, 0), (20, 1, .ireturn, 1, 0), (21, 1, .aload_n 0, 0, 0), (22, 3, .getfield 9, 6, 1), (25, 1, .iconst 1, 0, 0), (26, 1, .iload_n 1, 0, 0), (27, 1, .iadd, 0, 0), (28, 1, .iaload, 0, 0), (29, 1, .istore_n 2, 0, 0), (30, 1, .aload_n 0, 0, 0), (31, 3, .getfield 9, 6, 1), (34, 1, .iconst 1, 0, 0), (35, 1, .iload_n 1, 0, 0), (36, 1, .iadd, 0, 0), (37, 1, .iconst (-1), 0, 0), (38, 1, .iastore, 0, 0), (39, 1, .iconst (-1), 0, 0), (40, 1, .istore_n 3, 0, 0), (41, 2, .bipush (-5), 0, 0), (43, 2, .istore 4, 0, 0), (45, 1, .iconst 0, 0, 0), (46, 2, .istore 5, 0, 0), (48, 2, .iload 5, 0, 0), (50, 1, .aload_n 0, 0, 0), (51, 3, .getfield 9, 6, 1), (54, 2, .bipush 19, 0, 0), (56, 1, .iaload, 0, 0), (57, 3, .if_icmp .ge 72, 0, 0), (60, 2, .iload 5, 0, 0), (62, 1, .iload_n 1, 0, 0), (63, 3, .if_icmp .eq 60, 0, 0), (66, 1, .aload_n 0, 0, 0), (67, 2, .iload 5, 0, 0), (69, 3, .invokevirtual 133, 114, 2), (72, 3, .ifCond .ne 51, 0, 0), (75, 1, .aload_n 0, 0, 0), (76, 2, .iload 5, 0, 0), (78, 3, .invokevirtual 212, 164, 2), (81, 1, .aload_n 0, 0, 0), (82, 3, .getfield 209, 6, 14), (85, 1, .iload_n 3, 0, 0), (86, 3, .if_icmp .le 16, 0, 0), (89, 2, .bipush 100, 0, 0), (91, 2, .iload 5, 0, 0), (93, 1, .imul, 0, 0), (94, 1, .aload_n 0, 0, 0), (95, 3, .getfield 206, 6, 13), (98, 1, .iadd, 0, 0), (99, 3, .goto 5, 0, 0), (102, 2, .iload 4, 0, 0), (104, 2, .istore 4, 0, 0), (106, 1, .aload_n 0, 0, 0), (107, 3, .getfield 209, 6, 14), (110, 1, .iload_n 3, 0, 0), (111, 3, .if_icmp .le 10, 0, 0), (114, 1, .aload_n 0, 0, 0), (115, 3, .getfield 209, 6, 14), (118, 3, .goto 4, 0, 0), (121, 1, .iload_n 3, 0, 0), (122, 1, .istore_n 3, 0, 0), (123, 3, .iinc 5 1, 0, 0), (126, 3, .goto (-78), 0, 0), (129, 1, .aload_n 0, 0, 0), (130, 3, .getfield 9, 6, 1), (133, 1, .iconst 1, 0, 0), (134, 1, .iload_n 1, 0, 0), (135, 1, .iadd, 0, 0), (136, 1, .iload_n 2, 0, 0), (137, 1, .iastore, 0, 0), (138, 2, .iload 4, 0, 0), (140, 1, .ireturn, 1, 0)]
def kX6_goesRound : List CE := [(0, 1, .aload_n 0, 0, 0), (1, 3, .getfield 9, 6, 1), (4, 2, .bipush 19, 0, 0), (6, 1, .iaload, 0, 0), (7, 1, .istore_n 1, 0, 0), (8, 1, .iconst 0, 0, 0), (9, 1, .istore_n 2, 0, 0), (10, 1, .iload_n 2, 0, 0), (11, 1, .iload_n 1, 0, 0), (12, 3, .if_icmp .ge 23, 0, 0), (15, 1, .aload_n 0, 0, 0), (16, 3, .getfield 37, 6, 17), (19, 1, .iload_n 2, 0, 0), (20, 1, .aload_n 0, 0, 0), (21, 3, .getfield 9, 6, 1), (24, 1, .iconst 1, 0, 0), (25, 1, .iload_n 2, 0, 0), (26, 1, .iadd, 0, 0), (27, 1, .iaload, 0, 0), (28, 1, .iastore, 0, 0), (29, 3, .iinc 2 1, 0, 0), (32, 3, .goto (-22), 0, 0), (35, 1, .iconst 0, 0, 0), (36, 1, .istore_n 2, 0, 0), (37, 1, .iload_n 2, 0, 0), (38, 1, .iload_n 1, 0, 0), (39, 3, .if_icmp .ge 44, 0, 0), (42, 1, .aload_n 0, 0, 0), (43, 3, .getfield 37, 6, 17), (46, 1, .iload_n 2, 0, 0), (47, 1, .iload_n 1, 0, 0), (48, 1, .iadd, 0, 0), (49, 1, .iconst 1, 0, 0), (50, 1, .isub, 0, 0), (51, 1, .iload_n 1, 0, 0), (52, 1, .irem, 0, 0), (53, 1, .iaload, 0, 0), (54, 1, .istore_n 3, 0, 0), (55, 1, .aload_n 0, 0, 0), (56, 3, .getfield 9, 6, 1), (59, 1, .iconst 1, 0, 0), (60, 1, .iload_n 2, 0, 0), (61, 1, .iadd, 0, 0), (62, 1, .aload_n 0, 0, 0), (63, 1, .iload_n 2, 0, 0), (64, 1, .iload_n 3, 0, 0), (65, 3, .invokevirtual 175, 150, 3), (68, 3, .ifCond .eq 7, 0, 0), (71, 1, .iload_n 3, 0, 0), (72, 3, .goto 4, 0, 0), (75, 1, .iconst (-1), 0, 0), (76, 1, .iastore, 0, 0), (77, 3, .iinc 2 1, 0, 0), (80, 3, .goto (-43), 0, 0), (83, 1, .return_, 0, 0)]
def kX6_canon : List CE := [(0, 1, .iload_n 2, 0, 0), (1, 1, .iconst 0, 0, 0), (2, 1, .iconst 1, 0, 0), (3, 3, .invokestatic 47, 111, 3), (6, 3, .ifCond .ne 5, 0, 0), (9, 1, .iconst (-1), 0, 0), (10, 1, .ireturn, 1, 0), (11, 1, .iload_n 1, 0, 0), (12, 1, .iconst 1, 0, 0), (13, 2, .bipush 30, 0, 0), (15, 3, .invokestatic 47, 111, 3), (18, 3, .ifCond .ne 6, 0, 0), (21, 2, .bipush (-2), 0, 0), (23, 1, .ireturn, 1, 0), (24, 1, .aload_n 0, 0, 0), (25, 3, .invokevirtual 200, 115, 1), (28, 2, .ldc 221, 0, 100000000), (30, 1, .istore_n 3, 0, 0), (31, 1, .iconst 0, 0, 0), (32, 2, .istore 4, 0, 0), (34, 2, .iload 4, 0, 0), (36, 1, .iload_n 1, 0, 0), (37, 3, .if_icmp .ge 37, 0, 0), (40, 1, .aload_n 0, 0, 0), (41, 3, .invokevirtual 181, 142, 1), (44, 2, .istore 5, 0, 0), (46, 2, .iload 5, 0, 0), (48, 1, .iload_n 3, 0, 0), (49, 3, .if_icmp .ge 8, 0, 0), (52, 2, .iload 5, 0, 0), (54, 3, .goto 4, 0, 0), (57, 1, .iload_n 3, 0, 0), (58, 1, .istore_n 3, 0, 0), (59, 1, .aload_n 0, 0, 0), (60, 3, .invokevirtual 197, 160, 1), (63, 1, .pop, 0, 0), (64, 1, .aload_n 0, 0, 0), (65, 3, .invokevirtual 231, 175, 1), (68, 3, .iinc 4 1, 0, 0), (71, 3, .goto (-37), 0, 0), (74, 1, .aload_n 0, 0, 0), (75, 3, .invokevirtual 187, 145, 1), (78, 2, .istore 4, 0, 0), (80, 1, .aload_n 0, 0, 0), (81, 3, .invokevirtual 203, 116, 1), (84, 1, .iload_n 2, 0, 0), (85, 3, .ifCond .ne 8, 0, 0), (88, 2, .iload 4, 0, 0), (90, 3, .goto 4, 0, 0), (93, 1, .iload_n 3, 0, 0), (94, 1, .ireturn, 1, 0)]
def kX6_weightOf : List CE := [(0, 1, .iconst 0, 0, 0), (1, 1, .istore_n 2, 0, 0), (2, 1, .iconst 0, 0, 0), (3, 1, .istore_n 3, 0, 0), (4, 1, .iload_n 3, 0, 0), (5, 1, .aload_n 0, 0, 0), (6, 3, .getfield 9, 6, 1), (9, 2, .bipush 20, 0, 0), (11, 1, .iaload, 0, 0), (12, 3, .if_icmp .ge 41, 0, 0), (15, 1, .iload_n 2, 0, 0), (16, 1, .aload_n 0, 0, 0), (17, 1, .iload_n 3, 0, 0), (18, 3, .invokevirtual 166, 143, 2), (21, 3, .ifCond .eq 23, 0, 0), (24, 1, .iload_n 1, 0, 0), (25, 1, .iload_n 3, 0, 0), (26, 1, .ishr, 0, 0), (27, 1, .iconst 1, 0, 0), (28, 1, .iand, 0, 0), (29, 3, .ifCond .ne 15, 0, 0), (32, 1, .aload_n 0, 0, 0), (33, 3, .getfield 9, 6, 1), (36, 2, .bipush 69, 0, 0), (38, 1, .iload_n 3, 0, 0), (39, 1, .iadd, 0, 0), (40, 1, .iaload, 0, 0), (41, 3, .goto 4, 0, 0), (44, 1, .iconst 0, 0, 0), (45, 1, .iadd, 0, 0), (46, 1, .istore_n 2, 0, 0), (47, 3, .iinc 3 1, 0, 0), (50, 3, .goto (-46), 0, 0), (53, 1, .iload_n 2, 0, 0), (54, 1, .ireturn, 1, 0)]
def kX6_props : List CE := [(0, 1, .iload_n 1, 0, 0), (1, 1, .iconst 0, 0, 0), (2, 1, .iconst 3, 0, 0), (3, 3, .invokestatic 47, 111, 3), (6, 3, .ifCond .ne 6, 0, 0), (9, 2, .bipush (-2), 0, 0), (11, 1, .ireturn, 1, 0), (12, 1, .aload_n 0, 0, 0), (13, 3, .invokevirtual 181, 142, 1), (16, 1, .istore_n 2, 0, 0), (17, 2, .ldc 221, 0, 100000000), (19, 1, .istore_n 3, 0, 0), (20, 1, .iconst 0, 0, 0), (21, 2, .istore 4, 0, 0), (23, 2, .iload 4, 0, 0), (25, 2, .bipush 64, 0, 0), (27, 3, .if_icmp .ge 38, 0, 0), (30, 1, .aload_n 0, 0, 0), (31, 2, .iload 4, 0, 0), (33, 3, .invokevirtual 234, 177, 2), (36, 1, .iload_n 2, 0, 0), (37, 3, .if_icmp .gt 20, 0, 0), (40, 2, .iload 4, 0, 0), (42, 3, .invokestatic 190, 146, 1), (45, 1, .iload_n 3, 0, 0), (46, 3, .if_icmp .ge 11, 0, 0), (49, 2, .iload 4, 0, 0), (51, 3, .invokestatic 190, 146, 1), (54, 3, .goto 4, 0, 0), (57, 1, .iload_n 3, 0, 0), (58, 1, .istore_n 3, 0, 0), (59, 3, .iinc 4 1, 0, 0), (62, 3, .goto (-39), 0, 0), (65, 1, .iload_n 3, 0, 0), (66, 1, .iload_n 1, 0, 0), (67, 3, .if_icmp .le 8, 0, 0), (70, 2, .bipush (-5), 0, 0), (72, 3, .goto 4, 0, 0), (75, 1, .iload_n 3, 0, 0), (76, 1, .ireturn, 1, 0)]
def kX6_critical : List CE := [(0, 1, .iload_n 1, 0, 0), (1, 1, .iconst 0, 0, 0), (2, 1, .iconst 1, 0, 0), (3, 3, .invokestatic 47, 111, 3), (6, 3, .ifCond .ne 5, 0, 0), (9, 1, .iconst (-1), 0, 0), (10, 1, .ireturn, 1, 0), (11, 1, .aload_n 0, 0, 0), (12, 3, .invokevirtual 237, 171, 1), (15, 1, .istore_n 2, 0, 0), (16, 1, .aload_n 0, 0, 0), (17, 2, .bipush 63, 0, 0), (19, 3, .invokevirtual 222, 170, 2), (22, 1, .istore_n 3, 0, 0), (23, 1, .iconst 0, 0, 0), (24, 2, .istore 4, 0, 0), (26, 2, .bipush (-5), 0, 0), (28, 2, .istore 5, 0, 0), (30, 1, .iconst 0, 0, 0), (31, 2, .istore 6, 0, 0), (33, 2, .iload 6, 0, 0), (35, 1, .aload_n 0, 0, 0), (36, 3, .getfield 9, 6, 1), (39, 2, .bipush 19, 0, 0), (41, 1, .iaload, 0, 0), (42, 3, .if_icmp .ge 124, 0, 0), (45, 2, .iload 6, 0, 0), (47, 1, .iconst 1, 0, 0), (48, 1, .iadd, 0, 0), (49, 2, .istore 7, 0, 0), (51, 2, .iload 7, 0, 0), (53, 1, .aload_n 0, 0, 0), (54, 3, .getfield 9, 6, 1), (57, 2, .bipush 19, 0, 0), (59, 1, .iaload, 0, 0), (60, 3, .if_icmp .ge 100, 0, 0), (63, 1, .iload_n 2, 0, 0), (64, 2, .iload 6, 0, 0), (66, 1, .ishr, 0, 0), (67, 1, .iconst 1, 0, 0), (68, 1, .iand, 0, 0), (69, 1, .iconst 1, 0, 0), (70, 3, .if_icmp .ne 41, 0, 0), (73, 1, .iload_n 2, 0, 0), (74, 2, .iload 7, 0, 0), (76, 1, .ishr, 0, 0), (77, 1, .iconst 1, 0, 0), (78, 1, .iand, 0, 0), (79, 1, .iconst 1, 0, 0), (80, 3, .if_icmp .ne 31, 0, 0), (83, 1, .aload_n 0, 0, 0), (84, 2, .bipush 63, 0, 0), (86, 1, .iconst 1, 0, 0), (87, 2, .iload 6, 0, 0), (89, 1, .ishl, 0, 0), (90, 1, .iconst (-1), 0, 0), (91, 1, .ixor, 0, 0), (92, 1, .iand, 0, 0), (93, 1, .iconst 1, 0, 0), (94, 2, .iload 7, 0, 0), (96, 1, .ishl, 0, 0), (97, 1, .iconst (-1), 0, 0), (98, 1, .ixor, 0, 0), (99, 1, .iand, 0, 0), (100, 3, .invokevirtual 222, 170, 2), (103, 1, .iload_n 3, 0, 0), (104, 3, .if_icmp .le 7, 0, 0), (107, 1, .iconst 1, 0, 0), (108, 3, .goto 4, 0, 0), (111, 1, .iconst 0, 0, 0), (112, 2, .istore 8, 0, 0), (114, 2, .iload 8, 0, 0), (116, 3, .ifCond .eq 19, 0, 0), (119, 2, .iload 4, 0, 0), (121, 3, .ifCond .ne 14, 0, 0), (124, 2, .bipush 10, 0, 0), (126, 2, .iload 6, 0, 0), (128, 1, .imul, 0, 0), (129, 2, .iload 7, 0, 0), (131, 1, .iadd, 0, 0), (132, 3, .goto 5, 0, 0), (135, 2, .iload 5, 0, 0), (137, 2, .istore 5, 0, 0), (139, 2, .iload 4, 0, 0), (141, 2, .iload 8, 0, 0), (143, 3, .ifCond .eq 7, 0, 0), (146, 1, .iconst 1, 0, 0), (147, 3, .goto 4, 0, 0), (150, 1, .iconst 0, 0, 0), (151, 1, .iadd, 0, 0), (152, 2, .istore 4, 0, 0), (154, 3, .iinc 7 1, 0, 0), (157, 3, .goto (-106), 0, 0), (160, 3, .iinc 6 1, 0, 0), (163, 3, .goto (-130), 0, 0), (166, 1, .iload_n 1, 0, 0), (167, 3, .ifCond .ne 8, 0, 0), (170, 2, .iload 4, 0, 0), (172, 3, .goto 5, 0, 0), (175, 2, .iload 5, 0, 0), (177, 1, .ireturn, 1, 0)]
def kX6_load : List CE := [(0, 1, .aload_n 0, 0, 0), (1, 3, .invokevirtual 240, 147, 1), (4, 1, .aload_n 0, 0, 0), (5, 3, .invokevirtual 181, 142, 1), (8, 1, .isub, 0, 0), (9, 1, .ireturn, 1, 0)]
def kX6_dust : List CE := [(0, 1, .iload_n 1, 0, 0), (1, 1, .iconst (-1), 0, 0), (2, 3, .if_icmp .ne 13, 0, 0), (5, 1, .aload_n 0, 0, 0), (6, 3, .getfield 9, 6, 1), (9, 2, .bipush 22, 0, 0), (11, 1, .iconst 0, 0, 0), (12, 1, .iastore, 0, 0), (13, 1, .iconst 0, 0, 0), (14, 1, .ireturn, 1, 0), (15, 1, .iload_n 1, 0, 0), (16, 1, .iconst 0, 0, 0), (17, 2, .bipush 40, 0, 0), (19, 3, .invokestatic 47, 111, 3), (22, 3, .ifCond .eq 13, 0, 0), (25, 1, .iload_n 2, 0, 0), (26, 1, .iconst 0, 0, 0), (27, 2, .bipush 6, 0, 0), (29, 3, .invokestatic 47, 111, 3), (32, 3, .ifCond .ne 6, 0, 0), (35, 2, .bipush (-2), 0, 0), (37, 1, .ireturn, 1, 0), (38, 1, .aload_n 0, 0, 0), (39, 3, .getfield 9, 6, 1), (42, 2, .bipush 22, 0, 0), (44, 1, .iaload, 0, 0), (45, 2, .bipush 6, 0, 0), (47, 3, .if_icmp .ne 6, 0, 0), (50, 2, .bipush (-4), 0, 0), (52, 1, .ireturn, 1, 0), (53, 1, .aload_n 0, 0, 0), (54, 3, .getfield 9, 6, 1), (57, 2, .bipush 81, 0, 0), (59, 1, .aload_n 0, 0, 0), (60, 3, .getfield 9, 6, 1), (63, 2, .bipush 22, 0, 0), (65, 1, .iaload, 0, 0), (66, 1, .iadd, 0, 0), (67, 1, .iload_n 1, 0, 0), (68, 1, .iastore, 0, 0), (69, 1, .aload_n 0, 0, 0), (70, 3, .getfield 9, 6, 1), (73, 2, .bipush 87, 0, 0), (75, 1, .aload_n 0, 0, 0), (76, 3, .getfield 9, 6, 1), (79, 2, .bipush 22, 0, 0), (81, 1, .iaload, 0, 0), (82, 1, .iadd, 0, 0), (83, 1, .iload_n 2, 0, 0), (84, 1, .iastore, 0, 0), (85, 1, .aload_n 0, 0, 0), (86, 3, .getfield 9, 6, 1), (89, 2, .bipush 22, 0, 0), (91, 1, .dup2, 0, 0), (92, 1, .iaload, 0, 0), (93, 1, .iconst 1, 0, 0), (94, 1, .iadd, 0, 0), (95, 1, .iastore, 0, 0), (96, 1, .aload_n 0, 0, 0), (97, 3, .getfield 9, 6, 1), (100, 2, .bipush 22, 0, 0), (102, 1, .iaload, 0, 0), (103, 1, .ireturn, 1, 0)]
def kX6_isDust : List CE := [(0, 1, .iconst 1, 0, 0), (1, 1, .istore_n 2, 0, 0), (2, 1, .iconst 0, 0, 0), (3, 1, .istore_n 3, 0, 0), (4, 1, .iload_n 3, 0, 0), (5, 1, .aload_n 0, 0, 0), (6, 3, .getfield 9, 6, 1), (9, 2, .bipush 22, 0, 0), (11, 1, .iaload, 0, 0), (12, 3, .if_icmp .ge 48, 0, 0), (15, 1, .iload_n 2, 0, 0), (16, 3, .ifCond .eq 36, 0, 0), (19, 1, .aload_n 0, 0, 0), (20, 3, .getfield 9, 6, 1), (23, 2, .bipush 81, 0, 0), (25, 1, .iload_n 3, 0, 0), (26, 1, .iadd, 0, 0), (27, 1, .iaload, 0, 0), (28, 1, .iload_n 1, 0, 0), (29, 3, .if_icmp .ne 19, 0, 0), (32, 1, .aload_n 0, 0, 0), (33, 3, .getfield 9, 6, 1), (36, 2, .bipush 87, 0, 0), (38, 1, .iload_n 3, 0, 0), (39, 1, .iadd, 0, 0), (40, 1, .iaload, 0, 0), (41, 1, .aload_n 0, 0, 0), (42, 3, .invokevirtual 187, 145, 1), (45, 3, .if_icmp .ne 7, 0, 0), (48, 1, .iconst 1, 0, 0), (49, 3, .goto 4, 0, 0), (52, 1, .iconst 0, 0, 0), (53, 1, .istore_n 2, 0, 0), (54, 3, .iinc 3 1, 0, 0), (57, 3, .goto (-53), 0, 0), (60, 1, .iload_n 2, 0, 0), (61, 1, .ireturn, 2, 0)]
def kX6_isFlat : List CE := [(0, 1, .aload_n 0, 0, 0), (1, 3, .invokevirtual 200, 115, 1), (4, 1, .aload_n 0, 0, 0), (5, 3, .getfield 9, 6, 1), (8, 1, .iconst 1, 0, 0), (9, 1, .iload_n 1, 0, 0), (10, 1, .iadd, 0, 0), (11, 1, .dup2, 0, 0), (12, 1, .iaload, 0, 0), (13, 1, .aload_n 0, 0, 0), (14, 3, .getfield 9, 6, 1), (17, 1, .iconst 1, 0, 0), (18, 1, .iload_n 1, 0, 0), (19, 1, .iadd, 0, 0), (20, 1, .iaload, 0, 0), (21, 3, .ifCond .le 7, 0, 0), (24, 1, .iconst 1, 0, 0), (25, 3, .goto 4, 0, 0), (28, 1, .iconst 0, 0, 0), (29, 1, .isub, 0, 0), (30, 1, .iastore, 0, 0), (31, 1, .iconst 1, 0, 0), (32, 1, .istore_n 2, 0, 0), (33, 1, .iconst 0, 0, 0), (34, 1, .istore_n 3, 0, 0), (35, 1, .iload_n 3, 0, 0), (36, 2, .bipush 40, 0, 0), (38, 3, .if_icmp .gt 24, 0, 0), (41, 1, .iload_n 2, 0, 0), (42, 3, .ifCond .eq 20, 0, 0), (45, 1, .aload_n 0, 0, 0), (46, 1, .iload_n 3, 0, 0), (47, 3, .invokevirtual 243, 182, 2), (50, 1, .istore_n 2, 0, 0), (51, 1, .aload_n 0, 0, 0), (52, 3, .invokevirtual 197, 160, 1), (55, 1, .pop, 0, 0), (56, 3, .iinc 3 1, 0, 0), (59, 3, .goto (-24), 0, 0), (62, 1, .aload_n 0, 0, 0), (63, 3, .invokevirtual 203, 116, 1), (66, 1, .iload_n 2, 0, 0), (67, 1, .ireturn, 2, 0)]
def kX6_flat : List CE := [(0, 1, .iconst 0, 0, 0), (1, 1, .istore_n 1, 0, 0), (2, 1, .iconst 0, 0, 0), (3, 1, .istore_n 2, 0, 0), (4, 1, .iload_n 2, 0, 0), (5, 1, .aload_n 0, 0, 0), (6, 3, .getfield 9, 6, 1), (9, 2, .bipush 19, 0, 0), (11, 1, .iaload, 0, 0), (12, 3, .if_icmp .ge 45, 0, 0), (15, 1, .iload_n 1, 0, 0), (16, 1, .aload_n 0, 0, 0), (17, 1, .iload_n 2, 0, 0), (18, 3, .invokevirtual 133, 114, 2), (21, 3, .ifCond .eq 27, 0, 0), (24, 1, .aload_n 0, 0, 0), (25, 3, .getfield 9, 6, 1), (28, 2, .bipush 22, 0, 0), (30, 1, .iaload, 0, 0), (31, 3, .ifCond .eq 11, 0, 0), (34, 1, .aload_n 0, 0, 0), (35, 1, .iload_n 2, 0, 0), (36, 3, .invokevirtual 246, 183, 2), (39, 3, .ifCond .eq 9, 0, 0), (42, 1, .iconst 1, 0, 0), (43, 1, .iload_n 2, 0, 0), (44, 1, .ishl, 0, 0), (45, 3, .goto 4, 0, 0), (48, 1, .iconst 0, 0, 0), (49, 1, .ior, 0, 0), (50, 1, .istore_n 1, 0, 0), (51, 3, .iinc 2 1, 0, 0), (54, 3, .goto (-50), 0, 0), (57, 1, .iload_n 1, 0, 0), (58, 1, .ireturn, 1, 0)]
def kX6_lightest : List CE := [(0, 1, .iconst 0, 0, 0), (1, 1, .istore_n 2, 0, 0), (2, 1, .iload_n 2, 0, 0), (3, 1, .aload_n 0, 0, 0), (4, 3, .getfield 9, 6, 1), (7, 2, .bipush 20, 0, 0), (9, 1, .iaload, 0, 0), (10, 3, .if_icmp .ge 114, 0, 0), (13, 1, .iconst 0, 0, 0), (14, 1, .istore_n 3, 0, 0), (15, 1, .iconst 0, 0, 0), (16, 2, .istore 4, 0, 0), (18, 2, .iload 4, 0, 0), (20, 1, .aload_n 0, 0, 0), (21, 3, .getfield 9, 6, 1), (24, 2, .bipush 20, 0, 0), (26, 1, .iaload, 0, 0), (27, 3, .if_icmp .ge 76, 0, 0), (30, 1, .iload_n 3, 0, 0), (31, 1, .aload_n 0, 0, 0), (32, 2, .iload 4, 0, 0), (34, 3, .invokevirtual 166, 143, 2), (37, 3, .ifCond .eq 57, 0, 0), (40, 1, .aload_n 0, 0, 0), (41, 3, .getfield 9, 6, 1), (44, 2, .bipush 69, 0, 0), (46, 2, .iload 4, 0, 0), (48, 1, .iadd, 0, 0), (49, 1, .iaload, 0, 0), (50, 1, .aload_n 0, 0, 0), (51, 3, .getfield 9, 6, 1), (54, 2, .bipush 69, 0, 0), (56, 1, .iload_n 2, 0, 0), (57, 1, .iadd, 0, 0), (58, 1, .iaload, 0, 0), (59, 3, .if_icmp .lt 31, 0, 0), (62, 1, .aload_n 0, 0, 0), (63, 3, .getfield 9, 6, 1), (66, 2, .bipush 69, 0, 0), (68, 2, .iload 4, 0, 0), (70, 1, .iadd, 0, 0), (71, 1, .iaload, 0, 0), (72, 1, .aload_n 0, 0, 0), (73, 3, .getfield 9, 6, 1), (76, 2, .bipush 69, 0, 0), (78, 1, .iload_n 2, 0, 0), (79, 1, .iadd, 0, 0), (80, 1, .iaload, 0, 0), (81, 3, .if_icmp .ne 13, 0, 0), (84, 2, .iload 4, 0, 0), (86, 1, .iload_n 2, 0, 0), (87, 3, .if_icmp .ge 7, 0, 0), (90, 1, .iconst 1, 0, 0), (91, 3, .goto 4, 0, 0), (94, 1, .iconst 0, 0, 0), (95, 1, .iadd, 0, 0), (96, 1, .istore_n 3, 0, 0), (97, 3, .iinc 4 1, 0, 0), (100, 3, .goto (-82), 0, 0), (103, 1, .aload_n 0, 0, 0), (104, 1, .iload_n 2, 0, 0), (105, 3, .invokevirtual 166, 143, 2), (108, 3, .ifCond .eq 10, 0, 0), (111, 1, .iload_n 3, 0, 0), (112, 1, .iload_n 1, 0, 0), (113, 3, .if_icmp .ne 5, 0, 0), (116, 1, .iload_n 2, 0, 0), (117, 1, .ireturn, 1, 0), (118, 3, .iinc 2 1, 0, 0), (121, 3, .goto (-119), 0, 0), (124, 2, .bipush (-5), 0, 0), (126, 1, .ireturn, 1, 0)]
def kX6_order : List CE := [(0, 1, .iload_n 1, 0, 0), (1, 1, .iconst (-1), 0, 0), (2, 1, .iconst 5, 0, 0), (3, 3, .invokestatic 47, 111, 3), (6, 3, .ifCond .ne 5, 0, 0), (9, 1, .iconst (-1), 0, 0), (10, 1, .ireturn, 1, 0), (11, 1, .iload_n 1, 0, 0), (12, 1, .iconst (-1), 0, 0), (13, 3, .if_icmp .eq 9, 0, 0), (16, 1, .aload_n 0, 0, 0), (17, 1, .iload_n 1, 0, 0), (18, 3, .invokevirtual 249, 185, 2), (21, 1, .ireturn, 1, 0), (22, 1, .aload_n 0, 0, 0), (23, 3, .invokevirtual 181, 142, 1), (26, 1, .istore_n 2, 0, 0), (27, 1, .iconst 0, 0, 0), (28, 1, .istore_n 3, 0, 0), (29, 1, .iconst 0, 0, 0), (30, 2, .istore 4, 0, 0), (32, 1, .iconst 0, 0, 0), (33, 2, .istore 5, 0, 0), (35, 2, .iload 5, 0, 0), (37, 2, .bipush 6, 0, 0), (39, 3, .if_icmp .ge 52, 0, 0), (42, 1, .aload_n 0, 0, 0), (43, 2, .iload 5, 0, 0), (45, 3, .invokevirtual 249, 185, 2), (48, 2, .istore 6, 0, 0), (50, 2, .iload 6, 0, 0), (52, 2, .bipush (-5), 0, 0), (54, 3, .if_icmp .eq 31, 0, 0), (57, 1, .iload_n 3, 0, 0), (58, 1, .aload_n 0, 0, 0), (59, 3, .getfield 9, 6, 1), (62, 2, .bipush 69, 0, 0), (64, 2, .iload 6, 0, 0), (66, 1, .iadd, 0, 0), (67, 1, .iaload, 0, 0), (68, 1, .iadd, 0, 0), (69, 1, .istore_n 3, 0, 0), (70, 2, .iload 4, 0, 0), (72, 1, .iload_n 3, 0, 0), (73, 1, .iload_n 2, 0, 0), (74, 3, .if_icmp .le 7, 0, 0), (77, 1, .iconst 1, 0, 0), (78, 3, .goto 4, 0, 0), (81, 1, .iconst 0, 0, 0), (82, 1, .iadd, 0, 0), (83, 2, .istore 4, 0, 0), (85, 3, .iinc 5 1, 0, 0), (88, 3, .goto (-53), 0, 0), (91, 2, .iload 4, 0, 0), (93, 1, .ireturn, 1, 0)]
def kX6_lowest : List CE := [(0, 1, .lload_n 0, 0, 0), (1, 1, .lconst 0, 0, 0), (2, 1, .lcmp, 0, 0), (3, 3, .ifCond .ge 8, 0, 0), (6, 1, .lload_n 0, 0, 0), (7, 1, .lneg, 0, 0), (8, 3, .goto 4, 0, 0), (11, 1, .lload_n 0, 0, 0), (12, 2, .lstore 5, 0, 0), (14, 1, .lload_n 2, 0, 0), (15, 2, .lstore 7, 0, 0), (17, 2, .lload 7, 0, 0), (19, 1, .lconst 0, 0, 0), (20, 1, .lcmp, 0, 0), (21, 3, .ifCond .eq 21, 0, 0), (24, 2, .lload 5, 0, 0), (26, 2, .lload 7, 0, 0), (28, 1, .lrem, 0, 0), (29, 2, .lstore 9, 0, 0), (31, 2, .lload 7, 0, 0), (33, 2, .lstore 5, 0, 0), (35, 2, .lload 9, 0, 0), (37, 2, .lstore 7, 0, 0), (39, 3, .goto (-22), 0, 0), (42, 2, .iload 4, 0, 0), (44, 3, .ifCond .ne 7, 0, 0), (47, 1, .lload_n 0, 0, 0), (48, 3, .goto 4, 0, 0), (51, 1, .lload_n 2, 0, 0), (52, 2, .lload 5, 0, 0), (54, 1, .ldiv, 0, 0), (55, 1, .lreturn, 0, 0)]
def kX6_odds : List CE := [(0, 1, .iload_n 1, 0, 0), (1, 1, .iconst 0, 0, 0), (2, 1, .iconst 1, 0, 0), (3, 3, .invokestatic 47, 111, 3), (6, 3, .ifCond .eq 13, 0, 0), (9, 1, .aload_n 0, 0, 0), (10, 3, .getfield 9, 6, 1), (13, 2, .bipush 19, 0, 0), (15, 1, .iaload, 0, 0), (16, 3, .ifCond .ne 7, 0, 0), (19, 3, .ldc2_w 252, 0, 0), (22, 1, .lreturn, 0, 0), (23, 1, .aload_n 0, 0, 0), (24, 3, .invokevirtual 160, 136, 1), (27, 1, .lconst 0, 0, 0), (28, 1, .lstore_n 2, 0, 0), (29, 1, .iconst 0, 0, 0), (30, 2, .istore 4, 0, 0), (32, 2, .iload 4, 0, 0), (34, 1, .aload_n 0, 0, 0), (35, 3, .getfield 9, 6, 1), (38, 2, .bipush 19, 0, 0), (40, 1, .iaload, 0, 0), (41, 3, .if_icmp .ge 33, 0, 0), (44, 1, .lload_n 2, 0, 0), (45, 1, .aload_n 0, 0, 0), (46, 2, .bipush 63, 0, 0), (48, 1, .iconst 1, 0, 0), (49, 2, .iload 4, 0, 0), (51, 1, .ishl, 0, 0), (52, 1, .iconst (-1), 0, 0), (53, 1, .ixor, 0, 0), (54, 1, .iand, 0, 0), (55, 3, .invokevirtual 222, 170, 2), (58, 3, .ifCond .ne 7, 0, 0), (61, 1, .lconst 1, 0, 0), (62, 3, .goto 4, 0, 0), (65, 1, .lconst 0, 0, 0), (66, 1, .ladd, 0, 0), (67, 1, .lstore_n 2, 0, 0), (68, 3, .iinc 4 1, 0, 0), (71, 3, .goto (-39), 0, 0), (74, 1, .lload_n 2, 0, 0), (75, 1, .aload_n 0, 0, 0), (76, 3, .getfield 9, 6, 1), (79, 2, .bipush 19, 0, 0), (81, 1, .iaload, 0, 0), (82, 1, .i2l, 0, 0), (83, 1, .iload_n 1, 0, 0), (84, 3, .invokestatic 254, 187, 3), (87, 1, .lreturn, 0, 0)]
def kX6_mean : List CE := [(0, 1, .iload_n 1, 0, 0), (1, 1, .iconst 1, 0, 0), (2, 2, .bipush 40, 0, 0), (4, 3, .invokestatic 47, 111, 3), (7, 3, .ifCond .eq 12, 0, 0), (10, 1, .iload_n 2, 0, 0), (11, 1, .iconst 0, 0, 0), (12, 1, .iconst 1, 0, 0), (13, 3, .invokestatic 47, 111, 3), (16, 3, .ifCond .ne 7, 0, 0), (19, 3, .ldc2_w 252, 0, 0), (22, 1, .lreturn, 0, 0), (23, 1, .aload_n 0, 0, 0), (24, 3, .invokevirtual 200, 115, 1), (27, 1, .lconst 0, 0, 0), (28, 1, .lstore_n 3, 0, 0), (29, 1, .iconst 0, 0, 0), (30, 2, .istore 5, 0, 0), (32, 2, .iload 5, 0, 0), (34, 1, .iload_n 1, 0, 0), (35, 3, .if_icmp .ge 22, 0, 0), (38, 1, .lload_n 3, 0, 0), (39, 1, .aload_n 0, 0, 0), (40, 3, .invokevirtual 181, 142, 1), (43, 1, .i2l, 0, 0), (44, 1, .ladd, 0, 0), (45, 1, .lstore_n 3, 0, 0), (46, 1, .aload_n 0, 0, 0), (47, 3, .invokevirtual 197, 160, 1), (50, 1, .pop, 0, 0), (51, 3, .iinc 5 1, 0, 0), (54, 3, .goto (-22), 0, 0), (57, 1, .aload_n 0, 0, 0), (58, 3, .invokevirtual 203, 116, 1), (61, 1, .lload_n 3, 0, 0), (62, 1, .iload_n 1, 0, 0), (63, 1, .i2l, 0, 0), (64, 1, .iload_n 2, 0, 0), (65, 3, .invokestatic 254, 187, 3), (68, 1, .lreturn, 0, 0)]
def kX6_wage : List CE := [(0, 1, .aload_n 0, 0, 0), (1, 1, .iload_n 1, 0, 0), (2, 3, .invokevirtual 172, 112, 2), (5, 3, .ifCond .eq 12, 0, 0), (8, 1, .iload_n 2, 0, 0), (9, 1, .iconst 0, 0, 0), (10, 1, .iconst 1, 0, 0), (11, 3, .invokestatic 47, 111, 3), (14, 3, .ifCond .ne 7, 0, 0), (17, 3, .ldc2_w 252, 0, 0), (20, 1, .lreturn, 0, 0), (21, 1, .aload_n 0, 0, 0), (22, 1, .iload_n 1, 0, 0), (23, 3, .invokevirtual 133, 114, 2), (26, 3, .ifCond .ne 10, 0, 0), (29, 1, .lconst 0, 0, 0), (30, 1, .lconst 1, 0, 0), (31, 1, .iload_n 2, 0, 0), (32, 3, .invokestatic 254, 187, 3), (35, 1, .lreturn, 0, 0), (36, 1, .aload_n 0, 0, 0), (37, 3, .invokevirtual 160, 136, 1), (40, 1, .aload_n 0, 0, 0), (41, 3, .invokevirtual 225, 141, 1), (44, 1, .iconst 1, 0, 0), (45, 1, .iload_n 1, 0, 0), (46, 1, .ishl, 0, 0), (47, 1, .iconst (-1), 0, 0), (48, 1, .ixor, 0, 0), (49, 1, .iand, 0, 0), (50, 1, .istore_n 3, 0, 0), (51, 1, .lconst 0, 0, 0), (52, 2, .lstore 4, 0, 0), (54, 1, .lconst 0, 0, 0), (55, 2, .lstore 6, 0, 0), (57, 1, .iconst 0, 0, 0), (58, 2, .istore 8, 0, 0), (60, 2, .iload 8, 0, 0), (62, 1, .iload_n 3, 0, 0), (63, 3, .if_icmp .gt 47, 0, 0), (66, 2, .iload 8, 0, 0), (68, 1, .iload_n 3, 0, 0), (69, 1, .iconst (-1), 0, 0), (70, 1, .ixor, 0, 0), (71, 1, .iand, 0, 0), (72, 3, .ifCond .ne 32, 0, 0), (75, 2, .lload 4, 0, 0), (77, 1, .aload_n 0, 0, 0), (78, 2, .iload 8, 0, 0), (80, 1, .iconst 1, 0, 0), (81, 1, .iload_n 1, 0, 0), (82, 1, .ishl, 0, 0), (83, 1, .ior, 0, 0), (84, 3, .invokevirtual 163, 140, 2), (87, 1, .aload_n 0, 0, 0), (88, 2, .iload 8, 0, 0), (90, 3, .invokevirtual 163, 140, 2), (93, 1, .isub, 0, 0), (94, 1, .i2l, 0, 0), (95, 1, .ladd, 0, 0), (96, 2, .lstore 4, 0, 0), (98, 2, .lload 6, 0, 0), (100, 1, .lconst 1, 0, 0), (101, 1, .ladd, 0, 0), (102, 2, .lstore 6, 0, 0), (104, 3, .iinc 8 1, 0, 0), (107, 3, .goto (-47), 0, 0), (110, 2, .lload 4, 0, 0), (112, 2, .lload 6, 0, 0), (114, 1, .iload_n 2, 0, 0), (115, 3, .invokestatic 254, 187, 3), (118, 1, .lreturn, 0, 0)]
def kX6_plan : List CE := [(0, 1, .iload_n 1, 0, 0), (1, 1, .iconst (-1), 0, 0), (2, 3, .if_icmp .ne 13, 0, 0), (5, 1, .aload_n 0, 0, 0), (6, 3, .getfield 9, 6, 1), (9, 2, .bipush 23, 0, 0), (11, 1, .iconst 0, 0, 0), (12, 1, .iastore, 0, 0), (13, 1, .iconst 0, 0, 0), (14, 1, .ireturn, 1, 0), (15, 1, .aload_n 0, 0, 0), (16, 1, .iload_n 1, 0, 0), (17, 3, .invokevirtual 172, 112, 2), (20, 3, .ifCond .ne 5, 0, 0), (23, 1, .iconst (-1), 0, 0), (24, 1, .ireturn, 1, 0), (25, 1, .iload_n 2, 0, 0), (26, 1, .iconst (-1), 0, 0), (27, 2, .bipush 23, 0, 0), (29, 3, .invokestatic 47, 111, 3), (32, 3, .ifCond .ne 6, 0, 0), (35, 2, .bipush (-2), 0, 0), (37, 1, .ireturn, 1, 0), (38, 1, .aload_n 0, 0, 0), (39, 3, .getfield 9, 6, 1), (42, 2, .bipush 23, 0, 0), (44, 1, .iaload, 0, 0), (45, 2, .bipush 8, 0, 0), (47, 3, .if_icmp .ne 6, 0, 0), (50, 2, .bipush (-4), 0, 0), (52, 1, .ireturn, 1, 0), (53, 1, .aload_n 0, 0, 0), (54, 3, .getfield 9, 6, 1), (57, 2, .bipush 93, 0, 0), (59, 1, .aload_n 0, 0, 0), (60, 3, .getfield 9, 6, 1), (63, 2, .bipush 23, 0, 0), (65, 1, .iaload, 0, 0), (66, 1, .iadd, 0, 0), (67, 1, .iload_n 1, 0, 0), (68, 1, .iastore, 0, 0), (69, 1, .aload_n 0, 0, 0), (70, 3, .getfield 9, 6, 1), (73, 2, .bipush 101, 0, 0), (75, 1, .aload_n 0, 0, 0), (76, 3, .getfield 9, 6, 1), (79, 2, .bipush 23, 0, 0), (81, 1, .iaload, 0, 0), (82, 1, .iadd, 0, 0), (83, 1, .iload_n 2, 0, 0), (84, 1, .iastore, 0, 0), (85, 1, .aload_n 0, 0, 0), (86, 3, .getfield 9, 6, 1), (89, 2, .bipush 23, 0, 0), (91, 1, .dup2, 0, 0), (92, 1, .iaload, 0, 0), (93, 1, .iconst 1, 0, 0), (94, 1, .iadd, 0, 0), (95, 1, .iastore, 0, 0), (96, 1, .aload_n 0, 0, 0), (97, 3, .getfield 9, 6, 1), (100, 2, .bipush 23, 0, 0), (102, 1, .iaload, 0, 0), (103, 1, .ireturn, 1, 0)]
def kX6_planned : List CE := [(0, 1, .iload_n 1, 0, 0), (1, 1, .iconst 0, 0, 0), (2, 1, .iconst 1, 0, 0), (3, 3, .invokestatic 47, 111, 3), (6, 3, .ifCond .ne 5, 0, 0), (9, 1, .iconst (-1), 0, 0), (10, 1, .ireturn, 1, 0), (11, 1, .aload_n 0, 0, 0), (12, 3, .invokevirtual 200, 115, 1), (15, 1, .iconst 0, 0, 0), (16, 1, .istore_n 2, 0, 0), (17, 1, .iload_n 2, 0, 0), (18, 1, .aload_n 0, 0, 0), (19, 3, .getfield 9, 6, 1), (22, 2, .bipush 23, 0, 0), (24, 1, .iaload, 0, 0), (25, 3, .if_icmp .ge 59, 0, 0), (28, 1, .aload_n 0, 0, 0), (29, 3, .getfield 9, 6, 1), (32, 2, .bipush 93, 0, 0), (34, 1, .iload_n 2, 0, 0), (35, 1, .iadd, 0, 0), (36, 1, .iaload, 0, 0), (37, 1, .istore_n 3, 0, 0), (38, 1, .aload_n 0, 0, 0), (39, 3, .getfield 9, 6, 1), (42, 2, .bipush 101, 0, 0), (44, 1, .iload_n 2, 0, 0), (45, 1, .iadd, 0, 0), (46, 1, .iaload, 0, 0), (47, 2, .istore 4, 0, 0), (49, 1, .aload_n 0, 0, 0), (50, 3, .getfield 9, 6, 1), (53, 1, .iconst 1, 0, 0), (54, 1, .iload_n 3, 0, 0), (55, 1, .iadd, 0, 0), (56, 1, .aload_n 0, 0, 0), (57, 1, .iload_n 3, 0, 0), (58, 2, .iload 4, 0, 0), (60, 3, .invokevirtual 175, 150, 3), (63, 3, .ifCond .eq 8, 0, 0), (66, 2, .iload 4, 0, 0), (68, 3, .goto 4, 0, 0), (71, 1, .iconst (-1), 0, 0), (72, 1, .iastore, 0, 0), (73, 1, .aload_n 0, 0, 0), (74, 3, .invokevirtual 197, 160, 1), (77, 1, .pop, 0, 0), (78, 3, .iinc 2 1, 0, 0), (81, 3, .goto (-64), 0, 0), (84, 1, .iload_n 1, 0, 0), (85, 3, .ifCond .ne 10, 0, 0), (88, 1, .aload_n 0, 0, 0), (89, 3, .invokevirtual 187, 145, 1), (92, 3, .goto 7, 0, 0), (95, 1, .aload_n 0, 0, 0), (96, 3, .invokevirtual 181, 142, 1), (99, 1, .istore_n 2, 0, 0), (100, 1, .aload_n 0, 0, 0), (101, 3, .invokevirtual 203, 116, 1), (104, 1, .iload_n 2, 0, 0), (105, 1, .ireturn, 1, 0)]
def kX6_book : List CE := [(0, 1, .iload_n 1, 0, 0), (1, 1, .iconst (-1), 0, 0), (2, 3, .if_icmp .ne 13, 0, 0), (5, 1, .aload_n 0, 0, 0), (6, 3, .getfield 9, 6, 1), (9, 2, .bipush 24, 0, 0), (11, 1, .iconst 0, 0, 0), (12, 1, .iastore, 0, 0), (13, 1, .iconst 0, 0, 0), (14, 1, .ireturn, 1, 0), (15, 1, .aload_n 0, 0, 0), (16, 1, .iload_n 1, 0, 0), (17, 3, .invokevirtual 172, 112, 2), (20, 3, .ifCond .ne 5, 0, 0), (23, 1, .iconst (-1), 0, 0), (24, 1, .ireturn, 1, 0), (25, 1, .iload_n 2, 0, 0), (26, 1, .iconst 0, 0, 0), (27, 3, .sipush 999, 0, 0), (30, 3, .invokestatic 47, 111, 3), (33, 3, .ifCond .ne 6, 0, 0), (36, 2, .bipush (-2), 0, 0), (38, 1, .ireturn, 1, 0), (39, 1, .aload_n 0, 0, 0), (40, 3, .getfield 9, 6, 1), (43, 2, .bipush 24, 0, 0), (45, 1, .iaload, 0, 0), (46, 2, .bipush 8, 0, 0), (48, 3, .if_icmp .ne 6, 0, 0), (51, 2, .bipush (-4), 0, 0), (53, 1, .ireturn, 1, 0), (54, 1, .aload_n 0, 0, 0), (55, 3, .getfield 9, 6, 1), (58, 2, .bipush 109, 0, 0), (60, 1, .aload_n 0, 0, 0), (61, 3, .getfield 9, 6, 1), (64, 2, .bipush 24, 0, 0), (66, 1, .iaload, 0, 0), (67, 1, .iadd, 0, 0), (68, 1, .iload_n 1, 0, 0), (69, 1, .iastore, 0, 0), (70, 1, .aload_n 0, 0, 0), (71, 3, .getfield 9, 6, 1), (74, 2, .bipush 117, 0, 0), (76, 1, .aload_n 0, 0, 0), (77, 3, .getfield 9, 6, 1), (80, 2, .bipush 24, 0, 0), (82, 1, .iaload, 0, 0), (83, 1, .iadd, 0, 0), (84, 1, .iload_n 2, 0, 0), (85, 1, .iastore, 0, 0), (86, 1, .aload_n 0, 0, 0), (87, 3, .getfield 9, 6, 1), (90, 2, .bipush 24, 0, 0), (92, 1, .dup2, 0, 0), (93, 1, .iaload, 0, 0), (94, 1, .iconst 1, 0, 0), (95, 1, .iadd, 0, 0), (96, 1, .iastore, 0, 0), (97, 1, .aload_n 0, 0, 0), (98, 3, .getfield 9, 6, 1), (101, 2, .bipush 24, 0, 0), (103, 1, .iaload, 0, 0), (104, 1, .ireturn, 1, 0)]
def kX6_looked : List CE := [(0, 1, .aload_n 0, 0, 0), (1, 3, .invokevirtual 160, 136, 1), (4, 1, .iconst 0, 0, 0), (5, 1, .istore_n 1, 0, 0), (6, 1, .iload_n 1, 0, 0), (7, 1, .aload_n 0, 0, 0), (8, 3, .getfield 9, 6, 1), (11, 2, .bipush 24, 0, 0), (13, 1, .iaload, 0, 0), (14, 3, .if_icmp .ge 38, 0, 0), (17, 1, .aload_n 0, 0, 0), (18, 2, .bipush 63, 0, 0), (20, 1, .aload_n 0, 0, 0), (21, 3, .getfield 9, 6, 1), (24, 2, .bipush 109, 0, 0), (26, 1, .iload_n 1, 0, 0), (27, 1, .iadd, 0, 0), (28, 1, .iaload, 0, 0), (29, 3, .invokevirtual 157, 139, 3), (32, 1, .aload_n 0, 0, 0), (33, 3, .getfield 9, 6, 1), (36, 2, .bipush 117, 0, 0), (38, 1, .iload_n 1, 0, 0), (39, 1, .iadd, 0, 0), (40, 1, .iaload, 0, 0), (41, 3, .if_icmp .eq 5, 0, 0), (44, 1, .iload_n 1, 0, 0), (45, 1, .ireturn, 1, 0), (46, 3, .iinc 1 1, 0, 0), (49, 3, .goto (-43), 0, 0), (52, 2, .bipush (-5), 0, 0), (54, 1, .ireturn, 1, 0)]
def kX6_ranBody : List CE := [(0, 1, .aload_n 0, 0, 0), (1, 3, .getfield 258, 6, 19), (4, 2, .bipush 20, 0, 0), (6, 3, .if_icmp .ge 13, 0, 0), (9, 1, .aload_n 0, 0, 0), (10, 3, .getfield 40, 6, 18), (13, 1, .aload_n 0, 0, 0), (14, 3, .getfield 258, 6, 19), (17, 1, .iload_n 1, 0, 0), (18, 1, .iastore, 0, 0), (19, 1, .aload_n 0, 0, 0), (20, 1, .dup, 0, 0), (21, 3, .getfield 258, 6, 19), (24, 1, .iconst 1, 0, 0), (25, 1, .iadd, 0, 0), (26, 3, .putfield 258, 6, 19), (29, 1, .return_, 0, 0)]
def kX6_isUnder : List CE := [(0, 1, .iload_n 1, 0, 0), (1, 3, .ifCond .eq 24, 0, 0), (4, 1, .iload_n 1, 0, 0), (5, 1, .iload_n 0, 0, 0), (6, 3, .if_icmp .eq 19, 0, 0), (9, 1, .iload_n 1, 0, 0), (10, 3, .ifCond .le 19, 0, 0), (13, 1, .iload_n 1, 0, 0), (14, 1, .iconst 4, 0, 0), (15, 3, .if_icmp .ge 14, 0, 0), (18, 1, .iload_n 0, 0, 0), (19, 1, .iload_n 1, 0, 0), (20, 1, .iconst 3, 0, 0), (21, 1, .iadd, 0, 0), (22, 3, .if_icmp .ne 7, 0, 0), (25, 1, .iconst 1, 0, 0), (26, 3, .goto 4, 0, 0), (29, 1, .iconst 0, 0, 0), (30, 1, .ireturn, 2, 0)]
def kX6_plainSings : List CE := [(0, 1, .aload_n 0, 0, 0), (1, 1, .iconst 1, 0, 0), (2, 3, .invokevirtual 261, 195, 2), (5, 1, .iload_n 1, 0, 0), (6, 1, .aload_n 0, 0, 0), (7, 3, .getfield 264, 6, 21), (10, 1, .iadd, 0, 0), (11, 1, .ireturn, 1, 0)]
def kX6_singsActs : List CE := [(0, 1, .aload_n 0, 0, 0), (1, 3, .getfield 267, 6, 20), (4, 1, .iconst 1, 0, 0), (5, 3, .invokestatic 270, 196, 2), (8, 3, .ifCond .eq 17, 0, 0), (11, 1, .aload_n 0, 0, 0), (12, 2, .bipush 11, 0, 0), (14, 3, .invokevirtual 261, 195, 2), (17, 1, .aload_n 0, 0, 0), (18, 1, .iload_n 1, 0, 0), (19, 1, .iconst 3, 0, 0), (20, 1, .imul, 0, 0), (21, 3, .invokevirtual 273, 197, 2), (24, 1, .ireturn, 1, 0), (25, 1, .aload_n 0, 0, 0), (26, 3, .getfield 267, 6, 20), (29, 1, .iconst 5, 0, 0), (30, 3, .if_icmp .ne 20, 0, 0), (33, 1, .aload_n 0, 0, 0), (34, 2, .bipush 51, 0, 0), (36, 3, .invokevirtual 261, 195, 2), (39, 1, .aload_n 0, 0, 0), (40, 1, .iload_n 1, 0, 0), (41, 3, .invokevirtual 273, 197, 2), (44, 1, .aload_n 0, 0, 0), (45, 3, .getfield 264, 6, 21), (48, 1, .ixor, 0, 0), (49, 1, .ireturn, 1, 0), (50, 1, .aload_n 0, 0, 0), (51, 1, .iload_n 1, 0, 0), (52, 3, .invokevirtual 273, 197, 2), (55, 1, .ireturn, 1, 0)]
def kX6_plainBears : List CE := [(0, 1, .aload_n 0, 0, 0), (1, 1, .iconst 2, 0, 0), (2, 3, .invokevirtual 261, 195, 2), (5, 1, .aload_n 0, 0, 0), (6, 1, .iload_n 1, 0, 0), (7, 3, .invokevirtual 276, 198, 2), (10, 1, .aload_n 0, 0, 0), (11, 3, .getfield 279, 6, 22), (14, 1, .isub, 0, 0), (15, 1, .ireturn, 1, 0)]
def kX6_bearsActs : List CE := [(0, 1, .aload_n 0, 0, 0), (1, 3, .getfield 267, 6, 20), (4, 1, .iconst 2, 0, 0), (5, 3, .invokestatic 270, 196, 2), (8, 3, .ifCond .eq 16, 0, 0), (11, 1, .aload_n 0, 0, 0), (12, 2, .bipush 21, 0, 0), (14, 3, .invokevirtual 261, 195, 2), (17, 1, .aload_n 0, 0, 0), (18, 1, .iload_n 1, 0, 0), (19, 3, .invokevirtual 282, 199, 2), (22, 1, .ineg, 0, 0), (23, 1, .ireturn, 1, 0), (24, 1, .aload_n 0, 0, 0), (25, 3, .getfield 267, 6, 20), (28, 2, .bipush 6, 0, 0), (30, 3, .if_icmp .ne 20, 0, 0), (33, 1, .aload_n 0, 0, 0), (34, 2, .bipush 61, 0, 0), (36, 3, .invokevirtual 261, 195, 2), (39, 1, .aload_n 0, 0, 0), (40, 1, .iload_n 1, 0, 0), (41, 3, .invokevirtual 282, 199, 2), (44, 1, .aload_n 0, 0, 0), (45, 3, .getfield 279, 6, 22), (48, 1, .iadd, 0, 0), (49, 1, .ireturn, 1, 0), (50, 1, .aload_n 0, 0, 0), (51, 1, .iload_n 1, 0, 0), (52, 3, .invokevirtual 282, 199, 2), (55, 1, .ireturn, 1, 0)]
def kX6_plainTells : List CE := [(0, 1, .aload_n 0, 0, 0), (1, 1, .iconst 3, 0, 0), (2, 3, .invokevirtual 261, 195, 2), (5, 1, .aload_n 0, 0, 0), (6, 1, .iload_n 1, 0, 0), (7, 3, .invokevirtual 285, 200, 2), (10, 1, .iconst 2, 0, 0), (11, 1, .imul, 0, 0), (12, 1, .ireturn, 1, 0)]
def kX6_tellsActs : List CE := [(0, 1, .aload_n 0, 0, 0), (1, 3, .getfield 267, 6, 20), (4, 1, .iconst 3, 0, 0), (5, 3, .invokestatic 270, 196, 2), (8, 3, .ifCond .eq 18, 0, 0), (11, 1, .aload_n 0, 0, 0), (12, 2, .bipush 31, 0, 0), (14, 3, .invokevirtual 261, 195, 2), (17, 1, .aload_n 0, 0, 0), (18, 1, .iload_n 1, 0, 0), (19, 3, .invokevirtual 288, 201, 2), (22, 2, .bipush 7, 0, 0), (24, 1, .ixor, 0, 0), (25, 1, .ireturn, 1, 0), (26, 1, .aload_n 0, 0, 0), (27, 3, .getfield 267, 6, 20), (30, 1, .iconst 4, 0, 0), (31, 3, .if_icmp .ne 25, 0, 0), (34, 1, .aload_n 0, 0, 0), (35, 2, .bipush 41, 0, 0), (37, 3, .invokevirtual 261, 195, 2), (40, 1, .aload_n 0, 0, 0), (41, 1, .iload_n 1, 0, 0), (42, 1, .iconst 1, 0, 0), (43, 1, .isub, 0, 0), (44, 3, .invokevirtual 288, 201, 2), (47, 1, .istore_n 2, 0, 0), (48, 1, .iload_n 2, 0, 0), (49, 1, .aload_n 0, 0, 0), (50, 1, .iconst 2, 0, 0), (51, 3, .invokevirtual 276, 198, 2), (54, 1, .iadd, 0, 0), (55, 1, .ireturn, 1, 0), (56, 1, .aload_n 0, 0, 0), (57, 1, .iload_n 1, 0, 0), (58, 3, .invokevirtual 288, 201, 2), (61, 1, .ireturn, 1, 0)]
def kX6_act : List CE := [(0, 1, .aload_n 0, 0, 0), (1, 1, .iconst 0, 0, 0), (2, 3, .putfield 258, 6, 19), (5, 1, .aload_n 0, 0, 0), (6, 1, .iload_n 1, 0, 0), (7, 3, .invokevirtual 172, 112, 2), (10, 3, .ifCond .eq 12, 0, 0), (13, 1, .iload_n 2, 0, 0), (14, 1, .iconst 0, 0, 0), (15, 1, .iconst 2, 0, 0), (16, 3, .invokestatic 47, 111, 3), (19, 3, .ifCond .ne 5, 0, 0), (22, 1, .iconst 0, 0, 0), (23, 1, .ireturn, 1, 0), (24, 1, .aload_n 0, 0, 0), (25, 1, .aload_n 0, 0, 0), (26, 3, .getfield 9, 6, 1), (29, 2, .bipush 27, 0, 0), (31, 1, .iload_n 1, 0, 0), (32, 1, .iadd, 0, 0), (33, 1, .iaload, 0, 0), (34, 3, .putfield 267, 6, 20), (37, 1, .aload_n 0, 0, 0), (38, 1, .iload_n 1, 0, 0), (39, 3, .putfield 264, 6, 21), (42, 1, .aload_n 0, 0, 0), (43, 1, .aload_n 0, 0, 0), (44, 3, .getfield 9, 6, 1), (47, 2, .bipush 33, 0, 0), (49, 1, .iload_n 1, 0, 0), (50, 1, .iadd, 0, 0), (51, 1, .iaload, 0, 0), (52, 3, .putfield 279, 6, 22), (55, 1, .iload_n 2, 0, 0), (56, 3, .ifCond .ne 11, 0, 0), (59, 1, .aload_n 0, 0, 0), (60, 1, .iload_n 3, 0, 0), (61, 3, .invokevirtual 276, 198, 2), (64, 3, .goto 21, 0, 0), (67, 1, .iload_n 2, 0, 0), (68, 1, .iconst 1, 0, 0), (69, 3, .if_icmp .ne 11, 0, 0), (72, 1, .aload_n 0, 0, 0), (73, 1, .iload_n 3, 0, 0), (74, 3, .invokevirtual 285, 200, 2), (77, 3, .goto 8, 0, 0), (80, 1, .aload_n 0, 0, 0), (81, 1, .iload_n 3, 0, 0), (82, 3, .invokevirtual 291, 202, 2), (85, 1, .ireturn, 1, 0)]
def kX6_trace : List CE := [(0, 1, .iload_n 1, 0, 0), (1, 1, .iconst 0, 0, 0), (2, 1, .aload_n 0, 0, 0), (3, 3, .getfield 258, 6, 19), (6, 2, .bipush 20, 0, 0), (8, 3, .if_icmp .ge 10, 0, 0), (11, 1, .aload_n 0, 0, 0), (12, 3, .getfield 258, 6, 19), (15, 3, .goto 5, 0, 0), (18, 2, .bipush 20, 0, 0), (20, 1, .iconst 1, 0, 0), (21, 1, .isub, 0, 0), (22, 3, .invokestatic 47, 111, 3), (25, 3, .ifCond .eq 12, 0, 0), (28, 1, .aload_n 0, 0, 0), (29, 3, .getfield 40, 6, 18), (32, 1, .iload_n 1, 0, 0), (33, 1, .iaload, 0, 0), (34, 3, .goto 4, 0, 0), (37, 1, .iconst (-1), 0, 0), (38, 1, .ireturn, 1, 0)]
def kX6_as : List CE := [(0, 1, .aload_n 0, 0, 0), (1, 1, .iload_n 1, 0, 0), (2, 3, .invokevirtual 172, 112, 2), (5, 3, .ifCond .eq 13, 0, 0), (8, 1, .iload_n 2, 0, 0), (9, 1, .iconst 0, 0, 0), (10, 2, .bipush 6, 0, 0), (12, 3, .invokestatic 47, 111, 3), (15, 3, .ifCond .ne 5, 0, 0), (18, 1, .iconst (-1), 0, 0), (19, 1, .ireturn, 1, 0), (20, 1, .aload_n 0, 0, 0), (21, 3, .getfield 9, 6, 1), (24, 2, .bipush 27, 0, 0), (26, 1, .iload_n 1, 0, 0), (27, 1, .iadd, 0, 0), (28, 1, .iaload, 0, 0), (29, 1, .iload_n 2, 0, 0), (30, 3, .invokestatic 270, 196, 2), (33, 3, .ifCond .eq 15, 0, 0), (36, 1, .aload_n 0, 0, 0), (37, 3, .getfield 9, 6, 1), (40, 2, .bipush 33, 0, 0), (42, 1, .iload_n 1, 0, 0), (43, 1, .iadd, 0, 0), (44, 1, .iaload, 0, 0), (45, 3, .goto 5, 0, 0), (48, 2, .bipush (-6), 0, 0), (50, 1, .ireturn, 1, 0)]
def kX6_image : List CE := [(0, 1, .iconst 0, 0, 0), (1, 1, .istore_n 1, 0, 0), (2, 1, .iload_n 1, 0, 0), (3, 3, .sipush 940, 0, 0), (6, 3, .if_icmp .ge 21, 0, 0), (9, 1, .aload_n 0, 0, 0), (10, 3, .getfield 15, 6, 2), (13, 1, .iload_n 1, 0, 0), (14, 1, .aload_n 0, 0, 0), (15, 3, .getfield 9, 6, 1), (18, 1, .iload_n 1, 0, 0), (19, 1, .iaload, 0, 0), (20, 1, .iastore, 0, 0), (21, 3, .iinc 1 1, 0, 0), (24, 3, .goto (-22), 0, 0), (27, 1, .aload_n 0, 0, 0), (28, 1, .iconst 1, 0, 0), (29, 3, .putfield 294, 6, 4), (32, 1, .aload_n 0, 0, 0), (33, 3, .getfield 9, 6, 1), (36, 2, .bipush 19, 0, 0), (38, 1, .iaload, 0, 0), (39, 1, .ireturn, 1, 0)]
def kX6_undo : List CE := [(0, 1, .aload_n 0, 0, 0), (1, 3, .getfield 294, 6, 4), (4, 3, .ifCond .ne 6, 0, 0), (7, 2, .bipush (-3), 0, 0), (9, 1, .ireturn, 1, 0), (10, 1, .iconst 0, 0, 0), (11, 1, .istore_n 1, 0, 0), (12, 1, .iload_n 1, 0, 0), (13, 3, .sipush 940, 0, 0), (16, 3, .if_icmp .ge 21, 0, 0), (19, 1, .aload_n 0, 0, 0), (20, 3, .getfield 9, 6, 1), (23, 1, .iload_n 1, 0, 0), (24, 1, .aload_n 0, 0, 0), (25, 3, .getfield 15, 6, 2), (28, 1, .iload_n 1, 0, 0), (29, 1, .iaload, 0, 0), (30, 1, .iastore, 0, 0), (31, 3, .iinc 1 1, 0, 0), (34, 3, .goto (-22), 0, 0), (37, 1, .aload_n 0, 0, 0), (38, 3, .getfield 9, 6, 1), (41, 2, .bipush 19, 0, 0), (43, 1, .iaload, 0, 0), (44, 1, .ireturn, 1, 0)]
def kX6_count : List CE := [(0, 1, .iload_n 1, 0, 0), (1, 2, .bipush 7, 0, 0), (3, 3, .if_icmp .ne 10, 0, 0), (6, 1, .aload_n 0, 0, 0), (7, 3, .getfield 258, 6, 19), (10, 3, .goto 26, 0, 0), (13, 1, .iload_n 1, 0, 0), (14, 1, .iconst 0, 0, 0), (15, 2, .bipush 6, 0, 0), (17, 3, .invokestatic 47, 111, 3), (20, 3, .ifCond .eq 15, 0, 0), (23, 1, .aload_n 0, 0, 0), (24, 3, .getfield 9, 6, 1), (27, 2, .bipush 19, 0, 0), (29, 1, .iload_n 1, 0, 0), (30, 1, .iadd, 0, 0), (31, 1, .iaload, 0, 0), (32, 3, .goto 4, 0, 0), (35, 1, .iconst (-1), 0, 0), (36, 1, .ireturn, 1, 0)]
def kL_law : List CE := [(0, 3, .new 7, 0, 0), (3, 1, .dup, 0, 0), (4, 3, .invokespecial 9, 2000, 0), (7, 1, .astore_n 1, 0, 0), (8, 3, .new 10, 0, 0), (11, 1, .dup, 0, 0), (12, 3, .invokespecial 12, 2000, 0), (15, 1, .astore_n 2, 0, 0), (16, 1, .iconst 0, 0, 0), (17, 1, .istore_n 3, 0, 0), (18, 1, .iload_n 3, 0, 0), (19, 1, .aload_n 0, 0, 0), (20, 1, .arraylength, 0, 0), (21, 1, .iconst 4, 0, 0), (22, 1, .isub, 0, 0), (23, 3, .if_icmp .gt 1240, 0, 0), (26, 1, .aload_n 0, 0, 0), (27, 1, .iload_n 3, 0, 0), (28, 1, .iaload, 0, 0), (29, 2, .bipush 63, 0, 0), (31, 1, .iand, 0, 0), (32, 176, .tableswitch 1225 0 39 #[176, 199, 212, 255, 288, 331, 364, 397, 420, 453, 502, 525, 538, 571, 584, 617, 640, 653, 666, 699, 722, 755, 778, 801, 814, 847, 860, 883, 907, 941, 975, 1008, 1031, 1064, 1077, 1120, 1143, 1176, 1189, 1202], 0, 0), (208, 1, .aload_n 1, 0, 0), (209, 1, .aload_n 0, 0, 0), (210, 1, .iload_n 3, 0, 0), (211, 1, .iconst 1, 0, 0), (212, 1, .iadd, 0, 0), (213, 1, .iaload, 0, 0), (214, 3, .invokevirtual 13, 56, 2), (217, 1, .aload_n 2, 0, 0), (218, 1, .aload_n 0, 0, 0), (219, 1, .iload_n 3, 0, 0), (220, 1, .iconst 1, 0, 0), (221, 1, .iadd, 0, 0), (222, 1, .iaload, 0, 0), (223, 3, .invokevirtual 17, 117, 2), (226, 3, .if_icmp .eq 1031, 0, 0), (229, 1, .iconst 0, 0, 0), (230, 1, .ireturn, 2, 0), (231, 1, .aload_n 1, 0, 0), (232, 3, .invokevirtual 18, 57, 1), (235, 1, .aload_n 2, 0, 0), (236, 3, .invokevirtual 22, 130, 1), (239, 3, .if_icmp .eq 1018, 0, 0), (242, 1, .iconst 0, 0, 0), (243, 1, .ireturn, 2, 0), (244, 1, .aload_n 1, 0, 0), (245, 1, .aload_n 0, 0, 0), (246, 1, .iload_n 3, 0, 0), (247, 1, .iconst 1, 0, 0), (248, 1, .iadd, 0, 0), (249, 1, .iaload, 0, 0), (250, 1, .aload_n 0, 0, 0), (251, 1, .iload_n 3, 0, 0), (252, 1, .iconst 2, 0, 0), (253, 1, .iadd, 0, 0), (254, 1, .iaload, 0, 0), (255, 1, .aload_n 0, 0, 0), (256, 1, .iload_n 3, 0, 0), (257, 1, .iconst 3, 0, 0), (258, 1, .iadd, 0, 0), (259, 1, .iaload, 0, 0), (260, 3, .invokevirtual 23, 58, 4), (263, 1, .aload_n 2, 0, 0), (264, 1, .aload_n 0, 0, 0), (265, 1, .iload_n 3, 0, 0), (266, 1, .iconst 1, 0, 0), (267, 1, .iadd, 0, 0), (268, 1, .iaload, 0, 0), (269, 1, .aload_n 0, 0, 0), (270, 1, .iload_n 3, 0, 0), (271, 1, .iconst 2, 0, 0), (272, 1, .iadd, 0, 0), (273, 1, .iaload, 0, 0), (274, 1, .aload_n 0, 0, 0), (275, 1, .iload_n 3, 0, 0), (276, 1, .iconst 3, 0, 0), (277, 1, .iadd, 0, 0), (278, 1, .iaload, 0, 0), (279, 3, .invokevirtual 27, 148, 4), (282, 3, .if_icmp .eq 975, 0, 0), (285, 1, .iconst 0, 0, 0), (286, 1, .ireturn, 2, 0), (287, 1, .aload_n 1, 0, 0), (288, 1, .aload_n 0, 0, 0), (289, 1, .iload_n 3, 0, 0), (290, 1, .iconst 1, 0, 0), (291, 1, .iadd, 0, 0), (292, 1, .iaload, 0, 0), (293, 1, .aload_n 0, 0, 0), (294, 1, .iload_n 3, 0, 0), (295, 1, .iconst 2, 0, 0), (296, 1, .iadd, 0, 0), (297, 1, .iaload, 0, 0), (298, 3, .invokevirtual 28, 59, 3), (301, 1, .aload_n 2, 0, 0), (302, 1, .aload_n 0, 0, 0), (303, 1, .iload_n 3, 0, 0), (304, 1, .iconst 1, 0, 0), (305, 1, .iadd, 0, 0), (306, 1, .iaload, 0, 0), (307, 1, .aload_n 0, 0, 0), (308, 1, .iload_n 3, 0, 0), (309, 1, .iconst 2, 0, 0), (310, 1, .iadd, 0, 0), (311, 1, .iaload, 0, 0), (312, 3, .invokevirtual 32, 151, 3), (315, 3, .if_icmp .eq 942, 0, 0), (318, 1, .iconst 0, 0, 0), (319, 1, .ireturn, 2, 0), (320, 1, .aload_n 1, 0, 0), (321, 1, .aload_n 0, 0, 0), (322, 1, .iload_n 3, 0, 0), (323, 1, .iconst 1, 0, 0), (324, 1, .iadd, 0, 0), (325, 1, .iaload, 0, 0), (326, 1, .aload_n 0, 0, 0), (327, 1, .iload_n 3, 0, 0), (328, 1, .iconst 2, 0, 0), (329, 1, .iadd, 0, 0), (330, 1, .iaload, 0, 0), (331, 1, .aload_n 0, 0, 0), (332, 1, .iload_n 3, 0, 0), (333, 1, .iconst 3, 0, 0), (334, 1, .iadd, 0, 0), (335, 1, .iaload, 0, 0), (336, 3, .invokevirtual 33, 60, 4), (339, 1, .aload_n 2, 0, 0), (340, 1, .aload_n 0, 0, 0), (341, 1, .iload_n 3, 0, 0), (342, 1, .iconst 1, 0, 0), (343, 1, .iadd, 0, 0), (344, 1, .iaload, 0, 0), (345, 1, .aload_n 0, 0, 0), (346, 1, .iload_n 3, 0, 0), (347, 1, .iconst 2, 0, 0), (348, 1, .iadd, 0, 0), (349, 1, .iaload, 0, 0), (350, 1, .aload_n 0, 0, 0), (351, 1, .iload_n 3, 0, 0), (352, 1, .iconst 3, 0, 0), (353, 1, .iadd, 0, 0), (354, 1, .iaload, 0, 0), (355, 3, .invokevirtual 36, 152, 4), (358, 3, .if_icmp .eq 899, 0, 0), (361, 1, .iconst 0, 0, 0), (362, 1, .ireturn, 2, 0), (363, 1, .aload_n 1, 0, 0), (364, 1, .aload_n 0, 0, 0), (365, 1, .iload_n 3, 0, 0), (366, 1, .iconst 1, 0, 0), (367, 1, .iadd, 0, 0), (368, 1, .iaload, 0, 0), (369, 1, .aload_n 0, 0, 0), (370, 1, .iload_n 3, 0, 0), (371, 1, .iconst 2, 0, 0), (372, 1, .iadd, 0, 0), (373, 1, .iaload, 0, 0), (374, 3, .invokevirtual 37, 61, 3), (377, 1, .aload_n 2, 0, 0), (378, 1, .aload_n 0, 0, 0), (379, 1, .iload_n 3, 0, 0), (380, 1, .iconst 1, 0, 0), (381, 1, .iadd, 0, 0), (382, 1, .iaload, 0, 0), (383, 1, .aload_n 0, 0, 0), (384, 1, .iload_n 3, 0, 0), (385, 1, .iconst 2, 0, 0), (386, 1, .iadd, 0, 0), (387, 1, .iaload, 0, 0), (388, 3, .invokevirtual 40, 153, 3), (391, 3, .if_icmp .eq 866, 0, 0), (394, 1, .iconst 0, 0, 0), (395, 1, .ireturn, 2, 0), (396, 1, .aload_n 1, 0, 0), (397, 1, .aload_n 0, 0, 0), (398, 1, .iload_n 3, 0, 0), (399, 1, .iconst 1, 0, 0), (400, 1, .iadd, 0, 0), (401, 1, .iaload, 0, 0), (402, 1, .aload_n 0, 0, 0), (403, 1, .iload_n 3, 0, 0), (404, 1, .iconst 2, 0, 0), (405, 1, .iadd, 0, 0), (406, 1, .iaload, 0, 0), (407, 3, .invokevirtual 41, 62, 3), (410, 1, .aload_n 2, 0, 0), (411, 1, .aload_n 0, 0, 0), (412, 1, .iload_n 3, 0, 0), (413, 1, .iconst 1, 0, 0), (414, 1, .iadd, 0, 0), (415, 1, .iaload, 0, 0), (416, 1, .aload_n 0, 0, 0), (417, 1, .iload_n 3, 0, 0), (418, 1, .iconst 2, 0, 0), (419, 1, .iadd, 0, 0), (420, 1, .iaload, 0, 0), (421, 3, .invokevirtual 44, 154, 3), (424, 3, .if_icmp .eq 833, 0, 0), (427, 1, .iconst 0, 0, 0), (428, 1, .ireturn, 2, 0), (429, 1, .aload_n 1, 0, 0), (430, 1, .aload_n 0, 0, 0), (431, 1, .iload_n 3, 0, 0), (432, 1, .iconst 1, 0, 0), (433, 1, .iadd, 0, 0), (434, 1, .iaload, 0, 0), (435, 3, .invokevirtual 45, 63, 2), (438, 1, .aload_n 2, 0, 0), (439, 1, .aload_n 0, 0, 0), (440, 1, .iload_n 3, 0, 0), (441, 1, .iconst 1, 0, 0), (442, 1, .iadd, 0, 0), (443, 1, .iaload, 0, 0), (444, 3, .invokevirtual 48, 155, 2), (447, 3, .if_icmp .eq 810, 0, 0), (450, 1, .iconst 0, 0, 0), (451, 1, .ireturn, 2, 0), (452, 1, .aload_n 1, 0, 0), (453, 1, .aload_n 0, 0, 0), (454, 1, .iload_n 3, 0, 0), (455, 1, .iconst 1, 0, 0), (456, 1, .iadd, 0, 0), (457, 1, .iaload, 0, 0), (458, 1, .aload_n 0, 0, 0), (459, 1, .iload_n 3, 0, 0), (460, 1, .iconst 2, 0, 0), (461, 1, .iadd, 0, 0), (462, 1, .iaload, 0, 0), (463, 3, .invokevirtual 49, 64, 3), (466, 1, .aload_n 2, 0, 0), (467, 1, .aload_n 0, 0, 0), (468, 1, .iload_n 3, 0, 0), (469, 1, .iconst 1, 0, 0), (470, 1, .iadd, 0, 0), (471, 1, .iaload, 0, 0), (472, 1, .aload_n 0, 0, 0), (473, 1, .iload_n 3, 0, 0), (474, 1, .iconst 2, 0, 0), (475, 1, .iadd, 0, 0), (476, 1, .iaload, 0, 0), (477, 3, .invokevirtual 52, 156, 3), (480, 3, .if_icmp .eq 777, 0, 0), (483, 1, .iconst 0, 0, 0), (484, 1, .ireturn, 2, 0), (485, 1, .aload_n 1, 0, 0), (486, 1, .aload_n 0, 0, 0), (487, 1, .iload_n 3, 0, 0), (488, 1, .iconst 1, 0, 0), (489, 1, .iadd, 0, 0), (490, 1, .iaload, 0, 0), (491, 1, .aload_n 0, 0, 0), (492, 1, .iload_n 3, 0, 0), (493, 1, .iconst 2, 0, 0), (494, 1, .iadd, 0, 0), (495, 1, .iaload, 0, 0), (496, 3, .ifCond .eq 7, 0, 0), (499, 1, .iconst 1, 0, 0), (500, 3, .goto 4, 0, 0), (503, 1, .iconst 0, 0, 0), (504, 3, .invokevirtual 53, 65, 3), (507, 1, .aload_n 2, 0, 0), (508, 1, .aload_n 0, 0, 0), (509, 1, .iload_n 3, 0, 0), (510, 1, .iconst 1, 0, 0), (511, 1, .iadd, 0, 0), (512, 1, .iaload, 0, 0), (513, 1, .aload_n 0, 0, 0), (514, 1, .iload_n 3, 0, 0), (515, 1, .iconst 2, 0, 0), (516, 1, .iadd, 0, 0), (517, 1, .iaload, 0, 0), (518, 3, .ifCond .eq 7, 0, 0), (521, 1, .iconst 1, 0, 0), (522, 3, .goto 4, 0, 0), (525, 1, .iconst 0, 0, 0), (526, 3, .invokevirtual 57, 157, 3), (529, 3, .if_icmp .eq 728, 0, 0), (532, 1, .iconst 0, 0, 0), (533, 1, .ireturn, 2, 0), (534, 1, .aload_n 1, 0, 0), (535, 1, .aload_n 0, 0, 0), (536, 1, .iload_n 3, 0, 0), (537, 1, .iconst 1, 0, 0), (538, 1, .iadd, 0, 0), (539, 1, .iaload, 0, 0), (540, 3, .invokevirtual 58, 66, 2), (543, 1, .aload_n 2, 0, 0), (544, 1, .aload_n 0, 0, 0), (545, 1, .iload_n 3, 0, 0), (546, 1, .iconst 1, 0, 0), (547, 1, .iadd, 0, 0), (548, 1, .iaload, 0, 0), (549, 3, .invokevirtual 61, 158, 2), (552, 3, .if_icmp .eq 705, 0, 0), (555, 1, .iconst 0, 0, 0), (556, 1, .ireturn, 2, 0), (557, 1, .aload_n 1, 0, 0), (558, 3, .invokevirtual 62, 67, 1), (561, 1, .aload_n 2, 0, 0), (562, 3, .invokevirtual 65, 161, 1), (565, 3, .if_icmp .eq 692, 0, 0), (568, 1, .iconst 0, 0, 0), (569, 1, .ireturn, 2, 0), (570, 1, .aload_n 1, 0, 0), (571, 1, .aload_n 0, 0, 0), (572, 1, .iload_n 3, 0, 0), (573, 1, .iconst 1, 0, 0), (574, 1, .iadd, 0, 0), (575, 1, .iaload, 0, 0), (576, 1, .aload_n 0, 0, 0), (577, 1, .iload_n 3, 0, 0), (578, 1, .iconst 2, 0, 0), (579, 1, .iadd, 0, 0), (580, 1, .iaload, 0, 0), (581, 3, .invokevirtual 66, 68, 3), (584, 1, .aload_n 2, 0, 0), (585, 1, .aload_n 0, 0, 0), (586, 1, .iload_n 3, 0, 0), (587, 1, .iconst 1, 0, 0), (588, 1, .iadd, 0, 0), (589, 1, .iaload, 0, 0), (590, 1, .aload_n 0, 0, 0), (591, 1, .iload_n 3, 0, 0), (592, 1, .iconst 2, 0, 0), (593, 1, .iadd, 0, 0), (594, 1, .iaload, 0, 0), (595, 3, .invokevirtual 69, 162, 3), (598, 3, .if_icmp .eq 659, 0, 0), (601, 1, .iconst 0, 0, 0), (602, 1, .ireturn, 2, 0), (603, 1, .aload_n 1, 0, 0), (604, 3, .invokevirtual 70, 69, 1), (607, 1, .aload_n 2, 0, 0), (608, 3, .invokevirtual 73, 163, 1), (611, 3, .if_icmp .eq 646, 0, 0), (614, 1, .iconst 0, 0, 0), (615, 1, .ireturn, 2, 0), (616, 1, .aload_n 1, 0, 0), (617, 1, .aload_n 0, 0, 0), (618, 1, .iload_n 3, 0, 0), (619, 1, .iconst 1, 0, 0), (620, 1, .iadd, 0, 0), (621, 1, .iaload, 0, 0), (622, 1, .aload_n 0, 0, 0), (623, 1, .iload_n 3, 0, 0), (624, 1, .iconst 2, 0, 0), (625, 1, .iadd, 0, 0), (626, 1, .iaload, 0, 0), (627, 3, .invokevirtual 74, 70, 3), (630, 1, .aload_n 2, 0, 0), (631, 1, .aload_n 0, 0, 0), (632, 1, .iload_n 3, 0, 0), (633, 1, .iconst 1, 0, 0), (634, 1, .iadd, 0, 0), (635, 1, .iaload, 0, 0), (636, 1, .aload_n 0, 0, 0), (637, 1, .iload_n 3, 0, 0), (638, 1, .iconst 2, 0, 0), (639, 1, .iadd, 0, 0), (640, 1, .iaload, 0, 0), (641, 3, .invokevirtual 77, 165, 3), (644, 3, .if_icmp .eq 613, 0, 0), (647, 1, .iconst 0, 0, 0), (648, 1, .ireturn, 2, 0), (649, 1, .aload_n 1, 0, 0), (650, 1, .aload_n 0, 0, 0), (651, 1, .iload_n 3, 0, 0), (652, 1, .iconst 1, 0, 0), (653, 1, .iadd, 0, 0), (654, 1, .iaload, 0, 0), (655, 3, .invokevirtual 78, 71, 2), (658, 1, .aload_n 2, 0, 0), (659, 1, .aload_n 0, 0, 0), (660, 1, .iload_n 3, 0, 0), (661, 1, .iconst 1, 0, 0), (662, 1, .iadd, 0, 0), (663, 1, .iaload, 0, 0), (664, 3, .invokevirtual 81, 168, 2), (667, 3, .if_icmp .eq 590, 0, 0), (670, 1, .iconst 0, 0, 0), (671, 1, .ireturn, 2, 0), (672, 1, .aload_n 1, 0, 0), (673, 3, .invokevirtual 82, 72, 1), (676, 1, .aload_n 2, 0, 0), (677, 3, .invokevirtual 85, 169, 1), (680, 3, .if_icmp .eq 577, 0, 0), (683, 1, .iconst 0, 0, 0), (684, 1, .ireturn, 2, 0), (685, 1, .aload_n 1, 0, 0), (686, 3, .invokevirtual 86, 73, 1), (689, 1, .aload_n 2, 0, 0), (690, 3, .invokevirtual 89, 171, 1), (693, 3, .if_icmp .eq 564, 0, 0), (696, 1, .iconst 0, 0, 0), (697, 1, .ireturn, 2, 0), (698, 1, .aload_n 1, 0, 0), (699, 1, .aload_n 0, 0, 0), (700, 1, .iload_n 3, 0, 0), (701, 1, .iconst 1, 0, 0), (702, 1, .iadd, 0, 0), (703, 1, .iaload, 0, 0), (704, 1, .aload_n 0, 0, 0), (705, 1, .iload_n 3, 0, 0), (706, 1, .iconst 2, 0, 0), (707, 1, .iadd, 0, 0), (708, 1, .iaload, 0, 0), (709, 3, .invokevirtual 90, 74, 3), (712, 1, .aload_n 2, 0, 0), (713, 1, .aload_n 0, 0, 0), (714, 1, .iload_n 3, 0, 0), (715, 1, .iconst 1, 0, 0), (716, 1, .iadd, 0, 0), (717, 1, .iaload, 0, 0), (718, 1, .aload_n 0, 0, 0), (719, 1, .iload_n 3, 0, 0), (720, 1, .iconst 2, 0, 0), (721, 1, .iadd, 0, 0), (722, 1, .iaload, 0, 0), (723, 3, .invokevirtual 93, 173, 3), (726, 3, .if_icmp .eq 531, 0, 0), (729, 1, .iconst 0, 0, 0), (730, 1, .ireturn, 2, 0), (731, 1, .aload_n 1, 0, 0), (732, 1, .aload_n 0, 0, 0), (733, 1, .iload_n 3, 0, 0), (734, 1, .iconst 1, 0, 0), (735, 1, .iadd, 0, 0), (736, 1, .iaload, 0, 0), (737, 3, .invokevirtual 94, 75, 2), (740, 1, .aload_n 2, 0, 0), (741, 1, .aload_n 0, 0, 0), (742, 1, .iload_n 3, 0, 0), (743, 1, .iconst 1, 0, 0), (744, 1, .iadd, 0, 0), (745, 1, .iaload, 0, 0), (746, 3, .invokevirtual 97, 174, 2), (749, 3, .if_icmp .eq 508, 0, 0), (752, 1, .iconst 0, 0, 0), (753, 1, .ireturn, 2, 0), (754, 1, .aload_n 1, 0, 0), (755, 1, .aload_n 0, 0, 0), (756, 1, .iload_n 3, 0, 0), (757, 1, .iconst 1, 0, 0), (758, 1, .iadd, 0, 0), (759, 1, .iaload, 0, 0), (760, 1, .aload_n 0, 0, 0), (761, 1, .iload_n 3, 0, 0), (762, 1, .iconst 2, 0, 0), (763, 1, .iadd, 0, 0), (764, 1, .iaload, 0, 0), (765, 3, .invokevirtual 98, 76, 3), (768, 1, .aload_n 2, 0, 0), (769, 1, .aload_n 0, 0, 0), (770, 1, .iload_n 3, 0, 0), (771, 1, .iconst 1, 0, 0), (772, 1, .iadd, 0, 0), (773, 1, .iaload, 0, 0), (774, 1, .aload_n 0, 0, 0), (775, 1, .iload_n 3, 0, 0), (776, 1, .iconst 2, 0, 0), (777, 1, .iadd, 0, 0), (778, 1, .iaload, 0, 0), (779, 3, .invokevirtual 101, 176, 3), (782, 3, .if_icmp .eq 475, 0, 0), (785, 1, .iconst 0, 0, 0), (786, 1, .ireturn, 2, 0), (787, 1, .aload_n 1, 0, 0), (788, 1, .aload_n 0, 0, 0), (789, 1, .iload_n 3, 0, 0), (790, 1, .iconst 1, 0, 0), (791, 1, .iadd, 0, 0), (792, 1, .iaload, 0, 0), (793, 3, .invokevirtual 102, 77, 2), (796, 1, .aload_n 2, 0, 0), (797, 1, .aload_n 0, 0, 0), (798, 1, .iload_n 3, 0, 0), (799, 1, .iconst 1, 0, 0), (800, 1, .iadd, 0, 0), (801, 1, .iaload, 0, 0), (802, 3, .invokevirtual 105, 178, 2), (805, 3, .if_icmp .eq 452, 0, 0), (808, 1, .iconst 0, 0, 0), (809, 1, .ireturn, 2, 0), (810, 1, .aload_n 1, 0, 0), (811, 1, .aload_n 0, 0, 0), (812, 1, .iload_n 3, 0, 0), (813, 1, .iconst 1, 0, 0), (814, 1, .iadd, 0, 0), (815, 1, .iaload, 0, 0), (816, 3, .invokevirtual 106, 78, 2), (819, 1, .aload_n 2, 0, 0), (820, 1, .aload_n 0, 0, 0), (821, 1, .iload_n 3, 0, 0), (822, 1, .iconst 1, 0, 0), (823, 1, .iadd, 0, 0), (824, 1, .iaload, 0, 0), (825, 3, .invokevirtual 109, 179, 2), (828, 3, .if_icmp .eq 429, 0, 0), (831, 1, .iconst 0, 0, 0), (832, 1, .ireturn, 2, 0), (833, 1, .aload_n 1, 0, 0), (834, 3, .invokevirtual 110, 79, 1), (837, 1, .aload_n 2, 0, 0), (838, 3, .invokevirtual 113, 180, 1), (841, 3, .if_icmp .eq 416, 0, 0), (844, 1, .iconst 0, 0, 0), (845, 1, .ireturn, 2, 0), (846, 1, .aload_n 1, 0, 0), (847, 1, .aload_n 0, 0, 0), (848, 1, .iload_n 3, 0, 0), (849, 1, .iconst 1, 0, 0), (850, 1, .iadd, 0, 0), (851, 1, .iaload, 0, 0), (852, 1, .aload_n 0, 0, 0), (853, 1, .iload_n 3, 0, 0), (854, 1, .iconst 2, 0, 0), (855, 1, .iadd, 0, 0), (856, 1, .iaload, 0, 0), (857, 3, .invokevirtual 114, 80, 3), (860, 1, .aload_n 2, 0, 0), (861, 1, .aload_n 0, 0, 0), (862, 1, .iload_n 3, 0, 0), (863, 1, .iconst 1, 0, 0), (864, 1, .iadd, 0, 0), (865, 1, .iaload, 0, 0), (866, 1, .aload_n 0, 0, 0), (867, 1, .iload_n 3, 0, 0), (868, 1, .iconst 2, 0, 0), (869, 1, .iadd, 0, 0), (870, 1, .iaload, 0, 0), (871, 3, .invokevirtual 117, 181, 3), (874, 3, .if_icmp .eq 383, 0, 0), (877, 1, .iconst 0, 0, 0), (878, 1, .ireturn, 2, 0), (879, 1, .aload_n 1, 0, 0), (880, 3, .invokevirtual 118, 81, 1), (883, 1, .aload_n 2, 0, 0), (884, 3, .invokevirtual 121, 184, 1), (887, 3, .if_icmp .eq 370, 0, 0), (890, 1, .iconst 0, 0, 0), (891, 1, .ireturn, 2, 0), (892, 1, .aload_n 1, 0, 0), (893, 1, .aload_n 0, 0, 0), (894, 1, .iload_n 3, 0, 0), (895, 1, .iconst 1, 0, 0), (896, 1, .iadd, 0, 0), (897, 1, .iaload, 0, 0), (898, 3, .invokevirtual 122, 82, 2), (901, 1, .aload_n 2, 0, 0), (902, 1, .aload_n 0, 0, 0), (903, 1, .iload_n 3, 0, 0), (904, 1, .iconst 1, 0, 0), (905, 1, .iadd, 0, 0), (906, 1, .iaload, 0, 0), (907, 3, .invokevirtual 125, 186, 2), (910, 3, .if_icmp .eq 347, 0, 0), (913, 1, .iconst 0, 0, 0), (914, 1, .ireturn, 2, 0), (915, 1, .aload_n 1, 0, 0), (916, 1, .aload_n 0, 0, 0), (917, 1, .iload_n 3, 0, 0), (918, 1, .iconst 1, 0, 0), (919, 1, .iadd, 0, 0), (920, 1, .iaload, 0, 0), (921, 3, .invokevirtual 126, 83, 2), (924, 1, .aload_n 2, 0, 0), (925, 1, .aload_n 0, 0, 0), (926, 1, .iload_n 3, 0, 0), (927, 1, .iconst 1, 0, 0), (928, 1, .iadd, 0, 0), (929, 1, .iaload, 0, 0), (930, 3, .invokevirtual 130, 188, 2), (933, 1, .lcmp, 0, 0), (934, 3, .ifCond .eq 323, 0, 0), (937, 1, .iconst 0, 0, 0), (938, 1, .ireturn, 2, 0), (939, 1, .aload_n 1, 0, 0), (940, 1, .aload_n 0, 0, 0), (941, 1, .iload_n 3, 0, 0), (942, 1, .iconst 1, 0, 0), (943, 1, .iadd, 0, 0), (944, 1, .iaload, 0, 0), (945, 1, .aload_n 0, 0, 0), (946, 1, .iload_n 3, 0, 0), (947, 1, .iconst 2, 0, 0), (948, 1, .iadd, 0, 0), (949, 1, .iaload, 0, 0), (950, 3, .invokevirtual 131, 84, 3), (953, 1, .aload_n 2, 0, 0), (954, 1, .aload_n 0, 0, 0), (955, 1, .iload_n 3, 0, 0), (956, 1, .iconst 1, 0, 0), (957, 1, .iadd, 0, 0), (958, 1, .iaload, 0, 0), (959, 1, .aload_n 0, 0, 0), (960, 1, .iload_n 3, 0, 0), (961, 1, .iconst 2, 0, 0), (962, 1, .iadd, 0, 0), (963, 1, .iaload, 0, 0), (964, 3, .invokevirtual 135, 189, 3), (967, 1, .lcmp, 0, 0), (968, 3, .ifCond .eq 289, 0, 0), (971, 1, .iconst 0, 0, 0), (972, 1, .ireturn, 2, 0), (973, 1, .aload_n 1, 0, 0), (974, 1, .aload_n 0, 0, 0), (975, 1, .iload_n 3, 0, 0), (976, 1, .iconst 1, 0, 0), (977, 1, .iadd, 0, 0), (978, 1, .iaload, 0, 0), (979, 1, .aload_n 0, 0, 0), (980, 1, .iload_n 3, 0, 0), (981, 1, .iconst 2, 0, 0), (982, 1, .iadd, 0, 0), (983, 1, .iaload, 0, 0), (984, 3, .invokevirtual 136, 85, 3), (987, 1, .aload_n 2, 0, 0), (988, 1, .aload_n 0, 0, 0), (989, 1, .iload_n 3, 0, 0), (990, 1, .iconst 1, 0, 0), (991, 1, .iadd, 0, 0), (992, 1, .iaload, 0, 0), (993, 1, .aload_n 0, 0, 0), (994, 1, .iload_n 3, 0, 0), (995, 1, .iconst 2, 0, 0), (996, 1, .iadd, 0, 0), (997, 1, .iaload, 0, 0), (998, 3, .invokevirtual 139, 190, 3), (1001, 1, .lcmp, 0, 0), (1002, 3, .ifCond .eq 255, 0, 0), (1005, 1, .iconst 0, 0, 0), (1006, 1, .ireturn, 2, 0), (1007, 1, .aload_n 1, 0, 0), (1008, 1, .aload_n 0, 0, 0), (1009, 1, .iload_n 3, 0, 0), (1010, 1, .iconst 1, 0, 0), (1011, 1, .iadd, 0, 0), (1012, 1, .iaload, 0, 0), (1013, 1, .aload_n 0, 0, 0), (1014, 1, .iload_n 3, 0, 0), (1015, 1, .iconst 2, 0, 0), (1016, 1, .iadd, 0, 0), (1017, 1, .iaload, 0, 0), (1018, 3, .invokevirtual 140, 86, 3), (1021, 1, .aload_n 2, 0, 0), (1022, 1, .aload_n 0, 0, 0), (1023, 1, .iload_n 3, 0, 0), (1024, 1, .iconst 1, 0, 0), (1025, 1, .iadd, 0, 0), (1026, 1, .iaload, 0, 0), (1027, 1, .aload_n 0, 0, 0), (1028, 1, .iload_n 3, 0, 0), (1029, 1, .iconst 2, 0, 0), (1030, 1, .iadd, 0, 0), (1031, 1, .iaload, 0, 0), (1032, 3, .invokevirtual 143, 191, 3), (1035, 3, .if_icmp .eq 222, 0, 0), (1038, 1, .iconst 0, 0, 0), (1039, 1, .ireturn, 2, 0), (1040, 1, .aload_n 1, 0, 0), (1041, 1, .aload_n 0, 0, 0), (1042, 1, .iload_n 3, 0, 0), (1043, 1, .iconst 1, 0, 0), (1044, 1, .iadd, 0, 0), (1045, 1, .iaload, 0, 0), (1046, 3, .invokevirtual 144, 87, 2), (1049, 1, .aload_n 2, 0, 0), (1050, 1, .aload_n 0, 0, 0), (1051, 1, .iload_n 3, 0, 0), (1052, 1, .iconst 1, 0, 0), (1053, 1, .iadd, 0, 0), (1054, 1, .iaload, 0, 0), (1055, 3, .invokevirtual 147, 192, 2), (1058, 3, .if_icmp .eq 199, 0, 0), (1061, 1, .iconst 0, 0, 0), (1062, 1, .ireturn, 2, 0), (1063, 1, .aload_n 1, 0, 0), (1064, 1, .aload_n 0, 0, 0), (1065, 1, .iload_n 3, 0, 0), (1066, 1, .iconst 1, 0, 0), (1067, 1, .iadd, 0, 0), (1068, 1, .iaload, 0, 0), (1069, 1, .aload_n 0, 0, 0), (1070, 1, .iload_n 3, 0, 0), (1071, 1, .iconst 2, 0, 0), (1072, 1, .iadd, 0, 0), (1073, 1, .iaload, 0, 0), (1074, 3, .invokevirtual 148, 88, 3), (1077, 1, .aload_n 2, 0, 0), (1078, 1, .aload_n 0, 0, 0), (1079, 1, .iload_n 3, 0, 0), (1080, 1, .iconst 1, 0, 0), (1081, 1, .iadd, 0, 0), (1082, 1, .iaload, 0, 0), (1083, 1, .aload_n 0, 0, 0), (1084, 1, .iload_n 3, 0, 0), (1085, 1, .iconst 2, 0, 0), (1086, 1, .iadd, 0, 0), (1087, 1, .iaload, 0, 0), (1088, 3, .invokevirtual 151, 193, 3), (1091, 3, .if_icmp .eq 166, 0, 0), (1094, 1, .iconst 0, 0, 0), (1095, 1, .ireturn, 2, 0), (1096, 1, .aload_n 1, 0, 0), (1097, 3, .invokevirtual 152, 89, 1), (1100, 1, .aload_n 2, 0, 0), (1101, 3, .invokevirtual 155, 194, 1), (1104, 3, .if_icmp .eq 153, 0, 0), (1107, 1, .iconst 0, 0, 0), (1108, 1, .ireturn, 2, 0), (1109, 1, .aload_n 1, 0, 0), (1110, 1, .aload_n 0, 0, 0), (1111, 1, .iload_n 3, 0, 0), (1112, 1, .iconst 1, 0, 0), (1113, 1, .iadd, 0, 0), (1114, 1, .iaload, 0, 0), (1115, 1, .aload_n 0, 0, 0), (1116, 1, .iload_n 3, 0, 0), (1117, 1, .iconst 2, 0, 0), (1118, 1, .iadd, 0, 0), (1119, 1, .iaload, 0, 0), (1120, 1, .aload_n 0, 0, 0), (1121, 1, .iload_n 3, 0, 0), (1122, 1, .iconst 3, 0, 0), (1123, 1, .iadd, 0, 0), (1124, 1, .iaload, 0, 0), (1125, 3, .invokevirtual 156, 90, 4), (1128, 1, .aload_n 2, 0, 0), (1129, 1, .aload_n 0, 0, 0), (1130, 1, .iload_n 3, 0, 0), (1131, 1, .iconst 1, 0, 0), (1132, 1, .iadd, 0, 0), (1133, 1, .iaload, 0, 0), (1134, 1, .aload_n 0, 0, 0), (1135, 1, .iload_n 3, 0, 0), (1136, 1, .iconst 2, 0, 0), (1137, 1, .iadd, 0, 0), (1138, 1, .iaload, 0, 0), (1139, 1, .aload_n 0, 0, 0), (1140, 1, .iload_n 3, 0, 0), (1141, 1, .iconst 3, 0, 0), (1142, 1, .iadd, 0, 0), (1143, 1, .iaload, 0, 0), (1144, 3, .invokevirtual 159, 203, 4), (1147, 3, .if_icmp .eq 110, 0, 0), (1150, 1, .iconst 0, 0, 0), (1151, 1, .ireturn, 2, 0), (1152, 1, .aload_n 1, 0, 0), (1153, 1, .aload_n 0, 0, 0), (1154, 1, .iload_n 3, 0, 0), (1155, 1, .iconst 1, 0, 0), (1156, 1, .iadd, 0, 0), (1157, 1, .iaload, 0, 0), (1158, 3, .invokevirtual 160, 91, 2), (1161, 1, .aload_n 2, 0, 0), (1162, 1, .aload_n 0, 0, 0), (1163, 1, .iload_n 3, 0, 0), (1164, 1, .iconst 1, 0, 0), (1165, 1, .iadd, 0, 0), (1166, 1, .iaload, 0, 0), (1167, 3, .invokevirtual 163, 204, 2), (1170, 3, .if_icmp .eq 87, 0, 0), (1173, 1, .iconst 0, 0, 0), (1174, 1, .ireturn, 2, 0), (1175, 1, .aload_n 1, 0, 0), (1176, 1, .aload_n 0, 0, 0), (1177, 1, .iload_n 3, 0, 0), (1178, 1, .iconst 1, 0, 0), (1179, 1, .iadd, 0, 0), (1180, 1, .iaload, 0, 0), (1181, 1, .aload_n 0, 0, 0), (1182, 1, .iload_n 3, 0, 0), (1183, 1, .iconst 2, 0, 0), (1184, 1, .iadd, 0, 0), (1185, 1, .iaload, 0, 0), (1186, 3, .invokevirtual 164, 92, 3), (1189, 1, .aload_n 2, 0, 0), (1190, 1, .aload_n 0, 0, 0), (1191, 1, .iload_n 3, 0, 0), (1192, 1, .iconst 1, 0, 0), (1193, 1, .iadd, 0, 0), (1194, 1, .iaload, 0, 0), (1195, 1, .aload_n 0, 0, 0), (1196, 1, .iload_n 3, 0, 0), (1197, 1, .iconst 2, 0, 0), (1198, 1, .iadd, 0, 0), (1199, 1, .iaload, 0, 0), (1200, 3, .invokevirtual 167, 205, 3), (1203, 3, .if_icmp .eq 54, 0, 0), (1206, 1, .iconst 0, 0, 0), (1207, 1, .ireturn, 2, 0), (1208, 1, .aload_n 1, 0, 0), (1209, 3, .invokevirtual 168, 93, 1), (1212, 1, .aload_n 2, 0, 0), (1213, 3, .invokevirtual 171, 206, 1), (1216, 3, .if_icmp .eq 41, 0, 0), (1219, 1, .iconst 0, 0, 0), (1220, 1, .ireturn, 2, 0), (1221, 1, .aload_n 1, 0, 0), (1222, 3, .invokevirtual 172, 94, 1), (1225, 1, .aload_n 2, 0, 0), (1226, 3, .invokevirtual 175, 207, 1), (1229, 3, .if_icmp .eq 28, 0, 0), (1232, 1, .iconst 0, 0, 0), (1233, 1, .ireturn, 2, 0), (1234, 1, .aload_n 1, 0, 0), (1235, 1, .aload_n 0, 0, 0), (1236, 1, .iload_n 3, 0, 0), (1237, 1, .iconst 1, 0, 0), (1238, 1, .iadd, 0, 0), (1239, 1, .iaload, 0, 0), (1240, 3, .invokevirtual 176, 95, 2), (1243, 1, .aload_n 2, 0, 0), (1244, 1, .aload_n 0, 0, 0), (1245, 1, .iload_n 3, 0, 0), (1246, 1, .iconst 1, 0, 0), (1247, 1, .iadd, 0, 0), (1248, 1, .iaload, 0, 0), (1249, 3, .invokevirtual 179, 208, 2), (1252, 3, .if_icmp .eq 5, 0, 0), (1255, 1, .iconst 0, 0, 0), (1256, 1, .ireturn, 2, 0), (1257, 3, .iinc 3 4, 0, 0), (1260, 3, .goto (-1242), 0, 0), (1263, 1, .iconst 1, 0, 0), (1264, 1, .ireturn, 2, 0)]
def kT : List (List CE) := [kJ6_compare_7cf53, kJ6_bitCount_0f7a4, kJ0_length_8abf5, kJ0_charAt_5068e, kJ0_indexOf_0f7a4, kJ0_indexOf_7cf53, kJ0_coder_7d493, kJ0_isLatin1_aae02, kJ0_checkIndex_df160, kJ1_charAt_3b067, kJ1_canEncode_9a6ad, kJ1_indexOf_4cfef, kJ1_indexOfChar_4cfef, kJ3_checkIndex_8e157, kX0_perform, kX0_callFrom, kX0_runBody, kX1_become, kX1_addSinger, kX1_addStone, kX1_highOf, kX1_canSing, kX1_singing, kX1_measure, kX1_forceOf, kX1_strengthOf, kX1_partners, kX1_bearing, kX1_allOf, kX1_allNow, kX1_hangs, kX1_sumHanging, kX1_looseBits, kX1_countFallen, kX1_sumTired, kX1_goBeat, kX1_goRound, kX1_keepNotes, kX2_read, kX2_peek, kX2_take, kX2_readClause, kX2_readWord, kX2_readRest, kX2_readNumber, kX2_readEither, kX2_readBoth, kX2_readFactor, kX2_readTest, kX2_indexOfNext, kX3_clear, kX3_addToken, kX3_addClause, kX3_gainOf, kX3_holds, kX4_become, kX5_feed, kX5_setting, kX5_singer, kX5_of, kX5_row, kX5_sing, kX5_tire, kX5_stone, kX5_at, kX5_prop, kX5_told, kX5_beat, kX5_on, kX5_steady, kX5_best, kX5_chord, kX5_needed, kX5_spare, kX5_shift, kX5_ill, kX5_canon, kX5_props, kX5_critical, kX5_load, kX5_dust, kX5_flat, kX5_order, kX5_odds, kX5_mean, kX5_wage, kX5_plan, kX5_planned, kX5_book, kX5_looked, kX5_act, kX5_trace, kX5_as, kX5_image, kX5_undo, kX5_count, kX5_isSinger, kX5_isStone, kX5_hasBit, kX5_bestNote, kX5_measureChords, kX5_chordNote, kX5_bestChord, kX5_singChord, kX5_looseOf, kX5_spareBits, kX5_setShift, kX5_isDustBy, kX5_sortHanging, kX5_inLowestTerms, kX5_commonDivisor, kX6_in, kX6_isSinger, kX6_isStone, kX6_doesSing, kX6_keeps, kX6_goesBack, kX6_feed, kX6_here, kX6_must, kX6_spells, kX6_figures, kX6_among, kX6_emits, kX6_factor, kX6_every, kX6_some, kX6_much, kX6_tellsHere, kX6_clauseHere, kX6_setting, kX6_tellsOf, kX6_looks, kX6_strengthOf, kX6_forceOf, kX6_isTune, kX6_looksForForces, kX6_isOf, kX6_tunesOf, kX6_bearsOf, kX6_allBy, kX6_singing, kX6_allNow, kX6_doesHang, kX6_looseBy, kX6_fallenMany, kX6_sizeOf, kX6_hangingWeight, kX6_singer, kX6_highOf, kX6_canSing, kX6_of, kX6_row, kX6_sing, kX6_tire, kX6_stone, kX6_at, kX6_prop, kX6_told, kX6_goesBy, kX6_goes, kX6_beat, kX6_on, kX6_steady, kX6_looksForNote, kX6_best, kX6_noteAbove, kX6_chordsFrom, kX6_chord, kX6_needed, kX6_looseMany, kX6_spare, kX6_fewestOf, kX6_shift, kX6_ill, kX6_goesRound, kX6_canon, kX6_weightOf, kX6_props, kX6_critical, kX6_load, kX6_dust, kX6_isDust, kX6_isFlat, kX6_flat, kX6_lightest, kX6_order, kX6_lowest, kX6_odds, kX6_mean, kX6_wage, kX6_plan, kX6_planned, kX6_book, kX6_looked, kX6_ranBody, kX6_isUnder, kX6_plainSings, kX6_singsActs, kX6_plainBears, kX6_bearsActs, kX6_plainTells, kX6_tellsActs, kX6_act, kX6_trace, kX6_as, kX6_image, kX6_undo, kX6_count, kL_law]
def kO (j : Nat) : List CE := kT.getD j []
/-- the rows are the bytes' own, one behind the other -/
def chB (b : ByteArray) : Nat → List CE → Bool
  | _, [] => true
  | pc, (p, n, i, _, _) :: r => p == pc && decide (decode b p = .ok (i, n)) && chB b (pc + n) r
def endB : Nat → List CE → Nat
  | pc, [] => pc
  | pc, (_, n, _, _, _) :: r => endB (pc + n) r
theorem chB_td {b : ByteArray} : ∀ (n pc : Nat) (l : List CE), chB b pc (l.take n) = true → chB b (endB pc (l.take n)) (l.drop n) = true → chB b pc l = true
  | 0, _, _, _, h => h
  | _ + 1, _, [], _, _ => rfl
  | n + 1, pc, (p, z, i, x, y) :: r, h1, h2 => by
    simp only [List.take_succ_cons, chB, Bool.and_eq_true] at h1 ⊢
    exact ⟨h1.1, chB_td n (pc + z) r h1.2 h2⟩
theorem chB_at {b : ByteArray} {l : List CE} {pc pc' : Nat} (n : Nat) (h1 : chB b pc (l.take n) = true) (he : endB pc (l.take n) = pc') (h2 : chB b pc' (l.drop n) = true) : chB b pc l = true := chB_td n pc l h1 (by rw [he]; exact h2)
theorem chJ6_compare_7cf53 : chB cJ6_compare_7cf53 0 kJ6_compare_7cf53 = true := by decide +kernel
theorem chJ6_bitCount_0f7a4 : chB cJ6_bitCount_0f7a4 0 kJ6_bitCount_0f7a4 = true := by decide +kernel
theorem chJ0_length_8abf5 : chB cJ0_length_8abf5 0 kJ0_length_8abf5 = true := by decide +kernel
theorem chJ0_charAt_5068e : chB cJ0_charAt_5068e 0 kJ0_charAt_5068e = true := by decide +kernel
theorem chJ0_indexOf_0f7a4 : chB cJ0_indexOf_0f7a4 0 kJ0_indexOf_0f7a4 = true := by decide +kernel
theorem chJ0_indexOf_7cf53 : chB cJ0_indexOf_7cf53 0 kJ0_indexOf_7cf53 = true := by decide +kernel
theorem chJ0_coder_7d493 : chB cJ0_coder_7d493 0 kJ0_coder_7d493 = true := by decide +kernel
theorem chJ0_isLatin1_aae02 : chB cJ0_isLatin1_aae02 0 kJ0_isLatin1_aae02 = true := by decide +kernel
theorem chJ0_checkIndex_df160 : chB cJ0_checkIndex_df160 0 kJ0_checkIndex_df160 = true := by decide +kernel
theorem chJ1_charAt_3b067 : chB cJ1_charAt_3b067 0 kJ1_charAt_3b067 = true := by decide +kernel
theorem chJ1_canEncode_9a6ad : chB cJ1_canEncode_9a6ad 0 kJ1_canEncode_9a6ad = true := by decide +kernel
theorem chJ1_indexOf_4cfef : chB cJ1_indexOf_4cfef 0 kJ1_indexOf_4cfef = true := by decide +kernel
theorem chJ1_indexOfChar_4cfef : chB cJ1_indexOfChar_4cfef 0 kJ1_indexOfChar_4cfef = true := by decide +kernel
theorem chJ3_checkIndex_8e157 : chB cJ3_checkIndex_8e157 0 kJ3_checkIndex_8e157 = true := by decide +kernel
theorem chX0_perform : chB cX0_perform 0 kX0_perform = true := by decide +kernel
theorem chX0_callFrom : chB cX0_callFrom 0 kX0_callFrom = true := by decide +kernel
theorem chX0_runBody_0 : chB cX0_runBody 0 (kX0_runBody.take 40) = true := by decide +kernel
theorem chX0_runBody_40 : chB cX0_runBody 145 ((kX0_runBody.drop 40).take 40) = true := by decide +kernel
theorem chX0_runBody_80 : chB cX0_runBody 196 ((kX0_runBody.drop 40).drop 40) = true := by decide +kernel
theorem chX0_runBody : chB cX0_runBody 0 kX0_runBody = true := chB_at 40 chX0_runBody_0 (by decide +kernel) (chB_at 40 chX0_runBody_40 (by decide +kernel) (chX0_runBody_80))
theorem chX1_become_0 : chB cX1_become 0 (kX1_become.take 40) = true := by decide +kernel
theorem chX1_become_40 : chB cX1_become 77 ((kX1_become.drop 40).take 40) = true := by decide +kernel
theorem chX1_become_80 : chB cX1_become 152 ((kX1_become.drop 40).drop 40) = true := by decide +kernel
theorem chX1_become : chB cX1_become 0 kX1_become = true := chB_at 40 chX1_become_0 (by decide +kernel) (chB_at 40 chX1_become_40 (by decide +kernel) (chX1_become_80))
theorem chX1_addSinger : chB cX1_addSinger 0 kX1_addSinger = true := by decide +kernel
theorem chX1_addStone : chB cX1_addStone 0 kX1_addStone = true := by decide +kernel
theorem chX1_highOf : chB cX1_highOf 0 kX1_highOf = true := by decide +kernel
theorem chX1_canSing : chB cX1_canSing 0 kX1_canSing = true := by decide +kernel
theorem chX1_singing : chB cX1_singing 0 kX1_singing = true := by decide +kernel
theorem chX1_measure : chB cX1_measure 0 kX1_measure = true := by decide +kernel
theorem chX1_forceOf_0 : chB cX1_forceOf 0 (kX1_forceOf.take 40) = true := by decide +kernel
theorem chX1_forceOf_40 : chB cX1_forceOf 59 (kX1_forceOf.drop 40) = true := by decide +kernel
theorem chX1_forceOf : chB cX1_forceOf 0 kX1_forceOf = true := chB_at 40 chX1_forceOf_0 (by decide +kernel) (chX1_forceOf_40)
theorem chX1_strengthOf_0 : chB cX1_strengthOf 0 (kX1_strengthOf.take 40) = true := by decide +kernel
theorem chX1_strengthOf_40 : chB cX1_strengthOf 98 ((kX1_strengthOf.drop 40).take 40) = true := by decide +kernel
theorem chX1_strengthOf_80 : chB cX1_strengthOf 157 ((kX1_strengthOf.drop 40).drop 40) = true := by decide +kernel
theorem chX1_strengthOf : chB cX1_strengthOf 0 kX1_strengthOf = true := chB_at 40 chX1_strengthOf_0 (by decide +kernel) (chB_at 40 chX1_strengthOf_40 (by decide +kernel) (chX1_strengthOf_80))
theorem chX1_partners : chB cX1_partners 0 kX1_partners = true := by decide +kernel
theorem chX1_bearing : chB cX1_bearing 0 kX1_bearing = true := by decide +kernel
theorem chX1_allOf : chB cX1_allOf 0 kX1_allOf = true := by decide +kernel
theorem chX1_allNow : chB cX1_allNow 0 kX1_allNow = true := by decide +kernel
theorem chX1_hangs : chB cX1_hangs 0 kX1_hangs = true := by decide +kernel
theorem chX1_sumHanging : chB cX1_sumHanging 0 kX1_sumHanging = true := by decide +kernel
theorem chX1_looseBits : chB cX1_looseBits 0 kX1_looseBits = true := by decide +kernel
theorem chX1_countFallen : chB cX1_countFallen 0 kX1_countFallen = true := by decide +kernel
theorem chX1_sumTired : chB cX1_sumTired 0 kX1_sumTired = true := by decide +kernel
theorem chX1_goBeat_0 : chB cX1_goBeat 0 (kX1_goBeat.take 40) = true := by decide +kernel
theorem chX1_goBeat_40 : chB cX1_goBeat 70 (kX1_goBeat.drop 40) = true := by decide +kernel
theorem chX1_goBeat : chB cX1_goBeat 0 kX1_goBeat = true := chB_at 40 chX1_goBeat_0 (by decide +kernel) (chX1_goBeat_40)
theorem chX1_goRound : chB cX1_goRound 0 kX1_goRound = true := by decide +kernel
theorem chX1_keepNotes : chB cX1_keepNotes 0 kX1_keepNotes = true := by decide +kernel
theorem chX2_read : chB cX2_read 0 kX2_read = true := by decide +kernel
theorem chX2_peek : chB cX2_peek 0 kX2_peek = true := by decide +kernel
theorem chX2_take : chB cX2_take 0 kX2_take = true := by decide +kernel
theorem chX2_readClause : chB cX2_readClause 0 kX2_readClause = true := by decide +kernel
theorem chX2_readWord : chB cX2_readWord 0 kX2_readWord = true := by decide +kernel
theorem chX2_readRest : chB cX2_readRest 0 kX2_readRest = true := by decide +kernel
theorem chX2_readNumber : chB cX2_readNumber 0 kX2_readNumber = true := by decide +kernel
theorem chX2_readEither : chB cX2_readEither 0 kX2_readEither = true := by decide +kernel
theorem chX2_readBoth : chB cX2_readBoth 0 kX2_readBoth = true := by decide +kernel
theorem chX2_readFactor : chB cX2_readFactor 0 kX2_readFactor = true := by decide +kernel
theorem chX2_readTest : chB cX2_readTest 0 kX2_readTest = true := by decide +kernel
theorem chX2_indexOfNext : chB cX2_indexOfNext 0 kX2_indexOfNext = true := by decide +kernel
theorem chX3_clear : chB cX3_clear 0 kX3_clear = true := by decide +kernel
theorem chX3_addToken : chB cX3_addToken 0 kX3_addToken = true := by decide +kernel
theorem chX3_addClause : chB cX3_addClause 0 kX3_addClause = true := by decide +kernel
theorem chX3_gainOf : chB cX3_gainOf 0 kX3_gainOf = true := by decide +kernel
theorem chX3_holds_0 : chB cX3_holds 0 (kX3_holds.take 40) = true := by decide +kernel
theorem chX3_holds_40 : chB cX3_holds 67 ((kX3_holds.drop 40).take 40) = true := by decide +kernel
theorem chX3_holds_80 : chB cX3_holds 132 ((kX3_holds.drop 40).drop 40) = true := by decide +kernel
theorem chX3_holds : chB cX3_holds 0 kX3_holds = true := chB_at 40 chX3_holds_0 (by decide +kernel) (chB_at 40 chX3_holds_40 (by decide +kernel) (chX3_holds_80))
theorem chX4_become_0 : chB cX4_become 0 (kX4_become.take 40) = true := by decide +kernel
theorem chX4_become_40 : chB cX4_become 76 (kX4_become.drop 40) = true := by decide +kernel
theorem chX4_become : chB cX4_become 0 kX4_become = true := chB_at 40 chX4_become_0 (by decide +kernel) (chX4_become_40)
theorem chX5_feed : chB cX5_feed 0 kX5_feed = true := by decide +kernel
theorem chX5_setting : chB cX5_setting 0 kX5_setting = true := by decide +kernel
theorem chX5_singer : chB cX5_singer 0 kX5_singer = true := by decide +kernel
theorem chX5_of_0 : chB cX5_of 0 (kX5_of.take 40) = true := by decide +kernel
theorem chX5_of_40 : chB cX5_of 114 ((kX5_of.drop 40).take 40) = true := by decide +kernel
theorem chX5_of_80 : chB cX5_of 187 ((kX5_of.drop 40).drop 40) = true := by decide +kernel
theorem chX5_of : chB cX5_of 0 kX5_of = true := chB_at 40 chX5_of_0 (by decide +kernel) (chB_at 40 chX5_of_40 (by decide +kernel) (chX5_of_80))
theorem chX5_row : chB cX5_row 0 kX5_row = true := by decide +kernel
theorem chX5_sing : chB cX5_sing 0 kX5_sing = true := by decide +kernel
theorem chX5_tire : chB cX5_tire 0 kX5_tire = true := by decide +kernel
theorem chX5_stone : chB cX5_stone 0 kX5_stone = true := by decide +kernel
theorem chX5_at : chB cX5_at 0 kX5_at = true := by decide +kernel
theorem chX5_prop : chB cX5_prop 0 kX5_prop = true := by decide +kernel
theorem chX5_told : chB cX5_told 0 kX5_told = true := by decide +kernel
theorem chX5_beat : chB cX5_beat 0 kX5_beat = true := by decide +kernel
theorem chX5_on_0 : chB cX5_on 0 (kX5_on.take 40) = true := by decide +kernel
theorem chX5_on_40 : chB cX5_on 72 (kX5_on.drop 40) = true := by decide +kernel
theorem chX5_on : chB cX5_on 0 kX5_on = true := chB_at 40 chX5_on_0 (by decide +kernel) (chX5_on_40)
theorem chX5_steady : chB cX5_steady 0 kX5_steady = true := by decide +kernel
theorem chX5_best : chB cX5_best 0 kX5_best = true := by decide +kernel
theorem chX5_chord : chB cX5_chord 0 kX5_chord = true := by decide +kernel
theorem chX5_needed : chB cX5_needed 0 kX5_needed = true := by decide +kernel
theorem chX5_spare : chB cX5_spare 0 kX5_spare = true := by decide +kernel
theorem chX5_shift : chB cX5_shift 0 kX5_shift = true := by decide +kernel
theorem chX5_ill_0 : chB cX5_ill 0 (kX5_ill.take 40) = true := by decide +kernel
theorem chX5_ill_40 : chB cX5_ill 73 ((kX5_ill.drop 40).take 40) = true := by decide +kernel
theorem chX5_ill_80 : chB cX5_ill 150 ((kX5_ill.drop 40).drop 40) = true := by decide +kernel
theorem chX5_ill : chB cX5_ill 0 kX5_ill = true := chB_at 40 chX5_ill_0 (by decide +kernel) (chB_at 40 chX5_ill_40 (by decide +kernel) (chX5_ill_80))
theorem chX5_canon : chB cX5_canon 0 kX5_canon = true := by decide +kernel
theorem chX5_props : chB cX5_props 0 kX5_props = true := by decide +kernel
theorem chX5_critical_0 : chB cX5_critical 0 (kX5_critical.take 40) = true := by decide +kernel
theorem chX5_critical_40 : chB cX5_critical 73 ((kX5_critical.drop 40).take 40) = true := by decide +kernel
theorem chX5_critical_80 : chB cX5_critical 150 ((kX5_critical.drop 40).drop 40) = true := by decide +kernel
theorem chX5_critical : chB cX5_critical 0 kX5_critical = true := chB_at 40 chX5_critical_0 (by decide +kernel) (chB_at 40 chX5_critical_40 (by decide +kernel) (chX5_critical_80))
theorem chX5_load : chB cX5_load 0 kX5_load = true := by decide +kernel
theorem chX5_dust : chB cX5_dust 0 kX5_dust = true := by decide +kernel
theorem chX5_flat : chB cX5_flat 0 kX5_flat = true := by decide +kernel
theorem chX5_order_0 : chB cX5_order 0 (kX5_order.take 40) = true := by decide +kernel
theorem chX5_order_40 : chB cX5_order 71 (kX5_order.drop 40) = true := by decide +kernel
theorem chX5_order : chB cX5_order 0 kX5_order = true := chB_at 40 chX5_order_0 (by decide +kernel) (chX5_order_40)
theorem chX5_odds : chB cX5_odds 0 kX5_odds = true := by decide +kernel
theorem chX5_mean : chB cX5_mean 0 kX5_mean = true := by decide +kernel
theorem chX5_wage_0 : chB cX5_wage 0 (kX5_wage.take 40) = true := by decide +kernel
theorem chX5_wage_40 : chB cX5_wage 67 (kX5_wage.drop 40) = true := by decide +kernel
theorem chX5_wage : chB cX5_wage 0 kX5_wage = true := chB_at 40 chX5_wage_0 (by decide +kernel) (chX5_wage_40)
theorem chX5_plan_0 : chB cX5_plan 0 (kX5_plan.take 40) = true := by decide +kernel
theorem chX5_plan_40 : chB cX5_plan 74 (kX5_plan.drop 40) = true := by decide +kernel
theorem chX5_plan : chB cX5_plan 0 kX5_plan = true := chB_at 40 chX5_plan_0 (by decide +kernel) (chX5_plan_40)
theorem chX5_planned_0 : chB cX5_planned 0 (kX5_planned.take 40) = true := by decide +kernel
theorem chX5_planned_40 : chB cX5_planned 73 (kX5_planned.drop 40) = true := by decide +kernel
theorem chX5_planned : chB cX5_planned 0 kX5_planned = true := chB_at 40 chX5_planned_0 (by decide +kernel) (chX5_planned_40)
theorem chX5_book_0 : chB cX5_book 0 (kX5_book.take 40) = true := by decide +kernel
theorem chX5_book_40 : chB cX5_book 77 (kX5_book.drop 40) = true := by decide +kernel
theorem chX5_book : chB cX5_book 0 kX5_book = true := chB_at 40 chX5_book_0 (by decide +kernel) (chX5_book_40)
theorem chX5_looked : chB cX5_looked 0 kX5_looked = true := by decide +kernel
theorem chX5_act : chB cX5_act 0 kX5_act = true := by decide +kernel
theorem chX5_trace : chB cX5_trace 0 kX5_trace = true := by decide +kernel
theorem chX5_as : chB cX5_as 0 kX5_as = true := by decide +kernel
theorem chX5_image : chB cX5_image 0 kX5_image = true := by decide +kernel
theorem chX5_undo : chB cX5_undo 0 kX5_undo = true := by decide +kernel
theorem chX5_count : chB cX5_count 0 kX5_count = true := by decide +kernel
theorem chX5_isSinger : chB cX5_isSinger 0 kX5_isSinger = true := by decide +kernel
theorem chX5_isStone : chB cX5_isStone 0 kX5_isStone = true := by decide +kernel
theorem chX5_hasBit : chB cX5_hasBit 0 kX5_hasBit = true := by decide +kernel
theorem chX5_bestNote : chB cX5_bestNote 0 kX5_bestNote = true := by decide +kernel
theorem chX5_measureChords : chB cX5_measureChords 0 kX5_measureChords = true := by decide +kernel
theorem chX5_chordNote : chB cX5_chordNote 0 kX5_chordNote = true := by decide +kernel
theorem chX5_bestChord : chB cX5_bestChord 0 kX5_bestChord = true := by decide +kernel
theorem chX5_singChord : chB cX5_singChord 0 kX5_singChord = true := by decide +kernel
theorem chX5_looseOf : chB cX5_looseOf 0 kX5_looseOf = true := by decide +kernel
theorem chX5_spareBits : chB cX5_spareBits 0 kX5_spareBits = true := by decide +kernel
theorem chX5_setShift : chB cX5_setShift 0 kX5_setShift = true := by decide +kernel
theorem chX5_isDustBy_0 : chB cX5_isDustBy 0 (kX5_isDustBy.take 40) = true := by decide +kernel
theorem chX5_isDustBy_40 : chB cX5_isDustBy 76 (kX5_isDustBy.drop 40) = true := by decide +kernel
theorem chX5_isDustBy : chB cX5_isDustBy 0 kX5_isDustBy = true := chB_at 40 chX5_isDustBy_0 (by decide +kernel) (chX5_isDustBy_40)
theorem chX5_sortHanging_0 : chB cX5_sortHanging 0 (kX5_sortHanging.take 40) = true := by decide +kernel
theorem chX5_sortHanging_40 : chB cX5_sortHanging 70 (kX5_sortHanging.drop 40) = true := by decide +kernel
theorem chX5_sortHanging : chB cX5_sortHanging 0 kX5_sortHanging = true := chB_at 40 chX5_sortHanging_0 (by decide +kernel) (chX5_sortHanging_40)
theorem chX5_inLowestTerms : chB cX5_inLowestTerms 0 kX5_inLowestTerms = true := by decide +kernel
theorem chX5_commonDivisor : chB cX5_commonDivisor 0 kX5_commonDivisor = true := by decide +kernel
theorem chX6_in : chB cX6_in 0 kX6_in = true := by decide +kernel
theorem chX6_isSinger : chB cX6_isSinger 0 kX6_isSinger = true := by decide +kernel
theorem chX6_isStone : chB cX6_isStone 0 kX6_isStone = true := by decide +kernel
theorem chX6_doesSing : chB cX6_doesSing 0 kX6_doesSing = true := by decide +kernel
theorem chX6_keeps : chB cX6_keeps 0 kX6_keeps = true := by decide +kernel
theorem chX6_goesBack : chB cX6_goesBack 0 kX6_goesBack = true := by decide +kernel
theorem chX6_feed : chB cX6_feed 0 kX6_feed = true := by decide +kernel
theorem chX6_here : chB cX6_here 0 kX6_here = true := by decide +kernel
theorem chX6_must : chB cX6_must 0 kX6_must = true := by decide +kernel
theorem chX6_spells : chB cX6_spells 0 kX6_spells = true := by decide +kernel
theorem chX6_figures : chB cX6_figures 0 kX6_figures = true := by decide +kernel
theorem chX6_among : chB cX6_among 0 kX6_among = true := by decide +kernel
theorem chX6_emits : chB cX6_emits 0 kX6_emits = true := by decide +kernel
theorem chX6_factor_0 : chB cX6_factor 0 (kX6_factor.take 40) = true := by decide +kernel
theorem chX6_factor_40 : chB cX6_factor 74 ((kX6_factor.drop 40).take 40) = true := by decide +kernel
theorem chX6_factor_80 : chB cX6_factor 150 ((kX6_factor.drop 40).drop 40) = true := by decide +kernel
theorem chX6_factor : chB cX6_factor 0 kX6_factor = true := chB_at 40 chX6_factor_0 (by decide +kernel) (chB_at 40 chX6_factor_40 (by decide +kernel) (chX6_factor_80))
theorem chX6_every : chB cX6_every 0 kX6_every = true := by decide +kernel
theorem chX6_some : chB cX6_some 0 kX6_some = true := by decide +kernel
theorem chX6_much : chB cX6_much 0 kX6_much = true := by decide +kernel
theorem chX6_tellsHere : chB cX6_tellsHere 0 kX6_tellsHere = true := by decide +kernel
theorem chX6_clauseHere : chB cX6_clauseHere 0 kX6_clauseHere = true := by decide +kernel
theorem chX6_setting_0 : chB cX6_setting 0 (kX6_setting.take 40) = true := by decide +kernel
theorem chX6_setting_40 : chB cX6_setting 71 ((kX6_setting.drop 40).take 40) = true := by decide +kernel
theorem chX6_setting_80 : chB cX6_setting 143 ((kX6_setting.drop 40).drop 40) = true := by decide +kernel
theorem chX6_setting : chB cX6_setting 0 kX6_setting = true := chB_at 40 chX6_setting_0 (by decide +kernel) (chB_at 40 chX6_setting_40 (by decide +kernel) (chX6_setting_80))
theorem chX6_tellsOf : chB cX6_tellsOf 0 kX6_tellsOf = true := by decide +kernel
theorem chX6_looks_0 : chB cX6_looks 0 (kX6_looks.take 40) = true := by decide +kernel
theorem chX6_looks_40 : chB cX6_looks 60 ((kX6_looks.drop 40).take 40) = true := by decide +kernel
theorem chX6_looks_80 : chB cX6_looks 124 (((kX6_looks.drop 40).drop 40).take 40) = true := by decide +kernel
theorem chX6_looks_120 : chB cX6_looks 199 ((((kX6_looks.drop 40).drop 40).drop 40).take 40) = true := by decide +kernel
theorem chX6_looks_160 : chB cX6_looks 278 (((((kX6_looks.drop 40).drop 40).drop 40).drop 40).take 40) = true := by decide +kernel
theorem chX6_looks_200 : chB cX6_looks 353 (((((kX6_looks.drop 40).drop 40).drop 40).drop 40).drop 40) = true := by decide +kernel
theorem chX6_looks : chB cX6_looks 0 kX6_looks = true := chB_at 40 chX6_looks_0 (by decide +kernel) (chB_at 40 chX6_looks_40 (by decide +kernel) (chB_at 40 chX6_looks_80 (by decide +kernel) (chB_at 40 chX6_looks_120 (by decide +kernel) (chB_at 40 chX6_looks_160 (by decide +kernel) (chX6_looks_200)))))
theorem chX6_strengthOf_0 : chB cX6_strengthOf 0 (kX6_strengthOf.take 40) = true := by decide +kernel
theorem chX6_strengthOf_40 : chB cX6_strengthOf 97 ((kX6_strengthOf.drop 40).take 40) = true := by decide +kernel
theorem chX6_strengthOf_80 : chB cX6_strengthOf 155 ((kX6_strengthOf.drop 40).drop 40) = true := by decide +kernel
theorem chX6_strengthOf : chB cX6_strengthOf 0 kX6_strengthOf = true := chB_at 40 chX6_strengthOf_0 (by decide +kernel) (chB_at 40 chX6_strengthOf_40 (by decide +kernel) (chX6_strengthOf_80))
theorem chX6_forceOf : chB cX6_forceOf 0 kX6_forceOf = true := by decide +kernel
theorem chX6_isTune : chB cX6_isTune 0 kX6_isTune = true := by decide +kernel
theorem chX6_looksForForces : chB cX6_looksForForces 0 kX6_looksForForces = true := by decide +kernel
theorem chX6_isOf : chB cX6_isOf 0 kX6_isOf = true := by decide +kernel
theorem chX6_tunesOf : chB cX6_tunesOf 0 kX6_tunesOf = true := by decide +kernel
theorem chX6_bearsOf : chB cX6_bearsOf 0 kX6_bearsOf = true := by decide +kernel
theorem chX6_allBy : chB cX6_allBy 0 kX6_allBy = true := by decide +kernel
theorem chX6_singing : chB cX6_singing 0 kX6_singing = true := by decide +kernel
theorem chX6_allNow : chB cX6_allNow 0 kX6_allNow = true := by decide +kernel
theorem chX6_doesHang : chB cX6_doesHang 0 kX6_doesHang = true := by decide +kernel
theorem chX6_looseBy : chB cX6_looseBy 0 kX6_looseBy = true := by decide +kernel
theorem chX6_fallenMany : chB cX6_fallenMany 0 kX6_fallenMany = true := by decide +kernel
theorem chX6_sizeOf : chB cX6_sizeOf 0 kX6_sizeOf = true := by decide +kernel
theorem chX6_hangingWeight : chB cX6_hangingWeight 0 kX6_hangingWeight = true := by decide +kernel
theorem chX6_singer_0 : chB cX6_singer 0 (kX6_singer.take 40) = true := by decide +kernel
theorem chX6_singer_40 : chB cX6_singer 71 ((kX6_singer.drop 40).take 40) = true := by decide +kernel
theorem chX6_singer_80 : chB cX6_singer 135 ((kX6_singer.drop 40).drop 40) = true := by decide +kernel
theorem chX6_singer : chB cX6_singer 0 kX6_singer = true := chB_at 40 chX6_singer_0 (by decide +kernel) (chB_at 40 chX6_singer_40 (by decide +kernel) (chX6_singer_80))
theorem chX6_highOf : chB cX6_highOf 0 kX6_highOf = true := by decide +kernel
theorem chX6_canSing : chB cX6_canSing 0 kX6_canSing = true := by decide +kernel
theorem chX6_of_0 : chB cX6_of 0 (kX6_of.take 40) = true := by decide +kernel
theorem chX6_of_40 : chB cX6_of 106 (kX6_of.drop 40) = true := by decide +kernel
theorem chX6_of : chB cX6_of 0 kX6_of = true := chB_at 40 chX6_of_0 (by decide +kernel) (chX6_of_40)
theorem chX6_row : chB cX6_row 0 kX6_row = true := by decide +kernel
theorem chX6_sing : chB cX6_sing 0 kX6_sing = true := by decide +kernel
theorem chX6_tire : chB cX6_tire 0 kX6_tire = true := by decide +kernel
theorem chX6_stone : chB cX6_stone 0 kX6_stone = true := by decide +kernel
theorem chX6_at : chB cX6_at 0 kX6_at = true := by decide +kernel
theorem chX6_prop : chB cX6_prop 0 kX6_prop = true := by decide +kernel
theorem chX6_told : chB cX6_told 0 kX6_told = true := by decide +kernel
theorem chX6_goesBy_0 : chB cX6_goesBy 0 (kX6_goesBy.take 40) = true := by decide +kernel
theorem chX6_goesBy_40 : chB cX6_goesBy 63 ((kX6_goesBy.drop 40).take 40) = true := by decide +kernel
theorem chX6_goesBy_80 : chB cX6_goesBy 139 ((kX6_goesBy.drop 40).drop 40) = true := by decide +kernel
theorem chX6_goesBy : chB cX6_goesBy 0 kX6_goesBy = true := chB_at 40 chX6_goesBy_0 (by decide +kernel) (chB_at 40 chX6_goesBy_40 (by decide +kernel) (chX6_goesBy_80))
theorem chX6_goes : chB cX6_goes 0 kX6_goes = true := by decide +kernel
theorem chX6_beat : chB cX6_beat 0 kX6_beat = true := by decide +kernel
theorem chX6_on_0 : chB cX6_on 0 (kX6_on.take 40) = true := by decide +kernel
theorem chX6_on_40 : chB cX6_on 74 (kX6_on.drop 40) = true := by decide +kernel
theorem chX6_on : chB cX6_on 0 kX6_on = true := chB_at 40 chX6_on_0 (by decide +kernel) (chX6_on_40)
theorem chX6_steady : chB cX6_steady 0 kX6_steady = true := by decide +kernel
theorem chX6_looksForNote_0 : chB cX6_looksForNote 0 (kX6_looksForNote.take 40) = true := by decide +kernel
theorem chX6_looksForNote_40 : chB cX6_looksForNote 63 (kX6_looksForNote.drop 40) = true := by decide +kernel
theorem chX6_looksForNote : chB cX6_looksForNote 0 kX6_looksForNote = true := chB_at 40 chX6_looksForNote_0 (by decide +kernel) (chX6_looksForNote_40)
theorem chX6_best : chB cX6_best 0 kX6_best = true := by decide +kernel
theorem chX6_noteAbove : chB cX6_noteAbove 0 kX6_noteAbove = true := by decide +kernel
theorem chX6_chordsFrom_0 : chB cX6_chordsFrom 0 (kX6_chordsFrom.take 40) = true := by decide +kernel
theorem chX6_chordsFrom_40 : chB cX6_chordsFrom 66 (kX6_chordsFrom.drop 40) = true := by decide +kernel
theorem chX6_chordsFrom : chB cX6_chordsFrom 0 kX6_chordsFrom = true := chB_at 40 chX6_chordsFrom_0 (by decide +kernel) (chX6_chordsFrom_40)
theorem chX6_chord_0 : chB cX6_chord 0 (kX6_chord.take 40) = true := by decide +kernel
theorem chX6_chord_40 : chB cX6_chord 63 ((kX6_chord.drop 40).take 40) = true := by decide +kernel
theorem chX6_chord_80 : chB cX6_chord 136 ((kX6_chord.drop 40).drop 40) = true := by decide +kernel
theorem chX6_chord : chB cX6_chord 0 kX6_chord = true := chB_at 40 chX6_chord_0 (by decide +kernel) (chB_at 40 chX6_chord_40 (by decide +kernel) (chX6_chord_80))
theorem chX6_needed : chB cX6_needed 0 kX6_needed = true := by decide +kernel
theorem chX6_looseMany : chB cX6_looseMany 0 kX6_looseMany = true := by decide +kernel
theorem chX6_spare : chB cX6_spare 0 kX6_spare = true := by decide +kernel
theorem chX6_fewestOf : chB cX6_fewestOf 0 kX6_fewestOf = true := by decide +kernel
theorem chX6_shift_0 : chB cX6_shift 0 (kX6_shift.take 40) = true := by decide +kernel
theorem chX6_shift_40 : chB cX6_shift 71 (kX6_shift.drop 40) = true := by decide +kernel
theorem chX6_shift : chB cX6_shift 0 kX6_shift = true := chB_at 40 chX6_shift_0 (by decide +kernel) (chX6_shift_40)
theorem chX6_ill_0 : chB cX6_ill 0 (kX6_ill.take 40) = true := by decide +kernel
theorem chX6_ill_40 : chB cX6_ill 63 ((kX6_ill.drop 40).take 40) = true := by decide +kernel
theorem chX6_ill_80 : chB cX6_ill 140 ((kX6_ill.drop 40).drop 40) = true := by decide +kernel
theorem chX6_ill : chB cX6_ill 0 kX6_ill = true := chB_at 40 chX6_ill_0 (by decide +kernel) (chB_at 40 chX6_ill_40 (by decide +kernel) (chX6_ill_80))
theorem chX6_goesRound : chB cX6_goesRound 0 kX6_goesRound = true := by decide +kernel
theorem chX6_canon : chB cX6_canon 0 kX6_canon = true := by decide +kernel
theorem chX6_weightOf : chB cX6_weightOf 0 kX6_weightOf = true := by decide +kernel
theorem chX6_props : chB cX6_props 0 kX6_props = true := by decide +kernel
theorem chX6_critical_0 : chB cX6_critical 0 (kX6_critical.take 40) = true := by decide +kernel
theorem chX6_critical_40 : chB cX6_critical 68 ((kX6_critical.drop 40).take 40) = true := by decide +kernel
theorem chX6_critical_80 : chB cX6_critical 132 ((kX6_critical.drop 40).drop 40) = true := by decide +kernel
theorem chX6_critical : chB cX6_critical 0 kX6_critical = true := chB_at 40 chX6_critical_0 (by decide +kernel) (chB_at 40 chX6_critical_40 (by decide +kernel) (chX6_critical_80))
theorem chX6_load : chB cX6_load 0 kX6_load = true := by decide +kernel
theorem chX6_dust_0 : chB cX6_dust 0 (kX6_dust.take 40) = true := by decide +kernel
theorem chX6_dust_40 : chB cX6_dust 69 (kX6_dust.drop 40) = true := by decide +kernel
theorem chX6_dust : chB cX6_dust 0 kX6_dust = true := chB_at 40 chX6_dust_0 (by decide +kernel) (chX6_dust_40)
theorem chX6_isDust : chB cX6_isDust 0 kX6_isDust = true := by decide +kernel
theorem chX6_isFlat : chB cX6_isFlat 0 kX6_isFlat = true := by decide +kernel
theorem chX6_flat : chB cX6_flat 0 kX6_flat = true := by decide +kernel
theorem chX6_lightest_0 : chB cX6_lightest 0 (kX6_lightest.take 40) = true := by decide +kernel
theorem chX6_lightest_40 : chB cX6_lightest 70 (kX6_lightest.drop 40) = true := by decide +kernel
theorem chX6_lightest : chB cX6_lightest 0 kX6_lightest = true := chB_at 40 chX6_lightest_0 (by decide +kernel) (chX6_lightest_40)
theorem chX6_order : chB cX6_order 0 kX6_order = true := by decide +kernel
theorem chX6_lowest : chB cX6_lowest 0 kX6_lowest = true := by decide +kernel
theorem chX6_odds : chB cX6_odds 0 kX6_odds = true := by decide +kernel
theorem chX6_mean : chB cX6_mean 0 kX6_mean = true := by decide +kernel
theorem chX6_wage_0 : chB cX6_wage 0 (kX6_wage.take 40) = true := by decide +kernel
theorem chX6_wage_40 : chB cX6_wage 66 (kX6_wage.drop 40) = true := by decide +kernel
theorem chX6_wage : chB cX6_wage 0 kX6_wage = true := chB_at 40 chX6_wage_0 (by decide +kernel) (chX6_wage_40)
theorem chX6_plan_0 : chB cX6_plan 0 (kX6_plan.take 40) = true := by decide +kernel
theorem chX6_plan_40 : chB cX6_plan 68 (kX6_plan.drop 40) = true := by decide +kernel
theorem chX6_plan : chB cX6_plan 0 kX6_plan = true := chB_at 40 chX6_plan_0 (by decide +kernel) (chX6_plan_40)
theorem chX6_planned_0 : chB cX6_planned 0 (kX6_planned.take 40) = true := by decide +kernel
theorem chX6_planned_40 : chB cX6_planned 63 (kX6_planned.drop 40) = true := by decide +kernel
theorem chX6_planned : chB cX6_planned 0 kX6_planned = true := chB_at 40 chX6_planned_0 (by decide +kernel) (chX6_planned_40)
theorem chX6_book_0 : chB cX6_book 0 (kX6_book.take 40) = true := by decide +kernel
theorem chX6_book_40 : chB cX6_book 69 (kX6_book.drop 40) = true := by decide +kernel
theorem chX6_book : chB cX6_book 0 kX6_book = true := chB_at 40 chX6_book_0 (by decide +kernel) (chX6_book_40)
theorem chX6_looked : chB cX6_looked 0 kX6_looked = true := by decide +kernel
theorem chX6_ranBody : chB cX6_ranBody 0 kX6_ranBody = true := by decide +kernel
theorem chX6_isUnder : chB cX6_isUnder 0 kX6_isUnder = true := by decide +kernel
theorem chX6_plainSings : chB cX6_plainSings 0 kX6_plainSings = true := by decide +kernel
theorem chX6_singsActs : chB cX6_singsActs 0 kX6_singsActs = true := by decide +kernel
theorem chX6_plainBears : chB cX6_plainBears 0 kX6_plainBears = true := by decide +kernel
theorem chX6_bearsActs : chB cX6_bearsActs 0 kX6_bearsActs = true := by decide +kernel
theorem chX6_plainTells : chB cX6_plainTells 0 kX6_plainTells = true := by decide +kernel
theorem chX6_tellsActs : chB cX6_tellsActs 0 kX6_tellsActs = true := by decide +kernel
theorem chX6_act : chB cX6_act 0 kX6_act = true := by decide +kernel
theorem chX6_trace : chB cX6_trace 0 kX6_trace = true := by decide +kernel
theorem chX6_as : chB cX6_as 0 kX6_as = true := by decide +kernel
theorem chX6_image : chB cX6_image 0 kX6_image = true := by decide +kernel
theorem chX6_undo : chB cX6_undo 0 kX6_undo = true := by decide +kernel
theorem chX6_count : chB cX6_count 0 kX6_count = true := by decide +kernel
theorem chL_law_0 : chB cL_law 0 (kL_law.take 40) = true := by decide +kernel
theorem chL_law_40 : chB cL_law 232 ((kL_law.drop 40).take 40) = true := by decide +kernel
theorem chL_law_80 : chB cL_law 282 (((kL_law.drop 40).drop 40).take 40) = true := by decide +kernel
theorem chL_law_120 : chB cL_law 330 ((((kL_law.drop 40).drop 40).drop 40).take 40) = true := by decide +kernel
theorem chL_law_160 : chB cL_law 378 (((((kL_law.drop 40).drop 40).drop 40).drop 40).take 40) = true := by decide +kernel
theorem chL_law_200 : chB cL_law 428 ((((((kL_law.drop 40).drop 40).drop 40).drop 40).drop 40).take 40) = true := by decide +kernel
theorem chL_law_240 : chB cL_law 476 (((((((kL_law.drop 40).drop 40).drop 40).drop 40).drop 40).drop 40).take 40) = true := by decide +kernel
theorem chL_law_280 : chB cL_law 534 ((((((((kL_law.drop 40).drop 40).drop 40).drop 40).drop 40).drop 40).drop 40).take 40) = true := by decide +kernel
theorem chL_law_320 : chB cL_law 588 (((((((((kL_law.drop 40).drop 40).drop 40).drop 40).drop 40).drop 40).drop 40).drop 40).take 40) = true := by decide +kernel
theorem chL_law_360 : chB cL_law 640 ((((((((((kL_law.drop 40).drop 40).drop 40).drop 40).drop 40).drop 40).drop 40).drop 40).drop 40).take 40) = true := by decide +kernel
theorem chL_law_400 : chB cL_law 702 (((((((((((kL_law.drop 40).drop 40).drop 40).drop 40).drop 40).drop 40).drop 40).drop 40).drop 40).drop 40).take 40) = true := by decide +kernel
theorem chL_law_440 : chB cL_law 754 ((((((((((((kL_law.drop 40).drop 40).drop 40).drop 40).drop 40).drop 40).drop 40).drop 40).drop 40).drop 40).drop 40).take 40) = true := by decide +kernel
theorem chL_law_480 : chB cL_law 802 (((((((((((((kL_law.drop 40).drop 40).drop 40).drop 40).drop 40).drop 40).drop 40).drop 40).drop 40).drop 40).drop 40).drop 40).take 40) = true := by decide +kernel
theorem chL_law_520 : chB cL_law 860 ((((((((((((((kL_law.drop 40).drop 40).drop 40).drop 40).drop 40).drop 40).drop 40).drop 40).drop 40).drop 40).drop 40).drop 40).drop 40).take 40) = true := by decide +kernel
theorem chL_law_560 : chB cL_law 916 (((((((((((((((kL_law.drop 40).drop 40).drop 40).drop 40).drop 40).drop 40).drop 40).drop 40).drop 40).drop 40).drop 40).drop 40).drop 40).drop 40).take 40) = true := by decide +kernel
theorem chL_law_600 : chB cL_law 964 ((((((((((((((((kL_law.drop 40).drop 40).drop 40).drop 40).drop 40).drop 40).drop 40).drop 40).drop 40).drop 40).drop 40).drop 40).drop 40).drop 40).drop 40).take 40) = true := by decide +kernel
theorem chL_law_640 : chB cL_law 1014 (((((((((((((((((kL_law.drop 40).drop 40).drop 40).drop 40).drop 40).drop 40).drop 40).drop 40).drop 40).drop 40).drop 40).drop 40).drop 40).drop 40).drop 40).drop 40).take 40) = true := by decide +kernel
theorem chL_law_680 : chB cL_law 1066 ((((((((((((((((((kL_law.drop 40).drop 40).drop 40).drop 40).drop 40).drop 40).drop 40).drop 40).drop 40).drop 40).drop 40).drop 40).drop 40).drop 40).drop 40).drop 40).drop 40).take 40) = true := by decide +kernel
theorem chL_law_720 : chB cL_law 1118 (((((((((((((((((((kL_law.drop 40).drop 40).drop 40).drop 40).drop 40).drop 40).drop 40).drop 40).drop 40).drop 40).drop 40).drop 40).drop 40).drop 40).drop 40).drop 40).drop 40).drop 40).take 40) = true := by decide +kernel
theorem chL_law_760 : chB cL_law 1166 ((((((((((((((((((((kL_law.drop 40).drop 40).drop 40).drop 40).drop 40).drop 40).drop 40).drop 40).drop 40).drop 40).drop 40).drop 40).drop 40).drop 40).drop 40).drop 40).drop 40).drop 40).drop 40).take 40) = true := by decide +kernel
theorem chL_law_800 : chB cL_law 1222 ((((((((((((((((((((kL_law.drop 40).drop 40).drop 40).drop 40).drop 40).drop 40).drop 40).drop 40).drop 40).drop 40).drop 40).drop 40).drop 40).drop 40).drop 40).drop 40).drop 40).drop 40).drop 40).drop 40) = true := by decide +kernel
theorem chL_law : chB cL_law 0 kL_law = true := chB_at 40 chL_law_0 (by decide +kernel) (chB_at 40 chL_law_40 (by decide +kernel) (chB_at 40 chL_law_80 (by decide +kernel) (chB_at 40 chL_law_120 (by decide +kernel) (chB_at 40 chL_law_160 (by decide +kernel) (chB_at 40 chL_law_200 (by decide +kernel) (chB_at 40 chL_law_240 (by decide +kernel) (chB_at 40 chL_law_280 (by decide +kernel) (chB_at 40 chL_law_320 (by decide +kernel) (chB_at 40 chL_law_360 (by decide +kernel) (chB_at 40 chL_law_400 (by decide +kernel) (chB_at 40 chL_law_440 (by decide +kernel) (chB_at 40 chL_law_480 (by decide +kernel) (chB_at 40 chL_law_520 (by decide +kernel) (chB_at 40 chL_law_560 (by decide +kernel) (chB_at 40 chL_law_600 (by decide +kernel) (chB_at 40 chL_law_640 (by decide +kernel) (chB_at 40 chL_law_680 (by decide +kernel) (chB_at 40 chL_law_720 (by decide +kernel) (chB_at 40 chL_law_760 (by decide +kernel) (chL_law_800))))))))))))))))))))
end
section
/-! what the instructions' operands link to -/
def TO (c : Nat) : u_T := match clsT[c]? with
  | some q => q.2.1
  | none => TX0
def strX : List String := ["ease ", "weary ", "loud ", "draught ", "skvntb", "<=>"]
def strTab : List (String × Nat × Nat) := [(RX2, 49, 0), (RX2, 100, 4), (RX2, 106, 5), (RX2, 59, 1), (RX2, 61, 2), (RX2, 63, 3), (RX6, 111, 0), (RX6, 117, 1), (RX6, 119, 2), (RX6, 93, 4), (RX6, 99, 5), (RX6, 124, 3)]
def nstM : List (String × Nat × MethodName) := [(RX2, 32, yX3_clear), (RX1, 93, yX5_hasBit)]
def nstF : List (String × Nat × Nat) := [(RX0, 23, 2), (RX0, 30, 1)]
def staN : List String := ["CHORD_ABOVE", "KIND_ABOVE", "BODIES"]

/-- the operand of a row of a method of the class own -/
def eok (own : String) : CE → Prop
  | (_, _, .getfield i, a, b) => if a = 20 then Cond.fieldLink own i "java/lang/String" (if b = 0 then "value" else "coder") (if b = 0 then "[B" else "B") ∈ wBig else Cond.fieldLink own i (TO a b).1 (TO a b).2.1 (TO a b).2.2.1 ∈ wBig
  | (_, _, .putfield i, a, b) => Cond.fieldLink own i (TO a b).1 (TO a b).2.1 (TO a b).2.2.1 ∈ wBig
  | (_, _, .getstatic i, a, b) => if a = 0 then Cond.fieldLink own i "java/lang/String" "COMPACT_STRINGS" "Z" ∈ wBig else if a = 1 then ((own, i, b) ∈ nstF ∨ Cond.fieldLink own i "ChoirRoof" (staN.getD b "") "[I" ∈ wBig) else if a = 2 then Cond.fieldLink own i "jdk/internal/util/Preconditions" "SIOOBE_FORMATTER" "Ljava/util/function/BiFunction;" ∈ wBig else True
  | (_, _, .ldc i, a, b) => if a = 1 then (own, i, b) ∈ strTab else Cond.constant own i (Int32.ofNat b) ∈ wBig
  | (_, _, .ldc_w i, _, b) => Cond.constant own i (Int32.ofNat b) ∈ wBig
  | (_, _, .ldc2_w i, _, _) => Cond.constantLong own i (-9223372036854775808) ∈ wBig
  | (_, _, .invokevirtual i, a, _) => ((own, i, yO a) ∈ nstM ∨ Cond.methodLink own i (yO a) ∈ wBig)
  | (_, _, .invokestatic i, a, _) => if a = 1000 then Cond.methodLink own i Lib.Math.min.name ∈ wBig else if a = 1001 then Cond.methodLink own i Lib.Math.max.name ∈ wBig else if a = 1002 then Cond.methodLink own i Lib.Math.abs.name ∈ wBig else if a = 1003 then Cond.methodLink own i arraycopyName ∈ wBig else if a = 2000 then True else ((own, i, yO a) ∈ nstM ∨ Cond.methodLink own i (yO a) ∈ wBig)
  | _ => True
def eoks (own : String) : List CE → Prop
  | [] => True
  | q :: r => eok own q ∧ eoks own r
theorem lRJ6_265 : Cond.constant RJ6 265 (Int32.ofNat 1431655765) ∈ wBig := wb3 (i := 111) rfl rfl
theorem lRJ6_266 : Cond.constant RJ6 266 (Int32.ofNat 858993459) ∈ wBig := wb3 (i := 112) rfl rfl
theorem lRJ6_267 : Cond.constant RJ6 267 (Int32.ofNat 252645135) ∈ wBig := wb3 (i := 113) rfl rfl
theorem lRJ0_9 : Cond.fieldLink RJ0 9 "java/lang/String" "value" "[B" ∈ wBig := wb6 (i := 85) rfl rfl
theorem lRJ0_335 : ((RJ0, 335, yO 6) ∈ nstM ∨ Cond.methodLink RJ0 335 (yO 6) ∈ wBig) := Or.inr (wb2 (i := 63) rfl rfl)
theorem lRJ0_492 : ((RJ0, 492, yO 7) ∈ nstM ∨ Cond.methodLink RJ0 492 (yO 7) ∈ wBig) := Or.inr (wb2 (i := 73) rfl rfl)
theorem lRJ0_495 : ((RJ0, 495, yO 9) ∈ nstM ∨ Cond.methodLink RJ0 495 (yO 9) ∈ wBig) := Or.inr (wb2 (i := 77) rfl rfl)
theorem lRJ0_633 : ((RJ0, 633, yO 5) ∈ nstM ∨ Cond.methodLink RJ0 633 (yO 5) ∈ wBig) := Or.inr (wb2 (i := 144) rfl rfl)
theorem lRJ0_505 : ((RJ0, 505, yO 2) ∈ nstM ∨ Cond.methodLink RJ0 505 (yO 2) ∈ wBig) := Or.inr (wb2 (i := 148) rfl rfl)
theorem lRJ0_637 : ((RJ0, 637, yO 11) ∈ nstM ∨ Cond.methodLink RJ0 637 (yO 11) ∈ wBig) := Or.inr (wb2 (i := 149) rfl rfl)
theorem lRJ0_38 : Cond.fieldLink RJ0 38 "java/lang/String" "COMPACT_STRINGS" "Z" ∈ wBig := wb2 (i := 67) rfl rfl
theorem lRJ0_15 : Cond.fieldLink RJ0 15 "java/lang/String" "coder" "B" ∈ wBig := wb6 (i := 86) rfl rfl
theorem lRJ0_1053 : Cond.fieldLink RJ0 1053 "jdk/internal/util/Preconditions" "SIOOBE_FORMATTER" "Ljava/util/function/BiFunction;" ∈ wBig := wb2 (i := 83) rfl rfl
theorem lRJ0_1059 : ((RJ0, 1059, yO 13) ∈ nstM ∨ Cond.methodLink RJ0 1059 (yO 13) ∈ wBig) := Or.inr (wb2 (i := 85) rfl rfl)
theorem lRJ1_9 : ((RJ1, 9, yO 8) ∈ nstM ∨ Cond.methodLink RJ1 9 (yO 8) ∈ wBig) := Or.inr (wb2 (i := 80) rfl rfl)
theorem lRJ1_88 : ((RJ1, 88, yO 10) ∈ nstM ∨ Cond.methodLink RJ1 88 (yO 10) ∈ wBig) := Or.inr (wb2 (i := 152) rfl rfl)
theorem lRJ1_92 : Cond.methodLink RJ1 92 Lib.Math.max.name ∈ wBig := wb2 (i := 155) rfl rfl
theorem lRJ1_38 : Cond.methodLink RJ1 38 Lib.Math.min.name ∈ wBig := wb2 (i := 158) rfl rfl
theorem lRJ1_95 : ((RJ1, 95, yO 12) ∈ nstM ∨ Cond.methodLink RJ1 95 (yO 12) ∈ wBig) := Or.inr (wb2 (i := 159) rfl rfl)
theorem lRX0_15 : Cond.fieldLink RX0 15 (TO 0 1).1 (TO 0 1).2.1 (TO 0 1).2.2.1 ∈ wBig := wb1 (i := 54) rfl rfl
theorem lRX0_19 : ((RX0, 19, yO 15) ∈ nstM ∨ Cond.methodLink RX0 19 (yO 15) ∈ wBig) := Or.inr (wb4 (i := 52) rfl rfl)
theorem lRX0_23 : ((RX0, 23, 2) ∈ nstF ∨ Cond.fieldLink RX0 23 "ChoirRoof" (staN.getD 2 "") "[I" ∈ wBig) := Or.inl (by decide +kernel)
theorem lRX0_26 : ((RX0, 26, yO 16) ∈ nstM ∨ Cond.methodLink RX0 26 (yO 16) ∈ wBig) := Or.inr (wb4 (i := 58) rfl rfl)
theorem lRX0_30 : ((RX0, 30, 1) ∈ nstF ∨ Cond.fieldLink RX0 30 "ChoirRoof" (staN.getD 1 "") "[I" ∈ wBig) := Or.inl (by decide +kernel)
theorem lRX0_33 : Cond.fieldLink RX0 33 (TO 0 3).1 (TO 0 3).2.1 (TO 0 3).2.2.1 ∈ wBig := wb1 (i := 58) rfl rfl
theorem lRX0_9 : Cond.fieldLink RX0 9 (TO 0 4).1 (TO 0 4).2.1 (TO 0 4).2.2.1 ∈ wBig := wb1 (i := 60) rfl rfl
theorem lRX0_36 : Cond.fieldLink RX0 36 (TO 0 0).1 (TO 0 0).2.1 (TO 0 0).2.2.1 ∈ wBig := wb1 (i := 52) rfl rfl
theorem lRX0_39 : Cond.fieldLink RX0 39 (TO 0 2).1 (TO 0 2).2.1 (TO 0 2).2.2.1 ∈ wBig := wb1 (i := 56) rfl rfl
theorem lRX1_49 : Cond.fieldLink RX1 49 (TO 1 0).1 (TO 1 0).2.1 (TO 1 0).2.2.1 ∈ wBig := wb1 (i := 176) rfl rfl
theorem lRX1_53 : Cond.fieldLink RX1 53 (TO 1 1).1 (TO 1 1).2.1 (TO 1 1).2.2.1 ∈ wBig := wb1 (i := 178) rfl rfl
theorem lRX1_56 : Cond.fieldLink RX1 56 (TO 1 2).1 (TO 1 2).2.1 (TO 1 2).2.2.1 ∈ wBig := wb1 (i := 180) rfl rfl
theorem lRX1_45 : Cond.fieldLink RX1 45 (TO 1 3).1 (TO 1 3).2.1 (TO 1 3).2.2.1 ∈ wBig := wb1 (i := 182) rfl rfl
theorem lRX1_9 : Cond.fieldLink RX1 9 (TO 1 4).1 (TO 1 4).2.1 (TO 1 4).2.2.1 ∈ wBig := wb1 (i := 184) rfl rfl
theorem lRX1_59 : Cond.methodLink RX1 59 arraycopyName ∈ wBig := wb3 (i := 122) rfl rfl
theorem lRX1_15 : Cond.fieldLink RX1 15 (TO 1 5).1 (TO 1 5).2.1 (TO 1 5).2.2.1 ∈ wBig := wb1 (i := 186) rfl rfl
theorem lRX1_18 : Cond.fieldLink RX1 18 (TO 1 6).1 (TO 1 6).2.1 (TO 1 6).2.2.1 ∈ wBig := wb1 (i := 188) rfl rfl
theorem lRX1_21 : Cond.fieldLink RX1 21 (TO 1 7).1 (TO 1 7).2.1 (TO 1 7).2.2.1 ∈ wBig := wb1 (i := 190) rfl rfl
theorem lRX1_24 : Cond.fieldLink RX1 24 (TO 1 8).1 (TO 1 8).2.1 (TO 1 8).2.2.1 ∈ wBig := wb1 (i := 192) rfl rfl
theorem lRX1_27 : Cond.fieldLink RX1 27 (TO 1 9).1 (TO 1 9).2.1 (TO 1 9).2.2.1 ∈ wBig := wb1 (i := 194) rfl rfl
theorem lRX1_30 : Cond.fieldLink RX1 30 (TO 1 10).1 (TO 1 10).2.1 (TO 1 10).2.2.1 ∈ wBig := wb1 (i := 196) rfl rfl
theorem lRX1_33 : Cond.fieldLink RX1 33 (TO 1 11).1 (TO 1 11).2.1 (TO 1 11).2.2.1 ∈ wBig := wb1 (i := 198) rfl rfl
theorem lRX1_36 : Cond.fieldLink RX1 36 (TO 1 12).1 (TO 1 12).2.1 (TO 1 12).2.2.1 ∈ wBig := wb1 (i := 200) rfl rfl
theorem lRX1_65 : Cond.methodLink RX1 65 Lib.Math.min.name ∈ wBig := wb3 (i := 46) rfl rfl
theorem lRX1_71 : ((RX1, 71, yO 20) ∈ nstM ∨ Cond.methodLink RX1 71 (yO 20) ∈ wBig) := Or.inr (wb3 (i := 42) rfl rfl)
theorem lRX1_39 : Cond.fieldLink RX1 39 (TO 1 13).1 (TO 1 13).2.1 (TO 1 13).2.2.1 ∈ wBig := wb1 (i := 202) rfl rfl
theorem lRX1_75 : ((RX1, 75, yO 24) ∈ nstM ∨ Cond.methodLink RX1 75 (yO 24) ∈ wBig) := Or.inr (wb2 (i := 230) rfl rfl)
theorem lRX1_42 : Cond.fieldLink RX1 42 (TO 1 14).1 (TO 1 14).2.1 (TO 1 14).2.2.1 ∈ wBig := wb1 (i := 204) rfl rfl
theorem lRX1_78 : ((RX1, 78, yO 25) ∈ nstM ∨ Cond.methodLink RX1 78 (yO 25) ∈ wBig) := Or.inr (wb2 (i := 234) rfl rfl)
theorem lRX1_81 : ((RX1, 81, yO 53) ∈ nstM ∨ Cond.methodLink RX1 81 (yO 53) ∈ wBig) := Or.inr (wb2 (i := 238) rfl rfl)
theorem lRX1_87 : Cond.methodLink RX1 87 Lib.Math.max.name ∈ wBig := wb3 (i := 10) rfl rfl
theorem lRX1_90 : Cond.methodLink RX1 90 Lib.Math.abs.name ∈ wBig := wb3 (i := 23) rfl rfl
theorem lRX1_93 : ((RX1, 93, yO 98) ∈ nstM ∨ Cond.methodLink RX1 93 (yO 98) ∈ wBig) := Or.inl (by decide +kernel)
theorem lRX1_97 : ((RX1, 97, yO 26) ∈ nstM ∨ Cond.methodLink RX1 97 (yO 26) ∈ wBig) := Or.inr (wb3 (i := 19) rfl rfl)
theorem lRX1_100 : ((RX1, 100, yO 27) ∈ nstM ∨ Cond.methodLink RX1 100 (yO 27) ∈ wBig) := Or.inr (wb3 (i := 77) rfl rfl)
theorem lRX1_103 : ((RX1, 103, yO 23) ∈ nstM ∨ Cond.methodLink RX1 103 (yO 23) ∈ wBig) := Or.inr (wb3 (i := 71) rfl rfl)
theorem lRX1_106 : ((RX1, 106, yO 22) ∈ nstM ∨ Cond.methodLink RX1 106 (yO 22) ∈ wBig) := Or.inr (wb3 (i := 72) rfl rfl)
theorem lRX1_110 : ((RX1, 110, yO 28) ∈ nstM ∨ Cond.methodLink RX1 110 (yO 28) ∈ wBig) := Or.inr (wb3 (i := 73) rfl rfl)
theorem lRX1_113 : ((RX1, 113, yO 30) ∈ nstM ∨ Cond.methodLink RX1 113 (yO 30) ∈ wBig) := Or.inr (wb3 (i := 82) rfl rfl)
theorem lRX1_117 : ((RX1, 117, yO 32) ∈ nstM ∨ Cond.methodLink RX1 117 (yO 32) ∈ wBig) := Or.inr (wb3 (i := 107) rfl rfl)
theorem lRX1_120 : Cond.fieldLink RX1 120 (TO 3 2).1 (TO 3 2).2.1 (TO 3 2).2.2.1 ∈ wBig := wb1 (i := 142) rfl rfl
theorem lRX1_123 : Cond.fieldLink RX1 123 (TO 3 3).1 (TO 3 3).2.1 (TO 3 3).2.2.1 ∈ wBig := wb1 (i := 145) rfl rfl
theorem lRX1_126 : ((RX1, 126, yO 1) ∈ nstM ∨ Cond.methodLink RX1 126 (yO 1) ∈ wBig) := Or.inr (wb3 (i := 108) rfl rfl)
theorem lRX1_131 : ((RX1, 131, yO 21) ∈ nstM ∨ Cond.methodLink RX1 131 (yO 21) ∈ wBig) := Or.inr (wb3 (i := 209) rfl rfl)
theorem lRX2_9 : Cond.fieldLink RX2 9 (TO 2 0).1 (TO 2 0).2.1 (TO 2 0).2.2.1 ∈ wBig := wb1 (i := 32) rfl rfl
theorem lRX2_15 : Cond.methodLink RX2 15 Lib.Math.min.name ∈ wBig := wb2 (i := 42) rfl rfl
theorem lRX2_21 : Cond.fieldLink RX2 21 (TO 2 1).1 (TO 2 1).2.1 (TO 2 1).2.2.1 ∈ wBig := wb1 (i := 33) rfl rfl
theorem lRX2_25 : Cond.fieldLink RX2 25 (TO 2 2).1 (TO 2 2).2.1 (TO 2 2).2.2.1 ∈ wBig := wb1 (i := 34) rfl rfl
theorem lRX2_28 : Cond.fieldLink RX2 28 (TO 2 3).1 (TO 2 3).2.1 (TO 2 3).2.2.1 ∈ wBig := wb1 (i := 35) rfl rfl
theorem lRX2_32 : ((RX2, 32, yO 50) ∈ nstM ∨ Cond.methodLink RX2 32 (yO 50) ∈ wBig) := Or.inl (by decide +kernel)
theorem lRX2_37 : ((RX2, 37, yO 41) ∈ nstM ∨ Cond.methodLink RX2 37 (yO 41) ∈ wBig) := Or.inr (wb2 (i := 46) rfl rfl)
theorem lRX2_41 : ((RX2, 41, yO 40) ∈ nstM ∨ Cond.methodLink RX2 41 (yO 40) ∈ wBig) := Or.inr (wb2 (i := 107) rfl rfl)
theorem lRX2_45 : ((RX2, 45, yO 39) ∈ nstM ∨ Cond.methodLink RX2 45 (yO 39) ∈ wBig) := Or.inr (wb2 (i := 50) rfl rfl)
theorem lRX2_49 : (RX2, 49, 0) ∈ strTab := by decide +kernel
theorem lRX2_51 : ((RX2, 51, yO 42) ∈ nstM ∨ Cond.methodLink RX2 51 (yO 42) ∈ wBig) := Or.inr (wb2 (i := 55) rfl rfl)
theorem lRX2_55 : ((RX2, 55, yO 43) ∈ nstM ∨ Cond.methodLink RX2 55 (yO 43) ∈ wBig) := Or.inr (wb2 (i := 111) rfl rfl)
theorem lRX2_59 : (RX2, 59, 1) ∈ strTab := by decide +kernel
theorem lRX2_61 : (RX2, 61, 2) ∈ strTab := by decide +kernel
theorem lRX2_63 : (RX2, 63, 3) ∈ strTab := by decide +kernel
theorem lRX2_65 : ((RX2, 65, yO 2) ∈ nstM ∨ Cond.methodLink RX2 65 (yO 2) ∈ wBig) := Or.inr (wb2 (i := 59) rfl rfl)
theorem lRX2_70 : ((RX2, 70, yO 3) ∈ nstM ∨ Cond.methodLink RX2 70 (yO 3) ∈ wBig) := Or.inr (wb2 (i := 69) rfl rfl)
theorem lRX2_74 : ((RX2, 74, yO 44) ∈ nstM ∨ Cond.methodLink RX2 74 (yO 44) ∈ wBig) := Or.inr (wb2 (i := 115) rfl rfl)
theorem lRX2_77 : Cond.fieldLink RX2 77 (TO 3 1).1 (TO 3 1).2.1 (TO 3 1).2.2.1 ∈ wBig := wb1 (i := 139) rfl rfl
theorem lRX2_80 : ((RX2, 80, yO 45) ∈ nstM ∨ Cond.methodLink RX2 80 (yO 45) ∈ wBig) := Or.inr (wb2 (i := 119) rfl rfl)
theorem lRX2_83 : ((RX2, 83, yO 52) ∈ nstM ∨ Cond.methodLink RX2 83 (yO 52) ∈ wBig) := Or.inr (wb2 (i := 202) rfl rfl)
theorem lRX2_87 : ((RX2, 87, yO 46) ∈ nstM ∨ Cond.methodLink RX2 87 (yO 46) ∈ wBig) := Or.inr (wb2 (i := 123) rfl rfl)
theorem lRX2_90 : ((RX2, 90, yO 51) ∈ nstM ∨ Cond.methodLink RX2 90 (yO 51) ∈ wBig) := Or.inr (wb2 (i := 198) rfl rfl)
theorem lRX2_94 : ((RX2, 94, yO 47) ∈ nstM ∨ Cond.methodLink RX2 94 (yO 47) ∈ wBig) := Or.inr (wb2 (i := 127) rfl rfl)
theorem lRX2_97 : ((RX2, 97, yO 48) ∈ nstM ∨ Cond.methodLink RX2 97 (yO 48) ∈ wBig) := Or.inr (wb2 (i := 131) rfl rfl)
theorem lRX2_100 : (RX2, 100, 4) ∈ strTab := by decide +kernel
theorem lRX2_102 : ((RX2, 102, yO 49) ∈ nstM ∨ Cond.methodLink RX2 102 (yO 49) ∈ wBig) := Or.inr (wb2 (i := 136) rfl rfl)
theorem lRX2_106 : (RX2, 106, 5) ∈ strTab := by decide +kernel
theorem lRX2_108 : ((RX2, 108, yO 4) ∈ nstM ∨ Cond.methodLink RX2 108 (yO 4) ∈ wBig) := Or.inr (wb2 (i := 140) rfl rfl)
theorem lRX3_30 : Cond.fieldLink RX3 30 (TO 3 0).1 (TO 3 0).2.1 (TO 3 0).2.2.1 ∈ wBig := wb1 (i := 137) rfl rfl
theorem lRX3_34 : Cond.fieldLink RX3 34 (TO 3 1).1 (TO 3 1).2.1 (TO 3 1).2.2.1 ∈ wBig := wb1 (i := 138) rfl rfl
theorem lRX3_37 : Cond.fieldLink RX3 37 (TO 3 2).1 (TO 3 2).2.1 (TO 3 2).2.2.1 ∈ wBig := wb1 (i := 140) rfl rfl
theorem lRX3_40 : Cond.fieldLink RX3 40 (TO 3 3).1 (TO 3 3).2.1 (TO 3 3).2.2.1 ∈ wBig := wb1 (i := 143) rfl rfl
theorem lRX3_24 : Cond.fieldLink RX3 24 (TO 3 8).1 (TO 3 8).2.1 (TO 3 8).2.2.1 ∈ wBig := wb1 (i := 150) rfl rfl
theorem lRX3_9 : Cond.fieldLink RX3 9 (TO 3 4).1 (TO 3 4).2.1 (TO 3 4).2.2.1 ∈ wBig := wb1 (i := 146) rfl rfl
theorem lRX3_15 : Cond.fieldLink RX3 15 (TO 3 5).1 (TO 3 5).2.1 (TO 3 5).2.2.1 ∈ wBig := wb1 (i := 147) rfl rfl
theorem lRX3_18 : Cond.fieldLink RX3 18 (TO 3 6).1 (TO 3 6).2.1 (TO 3 6).2.2.1 ∈ wBig := wb1 (i := 148) rfl rfl
theorem lRX3_21 : Cond.fieldLink RX3 21 (TO 3 7).1 (TO 3 7).2.1 (TO 3 7).2.2.1 ∈ wBig := wb1 (i := 149) rfl rfl
theorem lRX3_43 : ((RX3, 43, yO 54) ∈ nstM ∨ Cond.methodLink RX3 43 (yO 54) ∈ wBig) := Or.inr (wb3 (i := 2) rfl rfl)
theorem lRX3_47 : Cond.methodLink RX3 47 Lib.Math.min.name ∈ wBig := wb3 (i := 6) rfl rfl
theorem lRX3_53 : ((RX3, 53, yO 0) ∈ nstM ∨ Cond.methodLink RX3 53 (yO 0) ∈ wBig) := Or.inr (wb3 (i := 7) rfl rfl)
theorem lRX4_33 : Cond.fieldLink RX4 33 (TO 4 0).1 (TO 4 0).2.1 (TO 4 0).2.2.1 ∈ wBig := wb1 (i := 79) rfl rfl
theorem lRX4_37 : Cond.fieldLink RX4 37 (TO 4 1).1 (TO 4 1).2.1 (TO 4 1).2.2.1 ∈ wBig := wb1 (i := 81) rfl rfl
theorem lRX4_40 : Cond.fieldLink RX4 40 (TO 4 2).1 (TO 4 2).2.1 (TO 4 2).2.2.1 ∈ wBig := wb1 (i := 83) rfl rfl
theorem lRX4_43 : Cond.fieldLink RX4 43 (TO 4 3).1 (TO 4 3).2.1 (TO 4 3).2.2.1 ∈ wBig := wb1 (i := 85) rfl rfl
theorem lRX4_46 : Cond.fieldLink RX4 46 (TO 4 4).1 (TO 4 4).2.1 (TO 4 4).2.2.1 ∈ wBig := wb1 (i := 87) rfl rfl
theorem lRX4_9 : Cond.fieldLink RX4 9 (TO 4 5).1 (TO 4 5).2.1 (TO 4 5).2.2.1 ∈ wBig := wb1 (i := 89) rfl rfl
theorem lRX4_49 : Cond.methodLink RX4 49 arraycopyName ∈ wBig := wb4 (i := 81) rfl rfl
theorem lRX4_15 : Cond.fieldLink RX4 15 (TO 4 6).1 (TO 4 6).2.1 (TO 4 6).2.2.1 ∈ wBig := wb1 (i := 91) rfl rfl
theorem lRX4_18 : Cond.fieldLink RX4 18 (TO 4 7).1 (TO 4 7).2.1 (TO 4 7).2.2.1 ∈ wBig := wb1 (i := 93) rfl rfl
theorem lRX4_21 : Cond.fieldLink RX4 21 (TO 4 8).1 (TO 4 8).2.1 (TO 4 8).2.2.1 ∈ wBig := wb1 (i := 95) rfl rfl
theorem lRX4_24 : Cond.fieldLink RX4 24 (TO 4 9).1 (TO 4 9).2.1 (TO 4 9).2.2.1 ∈ wBig := wb1 (i := 97) rfl rfl
theorem lRX4_27 : Cond.fieldLink RX4 27 (TO 4 10).1 (TO 4 10).2.1 (TO 4 10).2.2.1 ∈ wBig := wb1 (i := 99) rfl rfl
theorem lRX4_30 : Cond.fieldLink RX4 30 (TO 4 11).1 (TO 4 11).2.1 (TO 4 11).2.2.1 ∈ wBig := wb1 (i := 101) rfl rfl
theorem lRX5_34 : Cond.fieldLink RX5 34 (TO 5 6).1 (TO 5 6).2.1 (TO 5 6).2.2.1 ∈ wBig := wb2 (i := 2) rfl rfl
theorem lRX5_64 : Cond.fieldLink RX5 64 (TO 4 0).1 (TO 4 0).2.1 (TO 4 0).2.2.1 ∈ wBig := wb1 (i := 80) rfl rfl
theorem lRX5_68 : Cond.fieldLink RX5 68 (TO 4 5).1 (TO 4 5).2.1 (TO 4 5).2.2.1 ∈ wBig := wb1 (i := 90) rfl rfl
theorem lRX5_71 : Cond.fieldLink RX5 71 (TO 4 1).1 (TO 4 1).2.1 (TO 4 1).2.2.1 ∈ wBig := wb1 (i := 82) rfl rfl
theorem lRX5_13 : Cond.fieldLink RX5 13 (TO 5 0).1 (TO 5 0).2.1 (TO 5 0).2.2.1 ∈ wBig := wb1 (i := 236) rfl rfl
theorem lRX5_20 : Cond.fieldLink RX5 20 (TO 5 1).1 (TO 5 1).2.1 (TO 5 1).2.2.1 ∈ wBig := wb1 (i := 237) rfl rfl
theorem lRX5_73 : ((RX5, 73, yO 38) ∈ nstM ∨ Cond.methodLink RX5 73 (yO 38) ∈ wBig) := Or.inr (wb2 (i := 38) rfl rfl)
theorem lRX5_54 : Cond.fieldLink RX5 54 (TO 5 3).1 (TO 5 3).2.1 (TO 5 3).2.2.1 ∈ wBig := wb1 (i := 239) rfl rfl
theorem lRX5_77 : Cond.fieldLink RX5 77 (TO 1 3).1 (TO 1 3).2.1 (TO 1 3).2.2.1 ∈ wBig := wb1 (i := 183) rfl rfl
theorem lRX5_81 : Cond.fieldLink RX5 81 (TO 1 0).1 (TO 1 0).2.1 (TO 1 0).2.2.1 ∈ wBig := wb1 (i := 177) rfl rfl
theorem lRX5_84 : ((RX5, 84, yO 18) ∈ nstM ∨ Cond.methodLink RX5 84 (yO 18) ∈ wBig) := Or.inr (wb2 (i := 214) rfl rfl)
theorem lRX5_88 : ((RX5, 88, yO 96) ∈ nstM ∨ Cond.methodLink RX5 88 (yO 96) ∈ wBig) := Or.inr (wb2 (i := 222) rfl rfl)
theorem lRX5_92 : Cond.fieldLink RX5 92 (TO 1 7).1 (TO 1 7).2.1 (TO 1 7).2.2.1 ∈ wBig := wb1 (i := 191) rfl rfl
theorem lRX5_95 : ((RX5, 95, yO 23) ∈ nstM ∨ Cond.methodLink RX5 95 (yO 23) ∈ wBig) := Or.inr (wb2 (i := 226) rfl rfl)
theorem lRX5_98 : Cond.fieldLink RX5 98 (TO 1 4).1 (TO 1 4).2.1 (TO 1 4).2.2.1 ∈ wBig := wb1 (i := 185) rfl rfl
theorem lRX5_101 : Cond.fieldLink RX5 101 (TO 1 5).1 (TO 1 5).2.1 (TO 1 5).2.2.1 ∈ wBig := wb1 (i := 187) rfl rfl
theorem lRX5_104 : Cond.fieldLink RX5 104 (TO 1 6).1 (TO 1 6).2.1 (TO 1 6).2.2.1 ∈ wBig := wb1 (i := 189) rfl rfl
theorem lRX5_107 : Cond.fieldLink RX5 107 (TO 1 8).1 (TO 1 8).2.1 (TO 1 8).2.2.1 ∈ wBig := wb1 (i := 193) rfl rfl
theorem lRX5_110 : Cond.fieldLink RX5 110 (TO 1 13).1 (TO 1 13).2.1 (TO 1 13).2.2.1 ∈ wBig := wb1 (i := 203) rfl rfl
theorem lRX5_113 : ((RX5, 113, yO 22) ∈ nstM ∨ Cond.methodLink RX5 113 (yO 22) ∈ wBig) := Or.inr (wb3 (i := 11) rfl rfl)
theorem lRX5_117 : ((RX5, 117, yO 27) ∈ nstM ∨ Cond.methodLink RX5 117 (yO 27) ∈ wBig) := Or.inr (wb3 (i := 15) rfl rfl)
theorem lRX5_121 : ((RX5, 121, yO 26) ∈ nstM ∨ Cond.methodLink RX5 121 (yO 26) ∈ wBig) := Or.inr (wb3 (i := 29) rfl rfl)
theorem lRX5_124 : Cond.fieldLink RX5 124 (TO 1 9).1 (TO 1 9).2.1 (TO 1 9).2.2.1 ∈ wBig := wb1 (i := 195) rfl rfl
theorem lRX5_127 : ((RX5, 127, yO 21) ∈ nstM ∨ Cond.methodLink RX5 127 (yO 21) ∈ wBig) := Or.inr (wb3 (i := 38) rfl rfl)
theorem lRX5_131 : Cond.fieldLink RX5 131 (TO 1 1).1 (TO 1 1).2.1 (TO 1 1).2.2.1 ∈ wBig := wb1 (i := 179) rfl rfl
theorem lRX5_134 : ((RX5, 134, yO 19) ∈ nstM ∨ Cond.methodLink RX5 134 (yO 19) ∈ wBig) := Or.inr (wb3 (i := 55) rfl rfl)
theorem lRX5_138 : ((RX5, 138, yO 97) ∈ nstM ∨ Cond.methodLink RX5 138 (yO 97) ∈ wBig) := Or.inr (wb3 (i := 63) rfl rfl)
theorem lRX5_141 : Cond.fieldLink RX5 141 (TO 1 10).1 (TO 1 10).2.1 (TO 1 10).2.2.1 ∈ wBig := wb1 (i := 197) rfl rfl
theorem lRX5_144 : Cond.fieldLink RX5 144 (TO 1 11).1 (TO 1 11).2.1 (TO 1 11).2.2.1 ∈ wBig := wb1 (i := 199) rfl rfl
theorem lRX5_147 : Cond.fieldLink RX5 147 (TO 1 12).1 (TO 1 12).2.1 (TO 1 12).2.2.1 ∈ wBig := wb1 (i := 201) rfl rfl
theorem lRX5_150 : ((RX5, 150, yO 29) ∈ nstM ∨ Cond.methodLink RX5 150 (yO 29) ∈ wBig) := Or.inr (wb3 (i := 67) rfl rfl)
theorem lRX5_153 : ((RX5, 153, yO 32) ∈ nstM ∨ Cond.methodLink RX5 153 (yO 32) ∈ wBig) := Or.inr (wb3 (i := 78) rfl rfl)
theorem lRX5_156 : Cond.fieldLink RX5 156 (TO 1 2).1 (TO 1 2).2.1 (TO 1 2).2.2.1 ∈ wBig := wb1 (i := 181) rfl rfl
theorem lRX5_159 : Cond.fieldLink RX5 159 (TO 3 2).1 (TO 3 2).2.1 (TO 3 2).2.2.1 ∈ wBig := wb1 (i := 141) rfl rfl
theorem lRX5_162 : Cond.fieldLink RX5 162 (TO 3 3).1 (TO 3 3).2.1 (TO 3 3).2.2.1 ∈ wBig := wb1 (i := 144) rfl rfl
theorem lRX5_165 : ((RX5, 165, yO 33) ∈ nstM ∨ Cond.methodLink RX5 165 (yO 33) ∈ wBig) := Or.inr (wb3 (i := 94) rfl rfl)
theorem lRX5_168 : Cond.constant RX5 168 (Int32.ofNat 99999) ∈ wBig := wb3 (i := 102) rfl rfl
theorem lRX5_169 : ((RX5, 169, yO 35) ∈ nstM ∨ Cond.methodLink RX5 169 (yO 35) ∈ wBig) := Or.inr (wb3 (i := 103) rfl rfl)
theorem lRX5_58 : Cond.fieldLink RX5 58 (TO 5 4).1 (TO 5 4).2.1 (TO 5 4).2.2.1 ∈ wBig := wb2 (i := 0) rfl rfl
theorem lRX5_172 : ((RX5, 172, yO 17) ∈ nstM ∨ Cond.methodLink RX5 172 (yO 17) ∈ wBig) := Or.inr (wb3 (i := 118) rfl rfl)
theorem lRX5_176 : ((RX5, 176, yO 99) ∈ nstM ∨ Cond.methodLink RX5 176 (yO 99) ∈ wBig) := Or.inr (wb3 (i := 133) rfl rfl)
theorem lRX5_179 : ((RX5, 179, yO 100) ∈ nstM ∨ Cond.methodLink RX5 179 (yO 100) ∈ wBig) := Or.inr (wb3 (i := 142) rfl rfl)
theorem lRX5_182 : ((RX5, 182, yO 102) ∈ nstM ∨ Cond.methodLink RX5 182 (yO 102) ∈ wBig) := Or.inr (wb3 (i := 154) rfl rfl)
theorem lRX5_185 : ((RX5, 185, yO 103) ∈ nstM ∨ Cond.methodLink RX5 185 (yO 103) ∈ wBig) := Or.inr (wb3 (i := 158) rfl rfl)
theorem lRX5_188 : ((RX5, 188, yO 98) ∈ nstM ∨ Cond.methodLink RX5 188 (yO 98) ∈ wBig) := Or.inr (wb3 (i := 167) rfl rfl)
theorem lRX5_191 : ((RX5, 191, yO 28) ∈ nstM ∨ Cond.methodLink RX5 191 (yO 28) ∈ wBig) := Or.inr (wb3 (i := 162) rfl rfl)
theorem lRX5_194 : ((RX5, 194, yO 105) ∈ nstM ∨ Cond.methodLink RX5 194 (yO 105) ∈ wBig) := Or.inr (wb3 (i := 172) rfl rfl)
theorem lRX5_197 : ((RX5, 197, yO 106) ∈ nstM ∨ Cond.methodLink RX5 197 (yO 106) ∈ wBig) := Or.inr (wb3 (i := 185) rfl rfl)
theorem lRX5_200 : ((RX5, 200, yO 34) ∈ nstM ∨ Cond.methodLink RX5 200 (yO 34) ∈ wBig) := Or.inr (wb3 (i := 193) rfl rfl)
theorem lRX5_203 : Cond.methodLink RX5 203 Lib.Math.min.name ∈ wBig := wb3 (i := 152) rfl rfl
theorem lRX5_208 : ((RX5, 208, yO 36) ∈ nstM ∨ Cond.methodLink RX5 208 (yO 36) ∈ wBig) := Or.inr (wb3 (i := 205) rfl rfl)
theorem lRX5_211 : ((RX5, 211, yO 108) ∈ nstM ∨ Cond.methodLink RX5 211 (yO 108) ∈ wBig) := Or.inr (wb3 (i := 214) rfl rfl)
theorem lRX5_214 : ((RX5, 214, yO 31) ∈ nstM ∨ Cond.methodLink RX5 214 (yO 31) ∈ wBig) := Or.inr (wb3 (i := 219) rfl rfl)
theorem lRX5_45 : Cond.fieldLink RX5 45 (TO 5 9).1 (TO 5 9).2.1 (TO 5 9).2.2.1 ∈ wBig := wb2 (i := 5) rfl rfl
theorem lRX5_217 : ((RX5, 217, yO 104) ∈ nstM ∨ Cond.methodLink RX5 217 (yO 104) ∈ wBig) := Or.inr (wb3 (i := 176) rfl rfl)
theorem lRX5_220 : Cond.fieldLink RX5 220 (TO 4 2).1 (TO 4 2).2.1 (TO 4 2).2.2.1 ∈ wBig := wb1 (i := 84) rfl rfl
theorem lRX5_223 : Cond.fieldLink RX5 223 (TO 4 6).1 (TO 4 6).2.1 (TO 4 6).2.2.1 ∈ wBig := wb1 (i := 92) rfl rfl
theorem lRX5_226 : Cond.fieldLink RX5 226 (TO 4 7).1 (TO 4 7).2.1 (TO 4 7).2.2.1 ∈ wBig := wb1 (i := 94) rfl rfl
theorem lRX5_229 : ((RX5, 229, yO 107) ∈ nstM ∨ Cond.methodLink RX5 229 (yO 107) ∈ wBig) := Or.inr (wb3 (i := 239) rfl rfl)
theorem lRX5_232 : Cond.constantLong RX5 232 (-9223372036854775808) ∈ wBig := wb4 (i := 12) rfl rfl
theorem lRX5_234 : ((RX5, 234, yO 109) ∈ nstM ∨ Cond.methodLink RX5 234 (yO 109) ∈ wBig) := Or.inr (wb4 (i := 13) rfl rfl)
theorem lRX5_238 : Cond.fieldLink RX5 238 (TO 4 3).1 (TO 4 3).2.1 (TO 4 3).2.2.1 ∈ wBig := wb1 (i := 86) rfl rfl
theorem lRX5_241 : Cond.fieldLink RX5 241 (TO 4 8).1 (TO 4 8).2.1 (TO 4 8).2.2.1 ∈ wBig := wb1 (i := 96) rfl rfl
theorem lRX5_244 : Cond.fieldLink RX5 244 (TO 4 9).1 (TO 4 9).2.1 (TO 4 9).2.2.1 ∈ wBig := wb1 (i := 98) rfl rfl
theorem lRX5_247 : Cond.fieldLink RX5 247 (TO 4 4).1 (TO 4 4).2.1 (TO 4 4).2.2.1 ∈ wBig := wb1 (i := 88) rfl rfl
theorem lRX5_250 : Cond.fieldLink RX5 250 (TO 4 10).1 (TO 4 10).2.1 (TO 4 10).2.2.1 ∈ wBig := wb1 (i := 100) rfl rfl
theorem lRX5_253 : Cond.fieldLink RX5 253 (TO 4 11).1 (TO 4 11).2.1 (TO 4 11).2.2.1 ∈ wBig := wb1 (i := 102) rfl rfl
theorem lRX5_27 : Cond.fieldLink RX5 27 (TO 5 2).1 (TO 5 2).2.1 (TO 5 2).2.2.1 ∈ wBig := wb1 (i := 238) rfl rfl
theorem lRX5_256 : Cond.fieldLink RX5 256 (TO 0 3).1 (TO 0 3).2.1 (TO 0 3).2.2.1 ∈ wBig := wb1 (i := 59) rfl rfl
theorem lRX5_259 : Cond.fieldLink RX5 259 (TO 0 0).1 (TO 0 0).2.1 (TO 0 0).2.2.1 ∈ wBig := wb1 (i := 53) rfl rfl
theorem lRX5_262 : Cond.fieldLink RX5 262 (TO 0 1).1 (TO 0 1).2.1 (TO 0 1).2.2.1 ∈ wBig := wb1 (i := 55) rfl rfl
theorem lRX5_264 : Cond.fieldLink RX5 264 (TO 0 2).1 (TO 0 2).2.1 (TO 0 2).2.2.1 ∈ wBig := wb1 (i := 57) rfl rfl
theorem lRX5_266 : ((RX5, 266, yO 14) ∈ nstM ∨ Cond.methodLink RX5 266 (yO 14) ∈ wBig) := Or.inr (wb4 (i := 48) rfl rfl)
theorem lRX5_269 : Cond.fieldLink RX5 269 (TO 0 4).1 (TO 0 4).2.1 (TO 0 4).2.2.1 ∈ wBig := wb1 (i := 61) rfl rfl
theorem lRX5_272 : ((RX5, 272, 1) ∈ nstF ∨ Cond.fieldLink RX5 272 "ChoirRoof" (staN.getD 1 "") "[I" ∈ wBig) := Or.inr (wb4 (i := 72) rfl rfl)
theorem lRX5_61 : Cond.fieldLink RX5 61 (TO 5 5).1 (TO 5 5).2.1 (TO 5 5).2.2.1 ∈ wBig := wb2 (i := 1) rfl rfl
theorem lRX5_38 : Cond.fieldLink RX5 38 (TO 5 7).1 (TO 5 7).2.1 (TO 5 7).2.2.1 ∈ wBig := wb2 (i := 3) rfl rfl
theorem lRX5_275 : ((RX5, 275, yO 55) ∈ nstM ∨ Cond.methodLink RX5 275 (yO 55) ∈ wBig) := Or.inr (wb4 (i := 77) rfl rfl)
theorem lRX5_278 : Cond.fieldLink RX5 278 (TO 5 10).1 (TO 5 10).2.1 (TO 5 10).2.2.1 ∈ wBig := wb2 (i := 6) rfl rfl
theorem lRX5_282 : ((RX5, 282, yO 20) ∈ nstM ∨ Cond.methodLink RX5 282 (yO 20) ∈ wBig) := Or.inr (wb3 (i := 137) rfl rfl)
theorem lRX5_285 : ((RX5, 285, yO 101) ∈ nstM ∨ Cond.methodLink RX5 285 (yO 101) ∈ wBig) := Or.inr (wb3 (i := 146) rfl rfl)
theorem lRX5_41 : Cond.fieldLink RX5 41 (TO 5 8).1 (TO 5 8).2.1 (TO 5 8).2.2.1 ∈ wBig := wb2 (i := 4) rfl rfl
theorem lRX5_288 : ((RX5, 288, yO 24) ∈ nstM ∨ Cond.methodLink RX5 288 (yO 24) ∈ wBig) := Or.inr (wb3 (i := 153) rfl rfl)
theorem lRX5_291 : ((RX5, 291, 0) ∈ nstF ∨ Cond.fieldLink RX5 291 "ChoirRoof" (staN.getD 0 "") "[I" ∈ wBig) := Or.inr (wb3 (i := 150) rfl rfl)
theorem lRX5_294 : ((RX5, 294, yO 1) ∈ nstM ∨ Cond.methodLink RX5 294 (yO 1) ∈ wBig) := Or.inr (wb3 (i := 180) rfl rfl)
theorem lRX5_299 : ((RX5, 299, yO 37) ∈ nstM ∨ Cond.methodLink RX5 299 (yO 37) ∈ wBig) := Or.inr (wb3 (i := 189) rfl rfl)
theorem lRX5_303 : Cond.methodLink RX5 303 Lib.Math.max.name ∈ wBig := wb4 (i := 3) rfl rfl
theorem lRX5_306 : ((RX5, 306, yO 30) ∈ nstM ∨ Cond.methodLink RX5 306 (yO 30) ∈ wBig) := Or.inr (wb3 (i := 218) rfl rfl)
theorem lRX5_309 : Cond.methodLink RX5 309 Lib.Math.abs.name ∈ wBig := wb4 (i := 16) rfl rfl
theorem lRX5_312 : ((RX5, 312, yO 110) ∈ nstM ∨ Cond.methodLink RX5 312 (yO 110) ∈ wBig) := Or.inr (wb4 (i := 17) rfl rfl)
theorem lRX6_9 : Cond.fieldLink RX6 9 (TO 6 1).1 (TO 6 1).2.1 (TO 6 1).2.2.1 ∈ wBig := wb4 (i := 96) rfl rfl
theorem lRX6_47 : ((RX6, 47, yO 111) ∈ nstM ∨ Cond.methodLink RX6 47 (yO 111) ∈ wBig) := Or.inr (wb4 (i := 170) rfl rfl)
theorem lRX6_18 : Cond.fieldLink RX6 18 (TO 6 3).1 (TO 6 3).2.1 (TO 6 3).2.2.1 ∈ wBig := wb4 (i := 98) rfl rfl
theorem lRX6_51 : Cond.fieldLink RX6 51 (TO 6 6).1 (TO 6 6).2.1 (TO 6 6).2.2.1 ∈ wBig := wb4 (i := 101) rfl rfl
theorem lRX6_54 : Cond.fieldLink RX6 54 (TO 6 7).1 (TO 6 7).2.1 (TO 6 7).2.2.1 ∈ wBig := wb4 (i := 102) rfl rfl
theorem lRX6_57 : Cond.fieldLink RX6 57 (TO 6 8).1 (TO 6 8).2.1 (TO 6 8).2.2.1 ∈ wBig := wb4 (i := 103) rfl rfl
theorem lRX6_61 : ((RX6, 61, yO 118) ∈ nstM ∨ Cond.methodLink RX6 61 (yO 118) ∈ wBig) := Or.inr (wb4 (i := 181) rfl rfl)
theorem lRX6_65 : ((RX6, 65, yO 2) ∈ nstM ∨ Cond.methodLink RX6 65 (yO 2) ∈ wBig) := Or.inr (wb4 (i := 194) rfl rfl)
theorem lRX6_70 : ((RX6, 70, yO 3) ∈ nstM ∨ Cond.methodLink RX6 70 (yO 3) ∈ wBig) := Or.inr (wb4 (i := 195) rfl rfl)
theorem lRX6_74 : ((RX6, 74, yO 119) ∈ nstM ∨ Cond.methodLink RX6 74 (yO 119) ∈ wBig) := Or.inr (wb4 (i := 196) rfl rfl)
theorem lRX6_78 : Cond.fieldLink RX6 78 (TO 6 5).1 (TO 6 5).2.1 (TO 6 5).2.2.1 ∈ wBig := wb4 (i := 100) rfl rfl
theorem lRX6_81 : Cond.fieldLink RX6 81 (TO 6 9).1 (TO 6 9).2.1 (TO 6 9).2.2.1 ∈ wBig := wb4 (i := 104) rfl rfl
theorem lRX6_84 : ((RX6, 84, yO 124) ∈ nstM ∨ Cond.methodLink RX6 84 (yO 124) ∈ wBig) := Or.inr (wb4 (i := 218) rfl rfl)
theorem lRX6_87 : ((RX6, 87, yO 123) ∈ nstM ∨ Cond.methodLink RX6 87 (yO 123) ∈ wBig) := Or.inr (wb4 (i := 222) rfl rfl)
theorem lRX6_90 : ((RX6, 90, yO 126) ∈ nstM ∨ Cond.methodLink RX6 90 (yO 126) ∈ wBig) := Or.inr (wb4 (i := 210) rfl rfl)
theorem lRX6_93 : (RX6, 93, 4) ∈ strTab := by decide +kernel
theorem lRX6_95 : ((RX6, 95, yO 122) ∈ nstM ∨ Cond.methodLink RX6 95 (yO 122) ∈ wBig) := Or.inr (wb4 (i := 227) rfl rfl)
theorem lRX6_99 : (RX6, 99, 5) ∈ strTab := by decide +kernel
theorem lRX6_101 : ((RX6, 101, yO 121) ∈ nstM ∨ Cond.methodLink RX6 101 (yO 121) ∈ wBig) := Or.inr (wb4 (i := 200) rfl rfl)
theorem lRX6_104 : ((RX6, 104, yO 125) ∈ nstM ∨ Cond.methodLink RX6 104 (yO 125) ∈ wBig) := Or.inr (wb4 (i := 214) rfl rfl)
theorem lRX6_107 : ((RX6, 107, yO 120) ∈ nstM ∨ Cond.methodLink RX6 107 (yO 120) ∈ wBig) := Or.inr (wb4 (i := 190) rfl rfl)
theorem lRX6_111 : (RX6, 111, 0) ∈ strTab := by decide +kernel
theorem lRX6_113 : ((RX6, 113, yO 128) ∈ nstM ∨ Cond.methodLink RX6 113 (yO 128) ∈ wBig) := Or.inr (wb4 (i := 186) rfl rfl)
theorem lRX6_117 : (RX6, 117, 1) ∈ strTab := by decide +kernel
theorem lRX6_119 : (RX6, 119, 2) ∈ strTab := by decide +kernel
theorem lRX6_121 : ((RX6, 121, yO 127) ∈ nstM ∨ Cond.methodLink RX6 121 (yO 127) ∈ wBig) := Or.inr (wb4 (i := 206) rfl rfl)
theorem lRX6_124 : (RX6, 124, 3) ∈ strTab := by decide +kernel
theorem lRX6_126 : ((RX6, 126, yO 129) ∈ nstM ∨ Cond.methodLink RX6 126 (yO 129) ∈ wBig) := Or.inr (wb4 (i := 177) rfl rfl)
theorem lRX6_21 : Cond.fieldLink RX6 21 (TO 6 10).1 (TO 6 10).2.1 (TO 6 10).2.2.1 ∈ wBig := wb4 (i := 105) rfl rfl
theorem lRX6_129 : ((RX6, 129, yO 131) ∈ nstM ∨ Cond.methodLink RX6 129 (yO 131) ∈ wBig) := Or.inr (wb5 (i := 21) rfl rfl)
theorem lRX6_24 : Cond.fieldLink RX6 24 (TO 6 11).1 (TO 6 11).2.1 (TO 6 11).2.2.1 ∈ wBig := wb4 (i := 106) rfl rfl
theorem lRX6_133 : ((RX6, 133, yO 114) ∈ nstM ∨ Cond.methodLink RX6 133 (yO 114) ∈ wBig) := Or.inr (wb5 (i := 5) rfl rfl)
theorem lRX6_137 : ((RX6, 137, yO 133) ∈ nstM ∨ Cond.methodLink RX6 137 (yO 133) ∈ wBig) := Or.inr (wb5 (i := 13) rfl rfl)
theorem lRX6_141 : ((RX6, 141, yO 132) ∈ nstM ∨ Cond.methodLink RX6 141 (yO 132) ∈ wBig) := Or.inr (wb5 (i := 17) rfl rfl)
theorem lRX6_28 : Cond.fieldLink RX6 28 (TO 6 12).1 (TO 6 12).2.1 (TO 6 12).2.2.1 ∈ wBig := wb4 (i := 107) rfl rfl
theorem lRX6_144 : ((RX6, 144, yO 134) ∈ nstM ∨ Cond.methodLink RX6 144 (yO 134) ∈ wBig) := Or.inr (wb5 (i := 9) rfl rfl)
theorem lRX6_147 : ((RX6, 147, yO 137) ∈ nstM ∨ Cond.methodLink RX6 147 (yO 137) ∈ wBig) := Or.inr (wb5 (i := 33) rfl rfl)
theorem lRX6_151 : ((RX6, 151, yO 135) ∈ nstM ∨ Cond.methodLink RX6 151 (yO 135) ∈ wBig) := Or.inr (wb5 (i := 41) rfl rfl)
theorem lRX6_154 : ((RX6, 154, yO 138) ∈ nstM ∨ Cond.methodLink RX6 154 (yO 138) ∈ wBig) := Or.inr (wb5 (i := 37) rfl rfl)
theorem lRX6_157 : ((RX6, 157, yO 139) ∈ nstM ∨ Cond.methodLink RX6 157 (yO 139) ∈ wBig) := Or.inr (wb5 (i := 29) rfl rfl)
theorem lRX6_160 : ((RX6, 160, yO 136) ∈ nstM ∨ Cond.methodLink RX6 160 (yO 136) ∈ wBig) := Or.inr (wb5 (i := 25) rfl rfl)
theorem lRX6_163 : ((RX6, 163, yO 140) ∈ nstM ∨ Cond.methodLink RX6 163 (yO 140) ∈ wBig) := Or.inr (wb5 (i := 80) rfl rfl)
theorem lRX6_166 : ((RX6, 166, yO 143) ∈ nstM ∨ Cond.methodLink RX6 166 (yO 143) ∈ wBig) := Or.inr (wb5 (i := 88) rfl rfl)
theorem lRX6_169 : ((RX6, 169, yO 149) ∈ nstM ∨ Cond.methodLink RX6 169 (yO 149) ∈ wBig) := Or.inr (wb5 (i := 56) rfl rfl)
theorem lRX6_172 : ((RX6, 172, yO 112) ∈ nstM ∨ Cond.methodLink RX6 172 (yO 112) ∈ wBig) := Or.inr (wb5 (i := 1) rfl rfl)
theorem lRX6_175 : ((RX6, 175, yO 150) ∈ nstM ∨ Cond.methodLink RX6 175 (yO 150) ∈ wBig) := Or.inr (wb5 (i := 52) rfl rfl)
theorem lRX6_178 : ((RX6, 178, yO 113) ∈ nstM ∨ Cond.methodLink RX6 178 (yO 113) ∈ wBig) := Or.inr (wb5 (i := 72) rfl rfl)
theorem lRX6_181 : ((RX6, 181, yO 142) ∈ nstM ∨ Cond.methodLink RX6 181 (yO 142) ∈ wBig) := Or.inr (wb5 (i := 76) rfl rfl)
theorem lRX6_184 : ((RX6, 184, yO 144) ∈ nstM ∨ Cond.methodLink RX6 184 (yO 144) ∈ wBig) := Or.inr (wb5 (i := 84) rfl rfl)
theorem lRX6_187 : ((RX6, 187, yO 145) ∈ nstM ∨ Cond.methodLink RX6 187 (yO 145) ∈ wBig) := Or.inr (wb5 (i := 100) rfl rfl)
theorem lRX6_190 : ((RX6, 190, yO 146) ∈ nstM ∨ Cond.methodLink RX6 190 (yO 146) ∈ wBig) := Or.inr (wb5 (i := 117) rfl rfl)
theorem lRX6_193 : ((RX6, 193, yO 159) ∈ nstM ∨ Cond.methodLink RX6 193 (yO 159) ∈ wBig) := Or.inr (wb5 (i := 113) rfl rfl)
theorem lRX6_196 : Cond.constant RX6 196 (Int32.ofNat 99999) ∈ wBig := wb5 (i := 108) rfl rfl
theorem lRX6_197 : ((RX6, 197, yO 160) ∈ nstM ∨ Cond.methodLink RX6 197 (yO 160) ∈ wBig) := Or.inr (wb5 (i := 109) rfl rfl)
theorem lRX6_200 : ((RX6, 200, yO 115) ∈ nstM ∨ Cond.methodLink RX6 200 (yO 115) ∈ wBig) := Or.inr (wb5 (i := 124) rfl rfl)
theorem lRX6_203 : ((RX6, 203, yO 116) ∈ nstM ∨ Cond.methodLink RX6 203 (yO 116) ∈ wBig) := Or.inr (wb5 (i := 128) rfl rfl)
theorem lRX6_206 : Cond.fieldLink RX6 206 (TO 6 13).1 (TO 6 13).2.1 (TO 6 13).2.2.1 ∈ wBig := wb4 (i := 108) rfl rfl
theorem lRX6_209 : Cond.fieldLink RX6 209 (TO 6 14).1 (TO 6 14).2.1 (TO 6 14).2.2.1 ∈ wBig := wb4 (i := 109) rfl rfl
theorem lRX6_212 : ((RX6, 212, yO 164) ∈ nstM ∨ Cond.methodLink RX6 212 (yO 164) ∈ wBig) := Or.inr (wb5 (i := 140) rfl rfl)
theorem lRX6_34 : Cond.fieldLink RX6 34 (TO 6 16).1 (TO 6 16).2.1 (TO 6 16).2.2.1 ∈ wBig := wb4 (i := 111) rfl rfl
theorem lRX6_215 : ((RX6, 215, yO 166) ∈ nstM ∨ Cond.methodLink RX6 215 (yO 166) ∈ wBig) := Or.inr (wb5 (i := 148) rfl rfl)
theorem lRX6_31 : Cond.fieldLink RX6 31 (TO 6 15).1 (TO 6 15).2.1 (TO 6 15).2.2.1 ∈ wBig := wb4 (i := 110) rfl rfl
theorem lRX6_218 : ((RX6, 218, yO 167) ∈ nstM ∨ Cond.methodLink RX6 218 (yO 167) ∈ wBig) := Or.inr (wb5 (i := 152) rfl rfl)
theorem lRX6_221 : Cond.constant RX6 221 (Int32.ofNat 100000000) ∈ wBig := wb5 (i := 160) rfl rfl
theorem lRX6_222 : ((RX6, 222, yO 170) ∈ nstM ∨ Cond.methodLink RX6 222 (yO 170) ∈ wBig) := Or.inr (wb5 (i := 165) rfl rfl)
theorem lRX6_225 : ((RX6, 225, yO 141) ∈ nstM ∨ Cond.methodLink RX6 225 (yO 141) ∈ wBig) := Or.inr (wb5 (i := 173) rfl rfl)
theorem lRX6_228 : ((RX6, 228, yO 172) ∈ nstM ∨ Cond.methodLink RX6 228 (yO 172) ∈ wBig) := Or.inr (wb5 (i := 177) rfl rfl)
theorem lRX6_37 : Cond.fieldLink RX6 37 (TO 6 17).1 (TO 6 17).2.1 (TO 6 17).2.2.1 ∈ wBig := wb4 (i := 112) rfl rfl
theorem lRX6_231 : ((RX6, 231, yO 175) ∈ nstM ∨ Cond.methodLink RX6 231 (yO 175) ∈ wBig) := Or.inr (wb5 (i := 189) rfl rfl)
theorem lRX6_234 : ((RX6, 234, yO 177) ∈ nstM ∨ Cond.methodLink RX6 234 (yO 177) ∈ wBig) := Or.inr (wb5 (i := 197) rfl rfl)
theorem lRX6_237 : ((RX6, 237, yO 171) ∈ nstM ∨ Cond.methodLink RX6 237 (yO 171) ∈ wBig) := Or.inr (wb5 (i := 205) rfl rfl)
theorem lRX6_240 : ((RX6, 240, yO 147) ∈ nstM ∨ Cond.methodLink RX6 240 (yO 147) ∈ wBig) := Or.inr (wb5 (i := 210) rfl rfl)
theorem lRX6_243 : ((RX6, 243, yO 182) ∈ nstM ∨ Cond.methodLink RX6 243 (yO 182) ∈ wBig) := Or.inr (wb5 (i := 226) rfl rfl)
theorem lRX6_246 : ((RX6, 246, yO 183) ∈ nstM ∨ Cond.methodLink RX6 246 (yO 183) ∈ wBig) := Or.inr (wb5 (i := 222) rfl rfl)
theorem lRX6_249 : ((RX6, 249, yO 185) ∈ nstM ∨ Cond.methodLink RX6 249 (yO 185) ∈ wBig) := Or.inr (wb5 (i := 234) rfl rfl)
theorem lRX6_252 : Cond.constantLong RX6 252 (-9223372036854775808) ∈ wBig := wb6 (i := 2) rfl rfl
theorem lRX6_254 : ((RX6, 254, yO 187) ∈ nstM ∨ Cond.methodLink RX6 254 (yO 187) ∈ wBig) := Or.inr (wb6 (i := 3) rfl rfl)
theorem lRX6_258 : Cond.fieldLink RX6 258 (TO 6 19).1 (TO 6 19).2.1 (TO 6 19).2.2.1 ∈ wBig := wb4 (i := 114) rfl rfl
theorem lRX6_40 : Cond.fieldLink RX6 40 (TO 6 18).1 (TO 6 18).2.1 (TO 6 18).2.2.1 ∈ wBig := wb4 (i := 113) rfl rfl
theorem lRX6_261 : ((RX6, 261, yO 195) ∈ nstM ∨ Cond.methodLink RX6 261 (yO 195) ∈ wBig) := Or.inr (wb6 (i := 41) rfl rfl)
theorem lRX6_264 : Cond.fieldLink RX6 264 (TO 6 21).1 (TO 6 21).2.1 (TO 6 21).2.2.1 ∈ wBig := wb4 (i := 116) rfl rfl
theorem lRX6_267 : Cond.fieldLink RX6 267 (TO 6 20).1 (TO 6 20).2.1 (TO 6 20).2.2.1 ∈ wBig := wb4 (i := 115) rfl rfl
theorem lRX6_270 : ((RX6, 270, yO 196) ∈ nstM ∨ Cond.methodLink RX6 270 (yO 196) ∈ wBig) := Or.inr (wb6 (i := 38) rfl rfl)
theorem lRX6_273 : ((RX6, 273, yO 197) ∈ nstM ∨ Cond.methodLink RX6 273 (yO 197) ∈ wBig) := Or.inr (wb6 (i := 45) rfl rfl)
theorem lRX6_276 : ((RX6, 276, yO 198) ∈ nstM ∨ Cond.methodLink RX6 276 (yO 198) ∈ wBig) := Or.inr (wb6 (i := 34) rfl rfl)
theorem lRX6_279 : Cond.fieldLink RX6 279 (TO 6 22).1 (TO 6 22).2.1 (TO 6 22).2.2.1 ∈ wBig := wb4 (i := 117) rfl rfl
theorem lRX6_282 : ((RX6, 282, yO 199) ∈ nstM ∨ Cond.methodLink RX6 282 (yO 199) ∈ wBig) := Or.inr (wb6 (i := 53) rfl rfl)
theorem lRX6_285 : ((RX6, 285, yO 200) ∈ nstM ∨ Cond.methodLink RX6 285 (yO 200) ∈ wBig) := Or.inr (wb6 (i := 49) rfl rfl)
theorem lRX6_288 : ((RX6, 288, yO 201) ∈ nstM ∨ Cond.methodLink RX6 288 (yO 201) ∈ wBig) := Or.inr (wb6 (i := 61) rfl rfl)
theorem lRX6_291 : ((RX6, 291, yO 202) ∈ nstM ∨ Cond.methodLink RX6 291 (yO 202) ∈ wBig) := Or.inr (wb6 (i := 57) rfl rfl)
theorem lRX6_15 : Cond.fieldLink RX6 15 (TO 6 2).1 (TO 6 2).2.1 (TO 6 2).2.2.1 ∈ wBig := wb4 (i := 97) rfl rfl
theorem lRX6_294 : Cond.fieldLink RX6 294 (TO 6 4).1 (TO 6 4).2.1 (TO 6 4).2.2.1 ∈ wBig := wb4 (i := 99) rfl rfl
theorem lRL_13 : ((RL, 13, yO 56) ∈ nstM ∨ Cond.methodLink RL 13 (yO 56) ∈ wBig) := Or.inr (wb2 (i := 30) rfl rfl)
theorem lRL_17 : ((RL, 17, yO 117) ∈ nstM ∨ Cond.methodLink RL 17 (yO 117) ∈ wBig) := Or.inr (wb4 (i := 166) rfl rfl)
theorem lRL_18 : ((RL, 18, yO 57) ∈ nstM ∨ Cond.methodLink RL 18 (yO 57) ∈ wBig) := Or.inr (wb2 (i := 34) rfl rfl)
theorem lRL_22 : ((RL, 22, yO 130) ∈ nstM ∨ Cond.methodLink RL 22 (yO 130) ∈ wBig) := Or.inr (wb4 (i := 173) rfl rfl)
theorem lRL_23 : ((RL, 23, yO 58) ∈ nstM ∨ Cond.methodLink RL 23 (yO 58) ∈ wBig) := Or.inr (wb2 (i := 210) rfl rfl)
theorem lRL_27 : ((RL, 27, yO 148) ∈ nstM ∨ Cond.methodLink RL 27 (yO 148) ∈ wBig) := Or.inr (wb4 (i := 233) rfl rfl)
theorem lRL_28 : ((RL, 28, yO 59) ∈ nstM ∨ Cond.methodLink RL 28 (yO 59) ∈ wBig) := Or.inr (wb2 (i := 218) rfl rfl)
theorem lRL_32 : ((RL, 32, yO 151) ∈ nstM ∨ Cond.methodLink RL 32 (yO 151) ∈ wBig) := Or.inr (wb4 (i := 237) rfl rfl)
theorem lRL_33 : ((RL, 33, yO 60) ∈ nstM ∨ Cond.methodLink RL 33 (yO 60) ∈ wBig) := Or.inr (wb3 (i := 30) rfl rfl)
theorem lRL_36 : ((RL, 36, yO 152) ∈ nstM ∨ Cond.methodLink RL 36 (yO 152) ∈ wBig) := Or.inr (wb5 (i := 44) rfl rfl)
theorem lRL_37 : ((RL, 37, yO 61) ∈ nstM ∨ Cond.methodLink RL 37 (yO 61) ∈ wBig) := Or.inr (wb3 (i := 34) rfl rfl)
theorem lRL_40 : ((RL, 40, yO 153) ∈ nstM ∨ Cond.methodLink RL 40 (yO 153) ∈ wBig) := Or.inr (wb5 (i := 48) rfl rfl)
theorem lRL_41 : ((RL, 41, yO 62) ∈ nstM ∨ Cond.methodLink RL 41 (yO 62) ∈ wBig) := Or.inr (wb3 (i := 47) rfl rfl)
theorem lRL_44 : ((RL, 44, yO 154) ∈ nstM ∨ Cond.methodLink RL 44 (yO 154) ∈ wBig) := Or.inr (wb5 (i := 60) rfl rfl)
theorem lRL_45 : ((RL, 45, yO 63) ∈ nstM ∨ Cond.methodLink RL 45 (yO 63) ∈ wBig) := Or.inr (wb3 (i := 51) rfl rfl)
theorem lRL_48 : ((RL, 48, yO 155) ∈ nstM ∨ Cond.methodLink RL 48 (yO 155) ∈ wBig) := Or.inr (wb5 (i := 64) rfl rfl)
theorem lRL_49 : ((RL, 49, yO 64) ∈ nstM ∨ Cond.methodLink RL 49 (yO 64) ∈ wBig) := Or.inr (wb3 (i := 59) rfl rfl)
theorem lRL_52 : ((RL, 52, yO 156) ∈ nstM ∨ Cond.methodLink RL 52 (yO 156) ∈ wBig) := Or.inr (wb5 (i := 68) rfl rfl)
theorem lRL_53 : ((RL, 53, yO 65) ∈ nstM ∨ Cond.methodLink RL 53 (yO 65) ∈ wBig) := Or.inr (wb3 (i := 86) rfl rfl)
theorem lRL_57 : ((RL, 57, yO 157) ∈ nstM ∨ Cond.methodLink RL 57 (yO 157) ∈ wBig) := Or.inr (wb5 (i := 92) rfl rfl)
theorem lRL_58 : ((RL, 58, yO 66) ∈ nstM ∨ Cond.methodLink RL 58 (yO 66) ∈ wBig) := Or.inr (wb3 (i := 90) rfl rfl)
theorem lRL_61 : ((RL, 61, yO 158) ∈ nstM ∨ Cond.methodLink RL 61 (yO 158) ∈ wBig) := Or.inr (wb5 (i := 96) rfl rfl)
theorem lRL_62 : ((RL, 62, yO 67) ∈ nstM ∨ Cond.methodLink RL 62 (yO 67) ∈ wBig) := Or.inr (wb3 (i := 98) rfl rfl)
theorem lRL_65 : ((RL, 65, yO 161) ∈ nstM ∨ Cond.methodLink RL 65 (yO 161) ∈ wBig) := Or.inr (wb5 (i := 104) rfl rfl)
theorem lRL_66 : ((RL, 66, yO 68) ∈ nstM ∨ Cond.methodLink RL 66 (yO 68) ∈ wBig) := Or.inr (wb3 (i := 114) rfl rfl)
theorem lRL_69 : ((RL, 69, yO 162) ∈ nstM ∨ Cond.methodLink RL 69 (yO 162) ∈ wBig) := Or.inr (wb5 (i := 120) rfl rfl)
theorem lRL_70 : ((RL, 70, yO 69) ∈ nstM ∨ Cond.methodLink RL 70 (yO 69) ∈ wBig) := Or.inr (wb3 (i := 125) rfl rfl)
theorem lRL_73 : ((RL, 73, yO 163) ∈ nstM ∨ Cond.methodLink RL 73 (yO 163) ∈ wBig) := Or.inr (wb5 (i := 132) rfl rfl)
theorem lRL_74 : ((RL, 74, yO 70) ∈ nstM ∨ Cond.methodLink RL 74 (yO 70) ∈ wBig) := Or.inr (wb3 (i := 129) rfl rfl)
theorem lRL_77 : ((RL, 77, yO 165) ∈ nstM ∨ Cond.methodLink RL 77 (yO 165) ∈ wBig) := Or.inr (wb5 (i := 136) rfl rfl)
theorem lRL_78 : ((RL, 78, yO 71) ∈ nstM ∨ Cond.methodLink RL 78 (yO 71) ∈ wBig) := Or.inr (wb3 (i := 138) rfl rfl)
theorem lRL_81 : ((RL, 81, yO 168) ∈ nstM ∨ Cond.methodLink RL 81 (yO 168) ∈ wBig) := Or.inr (wb5 (i := 144) rfl rfl)
theorem lRL_82 : ((RL, 82, yO 72) ∈ nstM ∨ Cond.methodLink RL 82 (yO 72) ∈ wBig) := Or.inr (wb3 (i := 163) rfl rfl)
theorem lRL_85 : ((RL, 85, yO 169) ∈ nstM ∨ Cond.methodLink RL 85 (yO 169) ∈ wBig) := Or.inr (wb5 (i := 156) rfl rfl)
theorem lRL_86 : ((RL, 86, yO 73) ∈ nstM ∨ Cond.methodLink RL 86 (yO 73) ∈ wBig) := Or.inr (wb3 (i := 168) rfl rfl)
theorem lRL_89 : ((RL, 89, yO 171) ∈ nstM ∨ Cond.methodLink RL 89 (yO 171) ∈ wBig) := Or.inr (wb5 (i := 161) rfl rfl)
theorem lRL_90 : ((RL, 90, yO 74) ∈ nstM ∨ Cond.methodLink RL 90 (yO 74) ∈ wBig) := Or.inr (wb3 (i := 181) rfl rfl)
theorem lRL_93 : ((RL, 93, yO 173) ∈ nstM ∨ Cond.methodLink RL 93 (yO 173) ∈ wBig) := Or.inr (wb5 (i := 169) rfl rfl)
theorem lRL_94 : ((RL, 94, yO 75) ∈ nstM ∨ Cond.methodLink RL 94 (yO 75) ∈ wBig) := Or.inr (wb3 (i := 197) rfl rfl)
theorem lRL_97 : ((RL, 97, yO 174) ∈ nstM ∨ Cond.methodLink RL 97 (yO 174) ∈ wBig) := Or.inr (wb5 (i := 181) rfl rfl)
theorem lRL_98 : ((RL, 98, yO 76) ∈ nstM ∨ Cond.methodLink RL 98 (yO 76) ∈ wBig) := Or.inr (wb3 (i := 201) rfl rfl)
theorem lRL_101 : ((RL, 101, yO 176) ∈ nstM ∨ Cond.methodLink RL 101 (yO 176) ∈ wBig) := Or.inr (wb5 (i := 185) rfl rfl)
theorem lRL_102 : ((RL, 102, yO 77) ∈ nstM ∨ Cond.methodLink RL 102 (yO 77) ∈ wBig) := Or.inr (wb3 (i := 210) rfl rfl)
theorem lRL_105 : ((RL, 105, yO 178) ∈ nstM ∨ Cond.methodLink RL 105 (yO 178) ∈ wBig) := Or.inr (wb5 (i := 193) rfl rfl)
theorem lRL_106 : ((RL, 106, yO 78) ∈ nstM ∨ Cond.methodLink RL 106 (yO 78) ∈ wBig) := Or.inr (wb3 (i := 223) rfl rfl)
theorem lRL_109 : ((RL, 109, yO 179) ∈ nstM ∨ Cond.methodLink RL 109 (yO 179) ∈ wBig) := Or.inr (wb5 (i := 201) rfl rfl)
theorem lRL_110 : ((RL, 110, yO 79) ∈ nstM ∨ Cond.methodLink RL 110 (yO 79) ∈ wBig) := Or.inr (wb3 (i := 227) rfl rfl)
theorem lRL_113 : ((RL, 113, yO 180) ∈ nstM ∨ Cond.methodLink RL 113 (yO 180) ∈ wBig) := Or.inr (wb5 (i := 206) rfl rfl)
theorem lRL_114 : ((RL, 114, yO 80) ∈ nstM ∨ Cond.methodLink RL 114 (yO 80) ∈ wBig) := Or.inr (wb3 (i := 231) rfl rfl)
theorem lRL_117 : ((RL, 117, yO 181) ∈ nstM ∨ Cond.methodLink RL 117 (yO 181) ∈ wBig) := Or.inr (wb5 (i := 214) rfl rfl)
theorem lRL_118 : ((RL, 118, yO 81) ∈ nstM ∨ Cond.methodLink RL 118 (yO 81) ∈ wBig) := Or.inr (wb3 (i := 235) rfl rfl)
theorem lRL_121 : ((RL, 121, yO 184) ∈ nstM ∨ Cond.methodLink RL 121 (yO 184) ∈ wBig) := Or.inr (wb5 (i := 218) rfl rfl)
theorem lRL_122 : ((RL, 122, yO 82) ∈ nstM ∨ Cond.methodLink RL 122 (yO 82) ∈ wBig) := Or.inr (wb4 (i := 4) rfl rfl)
theorem lRL_125 : ((RL, 125, yO 186) ∈ nstM ∨ Cond.methodLink RL 125 (yO 186) ∈ wBig) := Or.inr (wb5 (i := 230) rfl rfl)
theorem lRL_126 : ((RL, 126, yO 83) ∈ nstM ∨ Cond.methodLink RL 126 (yO 83) ∈ wBig) := Or.inr (wb4 (i := 8) rfl rfl)
theorem lRL_130 : ((RL, 130, yO 188) ∈ nstM ∨ Cond.methodLink RL 130 (yO 188) ∈ wBig) := Or.inr (wb5 (i := 238) rfl rfl)
theorem lRL_131 : ((RL, 131, yO 84) ∈ nstM ∨ Cond.methodLink RL 131 (yO 84) ∈ wBig) := Or.inr (wb4 (i := 20) rfl rfl)
theorem lRL_135 : ((RL, 135, yO 189) ∈ nstM ∨ Cond.methodLink RL 135 (yO 189) ∈ wBig) := Or.inr (wb6 (i := 6) rfl rfl)
theorem lRL_136 : ((RL, 136, yO 85) ∈ nstM ∨ Cond.methodLink RL 136 (yO 85) ∈ wBig) := Or.inr (wb4 (i := 24) rfl rfl)
theorem lRL_139 : ((RL, 139, yO 190) ∈ nstM ∨ Cond.methodLink RL 139 (yO 190) ∈ wBig) := Or.inr (wb6 (i := 10) rfl rfl)
theorem lRL_140 : ((RL, 140, yO 86) ∈ nstM ∨ Cond.methodLink RL 140 (yO 86) ∈ wBig) := Or.inr (wb4 (i := 28) rfl rfl)
theorem lRL_143 : ((RL, 143, yO 191) ∈ nstM ∨ Cond.methodLink RL 143 (yO 191) ∈ wBig) := Or.inr (wb6 (i := 14) rfl rfl)
theorem lRL_144 : ((RL, 144, yO 87) ∈ nstM ∨ Cond.methodLink RL 144 (yO 87) ∈ wBig) := Or.inr (wb4 (i := 32) rfl rfl)
theorem lRL_147 : ((RL, 147, yO 192) ∈ nstM ∨ Cond.methodLink RL 147 (yO 192) ∈ wBig) := Or.inr (wb6 (i := 18) rfl rfl)
theorem lRL_148 : ((RL, 148, yO 88) ∈ nstM ∨ Cond.methodLink RL 148 (yO 88) ∈ wBig) := Or.inr (wb4 (i := 36) rfl rfl)
theorem lRL_151 : ((RL, 151, yO 193) ∈ nstM ∨ Cond.methodLink RL 151 (yO 193) ∈ wBig) := Or.inr (wb6 (i := 22) rfl rfl)
theorem lRL_152 : ((RL, 152, yO 89) ∈ nstM ∨ Cond.methodLink RL 152 (yO 89) ∈ wBig) := Or.inr (wb4 (i := 40) rfl rfl)
theorem lRL_155 : ((RL, 155, yO 194) ∈ nstM ∨ Cond.methodLink RL 155 (yO 194) ∈ wBig) := Or.inr (wb6 (i := 26) rfl rfl)
theorem lRL_156 : ((RL, 156, yO 90) ∈ nstM ∨ Cond.methodLink RL 156 (yO 90) ∈ wBig) := Or.inr (wb4 (i := 44) rfl rfl)
theorem lRL_159 : ((RL, 159, yO 203) ∈ nstM ∨ Cond.methodLink RL 159 (yO 203) ∈ wBig) := Or.inr (wb6 (i := 30) rfl rfl)
theorem lRL_160 : ((RL, 160, yO 91) ∈ nstM ∨ Cond.methodLink RL 160 (yO 91) ∈ wBig) := Or.inr (wb4 (i := 64) rfl rfl)
theorem lRL_163 : ((RL, 163, yO 204) ∈ nstM ∨ Cond.methodLink RL 163 (yO 204) ∈ wBig) := Or.inr (wb6 (i := 65) rfl rfl)
theorem lRL_164 : ((RL, 164, yO 92) ∈ nstM ∨ Cond.methodLink RL 164 (yO 92) ∈ wBig) := Or.inr (wb4 (i := 68) rfl rfl)
theorem lRL_167 : ((RL, 167, yO 205) ∈ nstM ∨ Cond.methodLink RL 167 (yO 205) ∈ wBig) := Or.inr (wb6 (i := 69) rfl rfl)
theorem lRL_168 : ((RL, 168, yO 93) ∈ nstM ∨ Cond.methodLink RL 168 (yO 93) ∈ wBig) := Or.inr (wb4 (i := 73) rfl rfl)
theorem lRL_171 : ((RL, 171, yO 206) ∈ nstM ∨ Cond.methodLink RL 171 (yO 206) ∈ wBig) := Or.inr (wb6 (i := 73) rfl rfl)
theorem lRL_172 : ((RL, 172, yO 94) ∈ nstM ∨ Cond.methodLink RL 172 (yO 94) ∈ wBig) := Or.inr (wb4 (i := 82) rfl rfl)
theorem lRL_175 : ((RL, 175, yO 207) ∈ nstM ∨ Cond.methodLink RL 175 (yO 207) ∈ wBig) := Or.inr (wb6 (i := 77) rfl rfl)
theorem lRL_176 : ((RL, 176, yO 95) ∈ nstM ∨ Cond.methodLink RL 176 (yO 95) ∈ wBig) := Or.inr (wb4 (i := 86) rfl rfl)
theorem lRL_179 : ((RL, 179, yO 208) ∈ nstM ∨ Cond.methodLink RL 179 (yO 208) ∈ wBig) := Or.inr (wb6 (i := 81) rfl rfl)
set_option maxRecDepth 20000 in
theorem ekJ6_compare_7cf53 : eoks RJ6 kJ6_compare_7cf53 := ⟨trivial, trivial, trivial, trivial, trivial, trivial, trivial, trivial, trivial, trivial, trivial, trivial, trivial⟩
set_option maxRecDepth 20000 in
theorem ekJ6_bitCount_0f7a4 : eoks RJ6 kJ6_bitCount_0f7a4 := ⟨trivial, trivial, trivial, trivial, lRJ6_265, trivial, trivial, trivial, trivial, lRJ6_266, trivial, trivial, trivial, trivial, lRJ6_266, trivial, trivial, trivial, trivial, trivial, trivial, trivial, trivial, lRJ6_267, trivial, trivial, trivial, trivial, trivial, trivial, trivial, trivial, trivial, trivial, trivial, trivial, trivial, trivial, trivial, trivial, trivial, trivial, trivial⟩
set_option maxRecDepth 20000 in
theorem ekJ0_length_8abf5 : eoks RJ0 kJ0_length_8abf5 := ⟨trivial, lRJ0_9, trivial, trivial, lRJ0_335, trivial, trivial, trivial⟩
set_option maxRecDepth 20000 in
theorem ekJ0_charAt_5068e : eoks RJ0 kJ0_charAt_5068e := ⟨trivial, lRJ0_492, trivial, trivial, lRJ0_9, trivial, lRJ0_495, trivial, trivial, lRJ0_9, trivial, trivial, trivial, trivial⟩
set_option maxRecDepth 20000 in
theorem ekJ0_indexOf_0f7a4 : eoks RJ0 kJ0_indexOf_0f7a4 := ⟨trivial, trivial, trivial, lRJ0_633, trivial, trivial⟩
set_option maxRecDepth 20000 in
theorem ekJ0_indexOf_7cf53 : eoks RJ0 kJ0_indexOf_7cf53 := ⟨trivial, lRJ0_492, trivial, trivial, lRJ0_9, trivial, trivial, trivial, lRJ0_505, lRJ0_637, trivial, trivial, lRJ0_9, trivial, trivial, trivial, lRJ0_505, trivial, trivial, trivial⟩
set_option maxRecDepth 20000 in
theorem ekJ0_coder_7d493 : eoks RJ0 kJ0_coder_7d493 := ⟨lRJ0_38, trivial, trivial, lRJ0_15, trivial, trivial, trivial, trivial⟩
set_option maxRecDepth 20000 in
theorem ekJ0_isLatin1_aae02 : eoks RJ0 kJ0_isLatin1_aae02 := ⟨lRJ0_38, trivial, trivial, lRJ0_15, trivial, trivial, trivial, trivial, trivial, trivial⟩
set_option maxRecDepth 20000 in
theorem ekJ0_checkIndex_df160 : eoks RJ0 kJ0_checkIndex_df160 := ⟨trivial, trivial, lRJ0_1053, lRJ0_1059, trivial, trivial, trivial⟩
set_option maxRecDepth 20000 in
theorem ekJ1_charAt_3b067 : eoks RJ1 kJ1_charAt_3b067 := ⟨trivial, trivial, trivial, lRJ1_9, trivial, trivial, trivial, trivial, trivial, trivial, trivial, trivial⟩
set_option maxRecDepth 20000 in
theorem ekJ1_canEncode_9a6ad : eoks RJ1 kJ1_canEncode_9a6ad := ⟨trivial, trivial, trivial, trivial, trivial, trivial, trivial, trivial, trivial, trivial⟩
set_option maxRecDepth 20000 in
theorem ekJ1_indexOf_4cfef : eoks RJ1 kJ1_indexOf_4cfef := ⟨trivial, lRJ1_88, trivial, trivial, trivial, trivial, trivial, lRJ1_92, trivial, trivial, trivial, trivial, lRJ1_38, trivial, trivial, trivial, trivial, trivial, trivial, trivial, trivial, trivial, trivial, lRJ1_95, trivial, trivial⟩
set_option maxRecDepth 20000 in
theorem ekJ1_indexOfChar_4cfef : eoks RJ1 kJ1_indexOfChar_4cfef := ⟨trivial, trivial, trivial, trivial, trivial, trivial, trivial, trivial, trivial, trivial, trivial, trivial, trivial, trivial, trivial, trivial, trivial, trivial, trivial, trivial⟩
set_option maxRecDepth 20000 in
theorem ekJ3_checkIndex_8e157 : eoks RJ3 kJ3_checkIndex_8e157 := ⟨trivial, trivial, trivial, trivial, trivial, trivial, trivial, trivial, trivial, trivial, trivial, trivial, trivial⟩
set_option maxRecDepth 20000 in
theorem ekX0_perform : eoks RX0 kX0_perform := ⟨trivial, trivial, lRX0_15, trivial, trivial, trivial, lRX0_19, trivial, trivial⟩
set_option maxRecDepth 20000 in
theorem ekX0_callFrom : eoks RX0 kX0_callFrom := ⟨trivial, trivial, trivial, trivial, trivial, trivial, trivial, trivial, trivial, trivial, trivial, trivial, lRX0_23, trivial, trivial, trivial, trivial, trivial, trivial, trivial, trivial, trivial, trivial, trivial, trivial, trivial, trivial, trivial, lRX0_26, trivial, lRX0_30, trivial, trivial, trivial, trivial, trivial, trivial, trivial, trivial⟩
set_option maxRecDepth 20000 in
theorem ekX0_runBody : eoks RX0 kX0_runBody := ⟨trivial, trivial, trivial, trivial, trivial, trivial, lRX0_33, trivial, trivial, trivial, lRX0_9, trivial, lRX0_33, trivial, trivial, trivial, trivial, lRX0_33, trivial, trivial, lRX0_33, trivial, trivial, trivial, trivial, lRX0_36, trivial, trivial, trivial, trivial, lRX0_15, trivial, trivial, trivial, lRX0_19, trivial, lRX0_39, trivial, trivial, trivial, trivial, lRX0_15, trivial, trivial, trivial, lRX0_19, trivial, trivial, trivial, trivial, trivial, trivial, trivial, trivial, trivial, trivial, lRX0_19, trivial, trivial, trivial, trivial, trivial, trivial, lRX0_19, trivial, trivial, trivial, trivial, trivial, trivial, trivial, lRX0_19, trivial, trivial, trivial, trivial, trivial, trivial, trivial, trivial, trivial, trivial, lRX0_19, trivial, trivial, lRX0_15, trivial, trivial, trivial, lRX0_19, trivial, trivial, trivial, trivial, trivial, trivial, trivial, lRX0_19, trivial, lRX0_36, trivial, trivial, trivial, trivial, trivial, trivial, trivial, lRX0_19, trivial, lRX0_39, trivial, trivial, trivial, trivial, trivial⟩
set_option maxRecDepth 20000 in
theorem ekX1_become : eoks RX1 kX1_become := ⟨trivial, trivial, lRX1_49, lRX1_49, trivial, trivial, lRX1_53, lRX1_53, trivial, trivial, lRX1_56, lRX1_56, trivial, trivial, lRX1_45, lRX1_45, trivial, lRX1_9, trivial, trivial, lRX1_9, trivial, trivial, lRX1_59, trivial, lRX1_15, trivial, trivial, lRX1_15, trivial, trivial, lRX1_59, trivial, lRX1_18, trivial, trivial, lRX1_18, trivial, trivial, lRX1_59, trivial, lRX1_21, trivial, trivial, lRX1_21, trivial, trivial, lRX1_59, trivial, lRX1_24, trivial, trivial, lRX1_24, trivial, trivial, lRX1_59, trivial, lRX1_27, trivial, trivial, lRX1_27, trivial, trivial, lRX1_59, trivial, lRX1_30, trivial, trivial, lRX1_30, trivial, trivial, lRX1_59, trivial, lRX1_33, trivial, trivial, lRX1_33, trivial, trivial, lRX1_59, trivial, lRX1_36, trivial, trivial, lRX1_36, trivial, trivial, lRX1_59, trivial, trivial⟩
set_option maxRecDepth 20000 in
theorem ekX1_addSinger : eoks RX1 kX1_addSinger := ⟨trivial, lRX1_49, trivial, trivial, trivial, trivial, trivial, trivial, trivial, lRX1_9, trivial, trivial, trivial, trivial, lRX1_15, trivial, trivial, trivial, trivial, lRX1_18, trivial, trivial, trivial, trivial, lRX1_21, trivial, trivial, trivial, trivial, trivial, lRX1_49, trivial, trivial, lRX1_49, trivial, trivial, trivial⟩
set_option maxRecDepth 20000 in
theorem ekX1_addStone : eoks RX1 kX1_addStone := ⟨trivial, lRX1_53, trivial, trivial, trivial, trivial, trivial, trivial, trivial, lRX1_30, trivial, trivial, trivial, trivial, trivial, lRX1_53, trivial, trivial, lRX1_53, trivial, trivial, trivial⟩
set_option maxRecDepth 20000 in
theorem ekX1_highOf : eoks RX1 kX1_highOf := ⟨trivial, trivial, lRX1_18, trivial, trivial, trivial, trivial, lRX1_65, trivial, trivial⟩
set_option maxRecDepth 20000 in
theorem ekX1_canSing : eoks RX1 kX1_canSing := ⟨trivial, trivial, lRX1_18, trivial, trivial, trivial, trivial, trivial, trivial, lRX1_71, trivial, trivial, trivial, trivial, trivial, trivial⟩
set_option maxRecDepth 20000 in
theorem ekX1_singing : eoks RX1 kX1_singing := ⟨trivial, trivial, trivial, trivial, trivial, trivial, lRX1_49, trivial, trivial, lRX1_21, trivial, trivial, trivial, trivial, trivial, trivial, trivial, trivial, trivial, trivial, trivial, trivial, trivial, trivial, trivial⟩
set_option maxRecDepth 20000 in
theorem ekX1_measure : eoks RX1 kX1_measure := ⟨trivial, trivial, trivial, trivial, lRX1_49, trivial, trivial, lRX1_39, trivial, trivial, lRX1_21, trivial, trivial, trivial, trivial, trivial, trivial, trivial, trivial, lRX1_75, trivial, trivial, trivial, trivial, trivial⟩
set_option maxRecDepth 20000 in
theorem ekX1_forceOf : eoks RX1 kX1_forceOf := ⟨trivial, lRX1_24, trivial, trivial, trivial, trivial, trivial, trivial, lRX1_42, trivial, trivial, trivial, trivial, lRX1_42, trivial, trivial, lRX1_9, trivial, trivial, trivial, trivial, lRX1_42, trivial, trivial, lRX1_15, trivial, trivial, trivial, trivial, lRX1_42, trivial, trivial, lRX1_21, trivial, trivial, trivial, trivial, lRX1_42, trivial, trivial, trivial, trivial, lRX1_42, trivial, trivial, lRX1_56, trivial, trivial, trivial, trivial, trivial, trivial, lRX1_78, trivial, lRX1_45, trivial, lRX1_42, lRX1_81, trivial, trivial, trivial, lRX1_87, trivial, trivial⟩
set_option maxRecDepth 20000 in
theorem ekX1_strengthOf : eoks RX1 kX1_strengthOf := ⟨trivial, lRX1_21, trivial, trivial, trivial, trivial, trivial, trivial, trivial, trivial, trivial, trivial, lRX1_21, trivial, trivial, trivial, trivial, trivial, trivial, trivial, trivial, lRX1_15, trivial, trivial, trivial, trivial, trivial, lRX1_15, trivial, trivial, trivial, trivial, trivial, trivial, lRX1_9, trivial, trivial, trivial, trivial, trivial, trivial, trivial, trivial, trivial, trivial, trivial, trivial, lRX1_21, trivial, trivial, trivial, trivial, trivial, trivial, trivial, trivial, trivial, trivial, lRX1_56, trivial, trivial, trivial, trivial, trivial, trivial, trivial, trivial, trivial, trivial, trivial, lRX1_27, trivial, trivial, trivial, trivial, lRX1_56, trivial, trivial, trivial, trivial, trivial, trivial, trivial, trivial, trivial⟩
set_option maxRecDepth 20000 in
theorem ekX1_partners : eoks RX1 kX1_partners := ⟨trivial, trivial, trivial, trivial, trivial, trivial, lRX1_49, trivial, trivial, lRX1_21, trivial, trivial, trivial, lRX1_21, trivial, trivial, trivial, lRX1_90, trivial, trivial, trivial, trivial, trivial, trivial, trivial, trivial, lRX1_93, trivial, trivial, trivial, lRX1_93, trivial, trivial, trivial, trivial, trivial, trivial, trivial⟩
set_option maxRecDepth 20000 in
theorem ekX1_bearing : eoks RX1 kX1_bearing := ⟨trivial, trivial, trivial, lRX1_97, trivial, trivial, trivial, trivial, lRX1_39, trivial, trivial, trivial, trivial, trivial, trivial, lRX1_39, trivial, trivial, trivial, trivial, trivial, trivial⟩
set_option maxRecDepth 20000 in
theorem ekX1_allOf : eoks RX1 kX1_allOf := ⟨trivial, trivial, trivial, trivial, trivial, trivial, lRX1_49, trivial, trivial, trivial, lRX1_93, trivial, trivial, trivial, trivial, trivial, lRX1_100, trivial, trivial, trivial, trivial, trivial, trivial, trivial⟩
set_option maxRecDepth 20000 in
theorem ekX1_allNow : eoks RX1 kX1_allNow := ⟨trivial, lRX1_103, trivial, trivial, lRX1_106, lRX1_110, trivial, trivial⟩
set_option maxRecDepth 20000 in
theorem ekX1_hangs : eoks RX1 kX1_hangs := ⟨trivial, lRX1_33, trivial, trivial, trivial, trivial, lRX1_36, trivial, trivial, trivial, trivial, trivial, trivial, trivial, trivial⟩
set_option maxRecDepth 20000 in
theorem ekX1_sumHanging : eoks RX1 kX1_sumHanging := ⟨trivial, trivial, trivial, trivial, trivial, trivial, lRX1_53, trivial, trivial, trivial, trivial, lRX1_113, trivial, trivial, lRX1_30, trivial, trivial, trivial, trivial, trivial, trivial, trivial, trivial, trivial, trivial, trivial⟩
set_option maxRecDepth 20000 in
theorem ekX1_looseBits : eoks RX1 kX1_looseBits := ⟨trivial, trivial, trivial, trivial, trivial, trivial, trivial, trivial, lRX1_53, trivial, trivial, trivial, lRX1_113, trivial, trivial, trivial, lRX1_30, trivial, trivial, trivial, trivial, trivial, trivial, trivial, trivial, trivial, trivial, trivial, trivial, trivial, trivial, trivial, trivial, trivial, trivial, trivial, trivial⟩
set_option maxRecDepth 20000 in
theorem ekX1_countFallen : eoks RX1 kX1_countFallen := ⟨trivial, trivial, trivial, trivial, trivial, trivial, lRX1_53, trivial, trivial, trivial, lRX1_36, trivial, trivial, trivial, trivial, trivial, trivial, trivial, trivial, trivial⟩
set_option maxRecDepth 20000 in
theorem ekX1_sumTired : eoks RX1 kX1_sumTired := ⟨trivial, trivial, trivial, trivial, trivial, trivial, lRX1_49, trivial, trivial, trivial, lRX1_24, trivial, trivial, trivial, trivial, trivial, trivial, trivial, trivial, trivial⟩
set_option maxRecDepth 20000 in
theorem ekX1_goBeat : eoks RX1 kX1_goBeat := ⟨trivial, lRX1_103, trivial, trivial, trivial, lRX1_106, lRX1_110, lRX1_117, trivial, trivial, trivial, trivial, trivial, lRX1_53, trivial, trivial, trivial, lRX1_93, trivial, trivial, lRX1_36, trivial, trivial, trivial, trivial, trivial, trivial, trivial, trivial, trivial, lRX1_49, trivial, trivial, lRX1_24, trivial, trivial, lRX1_21, trivial, trivial, trivial, trivial, trivial, trivial, lRX1_24, trivial, trivial, trivial, lRX1_45, lRX1_120, trivial, lRX1_87, trivial, trivial, trivial, lRX1_24, trivial, trivial, trivial, lRX1_45, lRX1_123, trivial, lRX1_65, trivial, trivial, trivial, trivial, trivial, lRX1_56, trivial, trivial, lRX1_56, trivial, lRX1_126, trivial, trivial⟩
set_option maxRecDepth 20000 in
theorem ekX1_goRound : eoks RX1 kX1_goRound := ⟨trivial, lRX1_49, trivial, trivial, trivial, lRX1_21, trivial, lRX1_49, trivial, trivial, trivial, trivial, trivial, lRX1_49, trivial, trivial, trivial, trivial, trivial, trivial, trivial, trivial, trivial, trivial, lRX1_21, trivial, trivial, trivial, trivial, trivial, trivial, lRX1_21, trivial, trivial, trivial, trivial, lRX1_131, trivial, trivial, trivial, trivial, trivial, trivial, trivial, trivial, trivial⟩
set_option maxRecDepth 20000 in
theorem ekX1_keepNotes : eoks RX1 kX1_keepNotes := ⟨trivial, trivial, trivial, trivial, lRX1_49, trivial, trivial, lRX1_21, trivial, trivial, trivial, lRX1_93, trivial, trivial, lRX1_21, trivial, trivial, trivial, trivial, trivial, trivial, trivial, trivial, trivial⟩
set_option maxRecDepth 20000 in
theorem ekX2_read : eoks RX2 kX2_read := ⟨trivial, trivial, lRX2_9, trivial, trivial, trivial, trivial, lRX2_15, lRX2_21, trivial, trivial, lRX2_25, trivial, trivial, lRX2_28, trivial, lRX2_28, lRX2_32, trivial, trivial, trivial, trivial, trivial, trivial, lRX2_37, trivial, trivial, lRX2_25, trivial, trivial, lRX2_25, trivial, lRX2_21, trivial, trivial, trivial, trivial, trivial, trivial, trivial, trivial, lRX2_41, trivial, trivial, lRX2_25, trivial, trivial, trivial, trivial, lRX2_25, trivial, trivial⟩
set_option maxRecDepth 20000 in
theorem ekX2_peek : eoks RX2 kX2_peek := ⟨trivial, lRX2_25, trivial, lRX2_21, trivial, trivial, lRX2_9, trivial, lRX2_25, trivial, trivial, trivial, trivial, trivial⟩
set_option maxRecDepth 20000 in
theorem ekX2_take : eoks RX2 kX2_take := ⟨trivial, lRX2_45, trivial, trivial, trivial, trivial, trivial, trivial, lRX2_25, trivial, trivial, lRX2_25, trivial, trivial, trivial⟩
set_option maxRecDepth 20000 in
theorem ekX2_readClause : eoks RX2 kX2_readClause := ⟨trivial, lRX2_45, trivial, trivial, lRX2_49, lRX2_51, trivial, trivial, trivial, lRX2_55, trivial, trivial, trivial, trivial, trivial, trivial, lRX2_59, lRX2_51, trivial, trivial, trivial, lRX2_55, trivial, trivial, trivial, trivial, trivial, trivial, lRX2_61, lRX2_51, trivial, trivial, trivial, lRX2_55, trivial, trivial, trivial, trivial, trivial, trivial, lRX2_63, lRX2_51, trivial, trivial, trivial, lRX2_55, trivial, trivial, trivial, trivial, trivial, trivial, trivial, trivial⟩
set_option maxRecDepth 20000 in
theorem ekX2_readWord : eoks RX2 kX2_readWord := ⟨trivial, trivial, trivial, trivial, lRX2_65, trivial, trivial, trivial, trivial, lRX2_70, lRX2_41, trivial, trivial, trivial, trivial, trivial, trivial, trivial, trivial⟩
set_option maxRecDepth 20000 in
theorem ekX2_readRest : eoks RX2 kX2_readRest := ⟨trivial, lRX2_74, trivial, trivial, trivial, trivial, trivial, trivial, lRX2_28, lRX2_77, trivial, trivial, trivial, trivial, trivial, trivial, trivial, trivial, trivial, trivial, trivial, trivial, trivial, trivial, trivial, lRX2_41, trivial, trivial, trivial, lRX2_80, trivial, trivial, trivial, trivial, lRX2_28, trivial, trivial, trivial, lRX2_83, trivial, trivial, trivial⟩
set_option maxRecDepth 20000 in
theorem ekX2_readNumber : eoks RX2 kX2_readNumber := ⟨trivial, lRX2_45, trivial, trivial, trivial, trivial, trivial, trivial, trivial, trivial, trivial, trivial, trivial, trivial, lRX2_25, trivial, trivial, lRX2_25, trivial, lRX2_45, trivial, trivial, trivial, trivial, trivial, trivial, trivial, trivial, trivial, trivial, trivial, trivial, trivial, trivial, lRX2_25, trivial, trivial, lRX2_25, trivial, trivial, trivial, trivial, trivial, trivial, trivial⟩
set_option maxRecDepth 20000 in
theorem ekX2_readEither : eoks RX2 kX2_readEither := ⟨trivial, trivial, lRX2_87, trivial, trivial, trivial, trivial, trivial, trivial, trivial, trivial, trivial, trivial, lRX2_41, trivial, trivial, trivial, lRX2_87, trivial, trivial, trivial, trivial, lRX2_28, trivial, lRX2_90, trivial, trivial, trivial, trivial, trivial⟩
set_option maxRecDepth 20000 in
theorem ekX2_readBoth : eoks RX2 kX2_readBoth := ⟨trivial, trivial, lRX2_94, trivial, trivial, trivial, trivial, trivial, trivial, trivial, trivial, trivial, trivial, lRX2_41, trivial, trivial, trivial, lRX2_94, trivial, trivial, trivial, trivial, lRX2_28, trivial, lRX2_90, trivial, trivial, trivial, trivial, trivial⟩
set_option maxRecDepth 20000 in
theorem ekX2_readFactor : eoks RX2 kX2_readFactor := ⟨trivial, lRX2_45, trivial, trivial, trivial, trivial, trivial, trivial, trivial, trivial, lRX2_97, trivial, trivial, trivial, trivial, trivial, trivial, trivial, trivial, lRX2_25, trivial, trivial, lRX2_25, trivial, trivial, trivial, trivial, trivial, trivial, trivial, lRX2_80, trivial, trivial, trivial, lRX2_41, trivial, trivial, trivial, trivial, trivial, trivial, trivial, trivial, trivial, lRX2_94, trivial, trivial, trivial, trivial, lRX2_28, trivial, lRX2_90, trivial, trivial, trivial⟩
set_option maxRecDepth 20000 in
theorem ekX2_readTest : eoks RX2 kX2_readTest := ⟨trivial, lRX2_100, lRX2_102, trivial, trivial, trivial, trivial, trivial, trivial, lRX2_106, lRX2_102, trivial, trivial, trivial, trivial, trivial, trivial, lRX2_74, trivial, trivial, trivial, trivial, trivial, trivial, lRX2_28, trivial, trivial, trivial, trivial, trivial, trivial, trivial, trivial, trivial, lRX2_90, trivial, trivial, trivial⟩
set_option maxRecDepth 20000 in
theorem ekX2_indexOfNext : eoks RX2 kX2_indexOfNext := ⟨trivial, lRX2_45, trivial, trivial, trivial, trivial, trivial, trivial, trivial, trivial, lRX2_108, trivial, trivial, trivial, trivial, trivial, lRX2_25, trivial, trivial, lRX2_25, trivial, trivial, trivial⟩
set_option maxRecDepth 20000 in
theorem ekX3_clear : eoks RX3 kX3_clear := ⟨trivial, trivial, lRX3_30, trivial, trivial, lRX3_34, trivial, trivial, lRX3_37, trivial, trivial, lRX3_40, trivial, trivial⟩
set_option maxRecDepth 20000 in
theorem ekX3_addToken : eoks RX3 kX3_addToken := ⟨trivial, lRX3_34, trivial, lRX3_24, trivial, trivial, trivial, lRX3_24, trivial, lRX3_34, trivial, trivial, trivial, trivial, lRX3_34, trivial, trivial, lRX3_34, trivial, trivial⟩
set_option maxRecDepth 20000 in
theorem ekX3_addClause : eoks RX3 kX3_addClause := ⟨trivial, lRX3_30, trivial, trivial, trivial, trivial, lRX3_9, trivial, lRX3_30, trivial, trivial, trivial, lRX3_15, trivial, lRX3_30, trivial, trivial, trivial, lRX3_18, trivial, lRX3_30, trivial, trivial, trivial, lRX3_21, trivial, lRX3_30, trivial, lRX3_34, trivial, trivial, trivial, lRX3_30, trivial, trivial, lRX3_30, trivial, trivial, trivial, trivial, lRX3_37, trivial, trivial, trivial, trivial, trivial, trivial, lRX3_40, trivial, trivial⟩
set_option maxRecDepth 20000 in
theorem ekX3_gainOf : eoks RX3 kX3_gainOf := ⟨trivial, trivial, trivial, trivial, trivial, trivial, lRX3_30, trivial, trivial, lRX3_9, trivial, trivial, trivial, trivial, trivial, trivial, trivial, lRX3_43, trivial, trivial, trivial, lRX3_15, trivial, trivial, trivial, trivial, trivial, trivial, lRX3_9, trivial, trivial, trivial, trivial, trivial, trivial, trivial, lRX3_43, trivial, trivial, trivial, lRX3_15, trivial, trivial, trivial, trivial, trivial, trivial, trivial, trivial, trivial⟩
set_option maxRecDepth 20000 in
theorem ekX3_holds : eoks RX3 kX3_holds := ⟨trivial, trivial, trivial, lRX3_18, trivial, trivial, trivial, trivial, trivial, lRX3_21, trivial, trivial, trivial, trivial, lRX3_24, trivial, trivial, trivial, trivial, trivial, trivial, trivial, trivial, trivial, trivial, trivial, trivial, trivial, trivial, trivial, trivial, lRX3_47, trivial, trivial, trivial, trivial, trivial, trivial, trivial, lRX3_53, trivial, trivial, trivial, trivial, trivial, trivial, trivial, trivial, trivial, trivial, trivial, trivial, trivial, trivial, trivial, trivial, trivial, trivial, trivial, trivial, trivial, trivial, trivial, trivial, trivial, trivial, trivial, trivial, trivial, trivial, trivial, trivial, trivial, trivial, trivial, trivial, trivial, trivial, trivial, trivial, trivial, trivial, trivial, trivial, trivial, trivial, trivial, trivial, trivial, trivial, trivial, trivial, trivial, trivial, trivial⟩
set_option maxRecDepth 20000 in
theorem ekX4_become : eoks RX4 kX4_become := ⟨trivial, trivial, lRX4_33, lRX4_33, trivial, trivial, lRX4_37, lRX4_37, trivial, trivial, lRX4_40, lRX4_40, trivial, trivial, lRX4_43, lRX4_43, trivial, trivial, lRX4_46, lRX4_46, trivial, lRX4_9, trivial, trivial, lRX4_9, trivial, trivial, lRX4_49, trivial, lRX4_15, trivial, trivial, lRX4_15, trivial, trivial, lRX4_49, trivial, lRX4_18, trivial, trivial, lRX4_18, trivial, trivial, lRX4_49, trivial, lRX4_21, trivial, trivial, lRX4_21, trivial, trivial, lRX4_49, trivial, lRX4_24, trivial, trivial, lRX4_24, trivial, trivial, lRX4_49, trivial, lRX4_27, trivial, trivial, lRX4_27, trivial, trivial, lRX4_49, trivial, lRX4_30, trivial, trivial, lRX4_30, trivial, trivial, lRX4_49, trivial, trivial⟩
set_option maxRecDepth 20000 in
theorem ekX5_feed : eoks RX5 kX5_feed := ⟨trivial, trivial, trivial, trivial, trivial, trivial, trivial, trivial, lRX5_34, lRX5_64, trivial, trivial, trivial, trivial, trivial, lRX5_34, lRX5_68, trivial, lRX5_34, lRX5_64, trivial, trivial, trivial, lRX5_34, trivial, lRX5_64, trivial, trivial, lRX5_64, trivial, lRX5_34, lRX5_64, trivial, trivial⟩
set_option maxRecDepth 20000 in
theorem ekX5_setting : eoks RX5 kX5_setting := ⟨trivial, lRX5_34, lRX5_71, trivial, trivial, trivial, trivial, trivial, lRX5_13, trivial, lRX5_34, lRX5_71, trivial, trivial, trivial, trivial, trivial, lRX5_20, trivial, lRX5_34, lRX5_68, trivial, lRX5_34, lRX5_64, trivial, lRX5_73, trivial, trivial, lRX5_34, trivial, lRX5_64, trivial, trivial, trivial, trivial, trivial, trivial, trivial, lRX5_54, trivial, lRX5_77, trivial, lRX5_34, trivial, lRX5_71, trivial, trivial, lRX5_71, trivial, lRX5_34, lRX5_71, trivial, trivial, trivial, trivial⟩
set_option maxRecDepth 20000 in
theorem ekX5_singer : eoks RX5 kX5_singer := ⟨trivial, trivial, trivial, trivial, trivial, trivial, trivial, trivial, trivial, trivial, trivial, trivial, trivial, trivial, trivial, trivial, trivial, trivial, trivial, trivial, lRX5_54, lRX5_81, trivial, trivial, trivial, trivial, trivial, lRX5_54, trivial, trivial, trivial, lRX5_84, trivial, trivial⟩
set_option maxRecDepth 20000 in
theorem ekX5_of : eoks RX5 kX5_of := ⟨trivial, trivial, lRX5_88, trivial, trivial, trivial, trivial, lRX5_54, lRX5_92, trivial, trivial, trivial, trivial, trivial, trivial, trivial, trivial, trivial, lRX5_54, lRX5_95, trivial, trivial, trivial, lRX5_54, lRX5_98, trivial, trivial, trivial, trivial, lRX5_54, lRX5_101, trivial, trivial, trivial, trivial, lRX5_54, lRX5_104, trivial, trivial, trivial, trivial, trivial, trivial, lRX5_54, lRX5_92, trivial, trivial, trivial, trivial, trivial, trivial, lRX5_54, lRX5_107, trivial, trivial, trivial, trivial, lRX5_54, lRX5_110, trivial, trivial, trivial, trivial, trivial, trivial, lRX5_54, trivial, trivial, lRX5_54, lRX5_113, lRX5_117, trivial, trivial, trivial, trivial, trivial, trivial, lRX5_54, trivial, trivial, lRX5_54, lRX5_113, lRX5_121, trivial, trivial, trivial, trivial, trivial, trivial⟩
set_option maxRecDepth 20000 in
theorem ekX5_row : eoks RX5 kX5_row := ⟨trivial, trivial, lRX5_88, trivial, trivial, trivial, trivial, trivial, trivial, trivial, trivial, trivial, trivial, trivial, trivial, trivial, trivial, trivial, trivial, lRX5_54, lRX5_98, trivial, trivial, trivial, trivial, trivial, trivial, trivial, lRX5_54, lRX5_124, trivial, trivial, trivial, trivial, trivial, trivial, trivial, trivial, lRX5_54, lRX5_124, trivial, trivial, trivial, trivial, trivial, trivial, trivial, trivial, trivial, trivial⟩
set_option maxRecDepth 20000 in
theorem ekX5_sing : eoks RX5 kX5_sing := ⟨trivial, trivial, lRX5_88, trivial, trivial, trivial, trivial, trivial, trivial, trivial, lRX5_54, trivial, trivial, lRX5_127, trivial, trivial, trivial, trivial, lRX5_54, lRX5_92, trivial, trivial, trivial, trivial, lRX5_54, lRX5_92, trivial, trivial, trivial, trivial, trivial, trivial, trivial, trivial, trivial, trivial, trivial⟩
set_option maxRecDepth 20000 in
theorem ekX5_tire : eoks RX5 kX5_tire := ⟨trivial, trivial, lRX5_88, trivial, trivial, trivial, trivial, trivial, trivial, trivial, trivial, trivial, trivial, trivial, lRX5_54, lRX5_107, trivial, trivial, trivial, trivial, lRX5_54, lRX5_107, trivial, trivial, trivial, trivial, trivial, trivial⟩
set_option maxRecDepth 20000 in
theorem ekX5_stone : eoks RX5 kX5_stone := ⟨trivial, trivial, trivial, trivial, trivial, trivial, trivial, trivial, trivial, lRX5_54, lRX5_131, trivial, trivial, trivial, trivial, trivial, lRX5_54, trivial, lRX5_134, trivial, trivial⟩
set_option maxRecDepth 20000 in
theorem ekX5_at : eoks RX5 kX5_at := ⟨trivial, trivial, lRX5_138, trivial, trivial, trivial, trivial, trivial, trivial, lRX5_54, lRX5_141, trivial, trivial, trivial, trivial, lRX5_54, lRX5_144, trivial, trivial, trivial, trivial, lRX5_54, lRX5_147, trivial, trivial, trivial, trivial, lRX5_54, trivial, lRX5_54, lRX5_150, lRX5_153, trivial, trivial, trivial, trivial, trivial, trivial, trivial, trivial⟩
set_option maxRecDepth 20000 in
theorem ekX5_prop : eoks RX5 kX5_prop := ⟨trivial, trivial, lRX5_138, trivial, trivial, trivial, trivial, lRX5_54, lRX5_147, trivial, trivial, trivial, trivial, trivial, trivial, lRX5_54, lRX5_144, trivial, trivial, trivial, trivial, lRX5_54, lRX5_144, trivial, trivial, trivial, trivial, trivial, trivial, trivial, trivial, trivial, trivial⟩
set_option maxRecDepth 20000 in
theorem ekX5_told : eoks RX5 kX5_told := ⟨trivial, trivial, trivial, lRX5_54, lRX5_156, trivial, trivial, lRX5_54, lRX5_77, lRX5_159, trivial, trivial, lRX5_54, lRX5_77, lRX5_162, trivial, trivial, lRX5_54, lRX5_150, trivial, trivial, lRX5_54, trivial, lRX5_54, lRX5_150, lRX5_153, trivial, trivial, lRX5_54, lRX5_165, trivial, trivial, trivial, trivial⟩
set_option maxRecDepth 20000 in
theorem ekX5_beat : eoks RX5 kX5_beat := ⟨trivial, lRX5_54, lRX5_156, lRX5_168, trivial, trivial, trivial, trivial, lRX5_54, lRX5_169, trivial, trivial⟩
set_option maxRecDepth 20000 in
theorem ekX5_on : eoks RX5 kX5_on := ⟨trivial, trivial, trivial, trivial, trivial, trivial, trivial, lRX5_88, trivial, trivial, trivial, trivial, trivial, trivial, trivial, trivial, trivial, trivial, trivial, trivial, trivial, trivial, trivial, trivial, trivial, trivial, trivial, trivial, trivial, trivial, lRX5_58, trivial, lRX5_54, lRX5_172, trivial, trivial, trivial, trivial, trivial, trivial, trivial, trivial, lRX5_58, lRX5_169, trivial, trivial, trivial, trivial, trivial, trivial, trivial, trivial, trivial, trivial, trivial, lRX5_58, lRX5_107, trivial, trivial, trivial, trivial, trivial, trivial, trivial, trivial, trivial, trivial, trivial, trivial, trivial, lRX5_58, lRX5_165, trivial, trivial, lRX5_58, lRX5_150, trivial, trivial⟩
set_option maxRecDepth 20000 in
theorem ekX5_steady : eoks RX5 kX5_steady := ⟨trivial, lRX5_58, trivial, lRX5_54, lRX5_172, trivial, trivial, trivial, trivial, trivial, trivial, lRX5_58, trivial, lRX5_58, lRX5_150, lRX5_153, trivial, trivial, trivial, trivial, lRX5_58, lRX5_169, trivial, trivial, trivial, trivial, trivial, trivial⟩
set_option maxRecDepth 20000 in
theorem ekX5_best : eoks RX5 kX5_best := ⟨trivial, trivial, lRX5_88, trivial, trivial, trivial, trivial, trivial, trivial, trivial, trivial, trivial, lRX5_58, trivial, lRX5_54, lRX5_172, trivial, trivial, lRX5_176, trivial, trivial, trivial, trivial, trivial, trivial, lRX5_58, lRX5_92, trivial, trivial, trivial, trivial, lRX5_58, lRX5_150, trivial, trivial⟩
set_option maxRecDepth 20000 in
theorem ekX5_chord : eoks RX5 kX5_chord := ⟨trivial, trivial, trivial, trivial, trivial, trivial, trivial, trivial, trivial, lRX5_54, lRX5_81, trivial, trivial, trivial, trivial, trivial, trivial, lRX5_54, lRX5_81, trivial, trivial, trivial, trivial, lRX5_179, trivial, trivial, lRX5_182, lRX5_185, trivial, trivial, trivial, trivial, trivial, trivial, lRX5_58, lRX5_92, trivial, trivial, trivial, trivial⟩
set_option maxRecDepth 20000 in
theorem ekX5_needed : eoks RX5 kX5_needed := ⟨trivial, lRX5_54, lRX5_95, trivial, lRX5_54, lRX5_113, trivial, trivial, trivial, trivial, trivial, trivial, trivial, trivial, trivial, lRX5_54, lRX5_81, trivial, trivial, trivial, lRX5_188, trivial, trivial, lRX5_54, trivial, trivial, trivial, trivial, trivial, trivial, trivial, lRX5_191, trivial, trivial, trivial, trivial, trivial, trivial, trivial, trivial, trivial, trivial, trivial, trivial, trivial, trivial, trivial, trivial⟩
set_option maxRecDepth 20000 in
theorem ekX5_spare : eoks RX5 kX5_spare := ⟨trivial, lRX5_54, lRX5_95, trivial, trivial, lRX5_54, lRX5_113, lRX5_194, trivial, trivial⟩
set_option maxRecDepth 20000 in
theorem ekX5_shift : eoks RX5 kX5_shift := ⟨trivial, trivial, trivial, trivial, trivial, trivial, trivial, trivial, trivial, trivial, trivial, trivial, trivial, trivial, trivial, trivial, lRX5_58, trivial, lRX5_54, lRX5_172, trivial, trivial, trivial, trivial, trivial, trivial, trivial, trivial, lRX5_197, trivial, trivial, lRX5_58, lRX5_169, trivial, trivial, trivial, trivial, trivial, trivial, lRX5_58, lRX5_200, trivial, trivial, trivial, trivial, trivial, lRX5_58, lRX5_165, trivial, trivial, trivial, trivial⟩
set_option maxRecDepth 20000 in
theorem ekX5_ill : eoks RX5 kX5_ill := ⟨trivial, trivial, lRX5_88, trivial, trivial, trivial, trivial, lRX5_54, lRX5_92, trivial, trivial, trivial, trivial, trivial, trivial, trivial, lRX5_58, trivial, lRX5_54, lRX5_172, trivial, lRX5_58, lRX5_92, trivial, trivial, trivial, trivial, trivial, trivial, trivial, trivial, trivial, trivial, trivial, lRX5_54, lRX5_81, trivial, trivial, trivial, trivial, trivial, lRX5_54, lRX5_92, trivial, trivial, trivial, trivial, trivial, trivial, lRX5_176, trivial, trivial, lRX5_58, lRX5_92, trivial, trivial, trivial, trivial, lRX5_58, lRX5_150, trivial, trivial, lRX5_58, lRX5_92, trivial, trivial, trivial, trivial, trivial, trivial, trivial, trivial, trivial, trivial, trivial, trivial, trivial, trivial, trivial, trivial, trivial, trivial, trivial, trivial, trivial, trivial⟩
set_option maxRecDepth 20000 in
theorem ekX5_canon : eoks RX5 kX5_canon := ⟨trivial, trivial, trivial, trivial, trivial, trivial, trivial, trivial, trivial, trivial, trivial, trivial, trivial, trivial, trivial, trivial, lRX5_58, trivial, lRX5_54, lRX5_172, trivial, lRX5_58, lRX5_150, trivial, trivial, trivial, trivial, trivial, trivial, trivial, trivial, lRX5_58, lRX5_150, lRX5_203, trivial, trivial, lRX5_58, lRX5_169, trivial, trivial, lRX5_58, lRX5_208, trivial, trivial, trivial, trivial, trivial, lRX5_58, lRX5_165, trivial, trivial, trivial, trivial⟩
set_option maxRecDepth 20000 in
theorem ekX5_props : eoks RX5 kX5_props := ⟨trivial, trivial, trivial, trivial, trivial, trivial, trivial, trivial, lRX5_54, lRX5_150, trivial, trivial, lRX5_211, trivial, trivial, lRX5_54, lRX5_214, trivial, trivial, trivial, trivial, trivial, trivial, trivial, trivial, trivial, trivial, trivial, lRX5_54, lRX5_141, trivial, lRX5_45, trivial, trivial, trivial, trivial, trivial, trivial, trivial, trivial, trivial, trivial, trivial, trivial, trivial, trivial, trivial, trivial, trivial, trivial, trivial⟩
set_option maxRecDepth 20000 in
theorem ekX5_critical : eoks RX5 kX5_critical := ⟨trivial, trivial, trivial, trivial, trivial, trivial, trivial, trivial, lRX5_54, lRX5_95, trivial, lRX5_54, lRX5_113, trivial, trivial, trivial, lRX5_194, trivial, trivial, trivial, lRX5_217, trivial, trivial, trivial, trivial, trivial, trivial, trivial, trivial, trivial, lRX5_54, lRX5_81, trivial, trivial, trivial, trivial, trivial, trivial, trivial, lRX5_54, lRX5_81, trivial, trivial, trivial, lRX5_188, trivial, trivial, trivial, lRX5_188, trivial, trivial, trivial, trivial, trivial, trivial, trivial, trivial, trivial, trivial, trivial, trivial, trivial, trivial, trivial, lRX5_217, trivial, trivial, trivial, trivial, trivial, trivial, trivial, trivial, trivial, trivial, trivial, trivial, trivial, trivial, trivial, trivial, trivial, trivial, trivial, trivial, trivial, trivial, trivial, trivial⟩
set_option maxRecDepth 20000 in
theorem ekX5_load : eoks RX5 kX5_load := ⟨trivial, lRX5_54, lRX5_214, trivial, lRX5_54, lRX5_150, trivial, trivial, trivial⟩
set_option maxRecDepth 20000 in
theorem ekX5_dust : eoks RX5 kX5_dust := ⟨trivial, trivial, trivial, trivial, lRX5_34, trivial, lRX5_220, trivial, trivial, trivial, trivial, trivial, trivial, trivial, trivial, trivial, trivial, trivial, trivial, trivial, trivial, trivial, lRX5_34, lRX5_220, trivial, trivial, trivial, trivial, trivial, lRX5_34, lRX5_223, trivial, lRX5_34, lRX5_220, trivial, trivial, trivial, lRX5_34, lRX5_226, trivial, lRX5_34, lRX5_220, trivial, trivial, trivial, lRX5_34, trivial, lRX5_220, trivial, trivial, lRX5_220, trivial, lRX5_34, lRX5_220, trivial, trivial⟩
set_option maxRecDepth 20000 in
theorem ekX5_flat : eoks RX5 kX5_flat := ⟨trivial, trivial, trivial, trivial, trivial, trivial, lRX5_54, lRX5_81, trivial, trivial, lRX5_54, lRX5_92, trivial, trivial, trivial, trivial, trivial, trivial, lRX5_229, trivial, trivial, trivial, trivial, trivial, trivial, trivial, trivial, trivial, trivial, trivial, trivial⟩
set_option maxRecDepth 20000 in
theorem ekX5_order : eoks RX5 kX5_order := ⟨trivial, trivial, trivial, trivial, trivial, trivial, trivial, trivial, trivial, lRX5_211, trivial, trivial, trivial, trivial, trivial, trivial, trivial, lRX5_45, trivial, trivial, trivial, trivial, trivial, trivial, lRX5_54, lRX5_150, trivial, trivial, trivial, trivial, trivial, trivial, trivial, trivial, trivial, trivial, trivial, trivial, lRX5_54, lRX5_141, trivial, lRX5_45, trivial, trivial, trivial, trivial, trivial, trivial, trivial, trivial, trivial, trivial, trivial, trivial, trivial, trivial, trivial, trivial, trivial, trivial, trivial, trivial, trivial⟩
set_option maxRecDepth 20000 in
theorem ekX5_odds : eoks RX5 kX5_odds := ⟨trivial, lRX5_54, lRX5_81, trivial, lRX5_232, trivial, trivial, lRX5_54, lRX5_95, trivial, lRX5_54, lRX5_113, trivial, trivial, trivial, trivial, trivial, trivial, trivial, lRX5_54, lRX5_81, trivial, trivial, trivial, trivial, trivial, trivial, trivial, trivial, trivial, lRX5_217, trivial, trivial, trivial, trivial, trivial, trivial, lRX5_54, lRX5_81, trivial, lRX5_234, trivial, trivial⟩
set_option maxRecDepth 20000 in
theorem ekX5_mean : eoks RX5 kX5_mean := ⟨trivial, trivial, trivial, trivial, trivial, trivial, lRX5_232, trivial, trivial, lRX5_58, trivial, lRX5_54, lRX5_172, trivial, trivial, trivial, trivial, trivial, trivial, trivial, trivial, trivial, lRX5_58, lRX5_150, trivial, trivial, trivial, lRX5_58, lRX5_169, trivial, trivial, trivial, trivial, trivial, trivial, lRX5_234, trivial, trivial⟩
set_option maxRecDepth 20000 in
theorem ekX5_wage : eoks RX5 kX5_wage := ⟨trivial, trivial, lRX5_88, trivial, lRX5_232, trivial, trivial, lRX5_54, lRX5_92, trivial, trivial, trivial, trivial, trivial, trivial, trivial, lRX5_234, trivial, trivial, lRX5_54, lRX5_95, trivial, trivial, trivial, trivial, trivial, lRX5_54, lRX5_113, trivial, trivial, trivial, trivial, trivial, trivial, trivial, trivial, trivial, trivial, trivial, trivial, trivial, trivial, trivial, trivial, trivial, trivial, trivial, trivial, trivial, trivial, lRX5_54, trivial, trivial, trivial, lRX5_191, trivial, lRX5_54, trivial, lRX5_191, trivial, trivial, trivial, trivial, trivial, trivial, trivial, trivial, trivial, lRX5_234, trivial, trivial⟩
set_option maxRecDepth 20000 in
theorem ekX5_plan : eoks RX5 kX5_plan := ⟨trivial, trivial, trivial, trivial, lRX5_34, trivial, lRX5_238, trivial, trivial, trivial, trivial, lRX5_88, trivial, trivial, trivial, trivial, trivial, trivial, trivial, trivial, trivial, trivial, trivial, trivial, lRX5_34, lRX5_238, trivial, trivial, trivial, trivial, trivial, lRX5_34, lRX5_241, trivial, lRX5_34, lRX5_238, trivial, trivial, trivial, lRX5_34, lRX5_244, trivial, lRX5_34, lRX5_238, trivial, trivial, trivial, lRX5_34, trivial, lRX5_238, trivial, trivial, lRX5_238, trivial, lRX5_34, lRX5_238, trivial, trivial⟩
set_option maxRecDepth 20000 in
theorem ekX5_planned : eoks RX5 kX5_planned := ⟨trivial, trivial, trivial, trivial, trivial, trivial, trivial, trivial, lRX5_58, trivial, lRX5_54, lRX5_172, trivial, trivial, trivial, trivial, lRX5_34, lRX5_238, trivial, trivial, lRX5_34, lRX5_241, trivial, trivial, trivial, trivial, lRX5_34, lRX5_244, trivial, trivial, trivial, trivial, trivial, lRX5_88, trivial, trivial, lRX5_58, lRX5_92, trivial, trivial, lRX5_58, trivial, trivial, lRX5_127, trivial, trivial, trivial, trivial, trivial, trivial, lRX5_58, lRX5_169, trivial, trivial, trivial, trivial, trivial, trivial, lRX5_58, lRX5_165, trivial, trivial, lRX5_58, lRX5_150, trivial, trivial⟩
set_option maxRecDepth 20000 in
theorem ekX5_book : eoks RX5 kX5_book := ⟨trivial, trivial, trivial, trivial, lRX5_34, trivial, lRX5_247, trivial, trivial, trivial, trivial, lRX5_88, trivial, trivial, trivial, trivial, trivial, trivial, trivial, trivial, trivial, trivial, trivial, lRX5_34, lRX5_247, trivial, trivial, trivial, trivial, trivial, lRX5_34, lRX5_250, trivial, lRX5_34, lRX5_247, trivial, trivial, trivial, lRX5_34, lRX5_253, trivial, lRX5_34, lRX5_247, trivial, trivial, trivial, lRX5_34, trivial, lRX5_247, trivial, trivial, lRX5_247, trivial, lRX5_34, lRX5_247, trivial, trivial⟩
set_option maxRecDepth 20000 in
theorem ekX5_looked : eoks RX5 kX5_looked := ⟨trivial, lRX5_54, lRX5_95, trivial, lRX5_54, lRX5_113, trivial, trivial, trivial, trivial, trivial, lRX5_34, lRX5_247, trivial, trivial, lRX5_34, lRX5_250, trivial, trivial, trivial, trivial, trivial, lRX5_188, trivial, trivial, lRX5_54, trivial, trivial, lRX5_117, trivial, trivial, trivial, trivial, trivial, lRX5_34, lRX5_253, trivial, trivial, trivial, trivial, trivial, trivial, trivial, trivial, trivial, trivial⟩
set_option maxRecDepth 20000 in
theorem ekX5_act : eoks RX5 kX5_act := ⟨trivial, lRX5_27, trivial, lRX5_256, trivial, trivial, lRX5_88, trivial, trivial, trivial, trivial, trivial, trivial, trivial, trivial, trivial, lRX5_27, trivial, lRX5_259, trivial, lRX5_27, trivial, lRX5_54, lRX5_98, trivial, trivial, lRX5_262, trivial, lRX5_27, trivial, lRX5_54, lRX5_101, trivial, trivial, lRX5_264, trivial, lRX5_27, trivial, trivial, lRX5_266, trivial, trivial⟩
set_option maxRecDepth 20000 in
theorem ekX5_trace : eoks RX5 kX5_trace := ⟨trivial, trivial, trivial, trivial, lRX5_27, lRX5_256, trivial, trivial, trivial, trivial, trivial, trivial, trivial, lRX5_27, lRX5_269, trivial, trivial, trivial, trivial⟩
set_option maxRecDepth 20000 in
theorem ekX5_as : eoks RX5 kX5_as := ⟨trivial, trivial, lRX5_88, trivial, trivial, trivial, trivial, trivial, trivial, trivial, trivial, trivial, lRX5_54, lRX5_98, trivial, trivial, trivial, trivial, trivial, trivial, trivial, trivial, trivial, trivial, trivial, trivial, trivial, trivial, trivial, trivial, trivial, lRX5_54, lRX5_101, trivial, trivial, trivial, lRX5_272, trivial, trivial, trivial, trivial, trivial, trivial, trivial, trivial⟩
set_option maxRecDepth 20000 in
theorem ekX5_image : eoks RX5 kX5_image := ⟨trivial, lRX5_61, trivial, lRX5_54, lRX5_172, trivial, lRX5_38, trivial, lRX5_34, lRX5_275, trivial, trivial, lRX5_278, trivial, lRX5_54, lRX5_81, trivial, trivial⟩
set_option maxRecDepth 20000 in
theorem ekX5_undo : eoks RX5 kX5_undo := ⟨trivial, lRX5_278, trivial, trivial, trivial, trivial, lRX5_54, trivial, lRX5_61, lRX5_172, trivial, lRX5_34, trivial, lRX5_38, lRX5_275, trivial, lRX5_54, lRX5_81, trivial, trivial⟩
set_option maxRecDepth 20000 in
theorem ekX5_count : eoks RX5 kX5_count := ⟨trivial, trivial, trivial, lRX5_54, lRX5_81, trivial, trivial, lRX5_54, lRX5_131, trivial, trivial, lRX5_34, lRX5_71, trivial, trivial, lRX5_34, lRX5_220, trivial, trivial, lRX5_34, lRX5_238, trivial, trivial, lRX5_34, lRX5_247, trivial, trivial, lRX5_34, lRX5_64, trivial, trivial, lRX5_27, lRX5_256, trivial, trivial, trivial, trivial⟩
set_option maxRecDepth 20000 in
theorem ekX5_isSinger : eoks RX5 kX5_isSinger := ⟨trivial, trivial, trivial, trivial, lRX5_54, lRX5_81, trivial, trivial, trivial, trivial, trivial, trivial⟩
set_option maxRecDepth 20000 in
theorem ekX5_isStone : eoks RX5 kX5_isStone := ⟨trivial, trivial, trivial, trivial, lRX5_54, lRX5_131, trivial, trivial, trivial, trivial, trivial, trivial⟩
set_option maxRecDepth 20000 in
theorem ekX5_hasBit : eoks RX5 kX5_hasBit := ⟨trivial, trivial, trivial, trivial, trivial, trivial, trivial, trivial, trivial, trivial, trivial⟩
set_option maxRecDepth 20000 in
theorem ekX5_bestNote : eoks RX5 kX5_bestNote := ⟨trivial, lRX5_58, lRX5_92, trivial, trivial, trivial, trivial, trivial, trivial, trivial, trivial, lRX5_54, lRX5_104, trivial, trivial, trivial, trivial, trivial, lRX5_54, trivial, lRX5_282, trivial, trivial, lRX5_58, lRX5_92, trivial, trivial, trivial, trivial, lRX5_58, lRX5_150, trivial, trivial, trivial, trivial, trivial, trivial, trivial, trivial, trivial, trivial, trivial, trivial, trivial, trivial, lRX5_58, lRX5_92, trivial, trivial, trivial, trivial, trivial, trivial⟩
set_option maxRecDepth 20000 in
theorem ekX5_measureChords : eoks RX5 kX5_measureChords := ⟨trivial, lRX5_58, trivial, lRX5_54, lRX5_172, trivial, trivial, trivial, trivial, lRX5_54, lRX5_81, trivial, trivial, trivial, trivial, trivial, trivial, trivial, lRX5_58, lRX5_92, trivial, trivial, trivial, trivial, lRX5_285, trivial, trivial, lRX5_41, trivial, trivial, trivial, trivial, trivial, trivial, lRX5_58, trivial, lRX5_288, trivial, trivial, trivial, trivial, trivial, trivial, trivial⟩
set_option maxRecDepth 20000 in
theorem ekX5_chordNote : eoks RX5 kX5_chordNote := ⟨trivial, trivial, lRX5_54, lRX5_104, trivial, trivial, lRX5_291, trivial, trivial, trivial, lRX5_203, trivial, trivial⟩
set_option maxRecDepth 20000 in
theorem ekX5_bestChord : eoks RX5 kX5_bestChord := ⟨trivial, trivial, trivial, trivial, trivial, trivial, lRX5_54, lRX5_81, trivial, trivial, trivial, trivial, trivial, trivial, trivial, trivial, trivial, trivial, trivial, trivial, trivial, trivial, trivial, trivial, trivial, trivial, lRX5_185, trivial, trivial, trivial, trivial, trivial, trivial, trivial, trivial, trivial, trivial, trivial, trivial, trivial⟩
set_option maxRecDepth 20000 in
theorem ekX5_singChord : eoks RX5 kX5_singChord := ⟨trivial, trivial, trivial, lRX5_54, lRX5_81, trivial, trivial, trivial, trivial, trivial, trivial, trivial, trivial, trivial, trivial, trivial, trivial, trivial, trivial, lRX5_58, lRX5_92, trivial, trivial, trivial, trivial, lRX5_285, trivial, trivial, lRX5_58, lRX5_110, trivial, trivial, lRX5_41, trivial, trivial, trivial, trivial, trivial, trivial, trivial, trivial, trivial, trivial, lRX5_58, trivial, trivial, lRX5_54, lRX5_81, trivial, trivial, trivial, lRX5_191, trivial, trivial⟩
set_option maxRecDepth 20000 in
theorem ekX5_looseOf : eoks RX5 kX5_looseOf := ⟨trivial, lRX5_54, trivial, lRX5_54, trivial, lRX5_191, lRX5_153, lRX5_294, trivial, trivial⟩
set_option maxRecDepth 20000 in
theorem ekX5_spareBits : eoks RX5 kX5_spareBits := ⟨trivial, trivial, lRX5_217, trivial, trivial, trivial, trivial, trivial, trivial, trivial, lRX5_54, lRX5_81, trivial, trivial, trivial, lRX5_188, trivial, trivial, trivial, trivial, trivial, trivial, trivial, trivial, trivial, lRX5_217, trivial, trivial, trivial, trivial, trivial, trivial, trivial, trivial, trivial, trivial, trivial, trivial, trivial⟩
set_option maxRecDepth 20000 in
theorem ekX5_setShift : eoks RX5 kX5_setShift := ⟨trivial, lRX5_54, lRX5_113, trivial, trivial, lRX5_58, trivial, lRX5_54, trivial, lRX5_299, trivial, lRX5_58, lRX5_95, trivial, trivial, trivial, trivial, trivial, trivial, trivial, trivial, trivial, trivial, trivial, trivial, trivial, trivial, trivial, trivial, lRX5_294, trivial, trivial, trivial, lRX5_58, trivial, lRX5_58, trivial, lRX5_191, lRX5_153, trivial, trivial, trivial, trivial, lRX5_294, trivial, trivial, trivial, trivial, lRX5_58, trivial, lRX5_54, trivial, lRX5_299, trivial, trivial, trivial⟩
set_option maxRecDepth 20000 in
theorem ekX5_isDustBy : eoks RX5 kX5_isDustBy := ⟨trivial, lRX5_58, trivial, lRX5_54, lRX5_172, trivial, lRX5_58, lRX5_92, trivial, trivial, trivial, lRX5_54, lRX5_92, trivial, trivial, trivial, trivial, lRX5_303, trivial, trivial, trivial, trivial, trivial, trivial, trivial, lRX5_58, lRX5_165, trivial, trivial, trivial, trivial, trivial, lRX5_34, lRX5_220, trivial, trivial, lRX5_34, lRX5_223, trivial, trivial, trivial, trivial, trivial, lRX5_34, lRX5_226, trivial, trivial, trivial, trivial, trivial, trivial, trivial, trivial, trivial, lRX5_58, lRX5_169, trivial, trivial, trivial, trivial, trivial, trivial⟩
set_option maxRecDepth 20000 in
theorem ekX5_sortHanging : eoks RX5 kX5_sortHanging := ⟨trivial, trivial, trivial, trivial, trivial, trivial, lRX5_54, lRX5_131, trivial, trivial, lRX5_54, trivial, lRX5_306, trivial, trivial, trivial, trivial, trivial, trivial, lRX5_54, lRX5_141, trivial, lRX5_45, trivial, trivial, trivial, trivial, trivial, trivial, lRX5_54, lRX5_141, trivial, trivial, trivial, trivial, lRX5_45, trivial, trivial, lRX5_45, trivial, trivial, trivial, trivial, trivial, trivial, trivial, trivial, lRX5_45, trivial, trivial, trivial, trivial, trivial, trivial, trivial, trivial, trivial⟩
set_option maxRecDepth 20000 in
theorem ekX5_inLowestTerms : eoks RX5 kX5_inLowestTerms := ⟨trivial, trivial, trivial, trivial, trivial, lRX5_232, trivial, trivial, trivial, lRX5_309, trivial, lRX5_312, lRX5_303, trivial, trivial, trivial, trivial, trivial, trivial, trivial, trivial, trivial, trivial, trivial⟩
set_option maxRecDepth 20000 in
theorem ekX5_commonDivisor : eoks RX5 kX5_commonDivisor := ⟨trivial, trivial, trivial, trivial, trivial, trivial, trivial, trivial, trivial, trivial, trivial, trivial, trivial, trivial, trivial, trivial, trivial, trivial, trivial, trivial, trivial, trivial, trivial, trivial⟩
set_option maxRecDepth 20000 in
theorem ekX6_in : eoks RX6 kX6_in := ⟨trivial, trivial, trivial, trivial, trivial, trivial, trivial, trivial, trivial, trivial, trivial⟩
set_option maxRecDepth 20000 in
theorem ekX6_isSinger : eoks RX6 kX6_isSinger := ⟨trivial, trivial, trivial, lRX6_9, trivial, trivial, trivial, trivial, lRX6_47, trivial, trivial⟩
set_option maxRecDepth 20000 in
theorem ekX6_isStone : eoks RX6 kX6_isStone := ⟨trivial, trivial, trivial, lRX6_9, trivial, trivial, trivial, trivial, lRX6_47, trivial, trivial⟩
set_option maxRecDepth 20000 in
theorem ekX6_doesSing : eoks RX6 kX6_doesSing := ⟨trivial, lRX6_9, trivial, trivial, trivial, trivial, trivial, trivial, trivial, trivial, trivial, trivial, trivial⟩
set_option maxRecDepth 20000 in
theorem ekX6_keeps : eoks RX6 kX6_keeps := ⟨trivial, trivial, trivial, trivial, trivial, trivial, lRX6_18, trivial, trivial, lRX6_9, trivial, trivial, trivial, trivial, trivial, trivial, trivial⟩
set_option maxRecDepth 20000 in
theorem ekX6_goesBack : eoks RX6 kX6_goesBack := ⟨trivial, trivial, trivial, trivial, trivial, trivial, lRX6_9, trivial, trivial, lRX6_18, trivial, trivial, trivial, trivial, trivial, trivial, trivial⟩
set_option maxRecDepth 20000 in
theorem ekX6_feed : eoks RX6 kX6_feed := ⟨trivial, trivial, trivial, lRX6_47, trivial, trivial, trivial, trivial, lRX6_9, trivial, trivial, trivial, trivial, trivial, trivial, trivial, lRX6_9, trivial, trivial, lRX6_9, trivial, trivial, trivial, trivial, trivial, trivial, lRX6_9, trivial, trivial, trivial, trivial, trivial, trivial, trivial, lRX6_9, trivial, trivial, trivial, trivial⟩
set_option maxRecDepth 20000 in
theorem ekX6_here : eoks RX6 kX6_here := ⟨trivial, lRX6_51, trivial, lRX6_54, trivial, trivial, lRX6_9, trivial, trivial, lRX6_51, trivial, trivial, trivial, trivial, trivial, trivial⟩
set_option maxRecDepth 20000 in
theorem ekX6_must : eoks RX6 kX6_must := ⟨trivial, trivial, lRX6_57, trivial, trivial, lRX6_61, trivial, trivial, trivial, trivial, trivial, lRX6_57, trivial, trivial, lRX6_51, trivial, lRX6_57, trivial, trivial, trivial, trivial, trivial, lRX6_51, trivial, trivial⟩
set_option maxRecDepth 20000 in
theorem ekX6_spells : eoks RX6 kX6_spells := ⟨trivial, trivial, trivial, trivial, lRX6_65, trivial, trivial, trivial, trivial, lRX6_70, lRX6_74, trivial, trivial, trivial, trivial⟩
set_option maxRecDepth 20000 in
theorem ekX6_figures : eoks RX6 kX6_figures := ⟨trivial, trivial, lRX6_57, trivial, trivial, lRX6_61, trivial, trivial, lRX6_47, trivial, trivial, trivial, trivial, lRX6_57, trivial, trivial, trivial, trivial, trivial, trivial, trivial, trivial, lRX6_57, trivial, trivial, lRX6_61, trivial, trivial, lRX6_47, trivial, trivial, trivial, trivial, trivial, trivial, trivial, trivial, trivial, lRX6_61, trivial, trivial, trivial, trivial, trivial, trivial, lRX6_51, trivial, trivial, lRX6_51, trivial, trivial, trivial, trivial, trivial⟩
set_option maxRecDepth 20000 in
theorem ekX6_among : eoks RX6 kX6_among := ⟨trivial, trivial, trivial, trivial, lRX6_65, trivial, trivial, lRX6_61, trivial, trivial, lRX6_70, trivial, trivial, trivial, lRX6_51, trivial, trivial, lRX6_51, trivial, trivial, trivial, trivial, trivial, trivial, trivial⟩
set_option maxRecDepth 20000 in
theorem ekX6_emits : eoks RX6 kX6_emits := ⟨trivial, lRX6_57, trivial, trivial, lRX6_9, trivial, trivial, trivial, lRX6_78, trivial, trivial, trivial, lRX6_9, trivial, trivial, lRX6_78, trivial, trivial, trivial, trivial, trivial, trivial, lRX6_9, trivial, trivial, lRX6_78, trivial, trivial, trivial, trivial, trivial, trivial, trivial, trivial⟩
set_option maxRecDepth 20000 in
theorem ekX6_factor : eoks RX6 kX6_factor := ⟨trivial, lRX6_57, trivial, trivial, trivial, lRX6_61, trivial, trivial, trivial, trivial, trivial, trivial, trivial, trivial, trivial, lRX6_81, trivial, trivial, trivial, trivial, trivial, lRX6_57, trivial, trivial, lRX6_81, trivial, trivial, lRX6_81, trivial, trivial, lRX6_51, trivial, lRX6_57, trivial, trivial, trivial, trivial, trivial, lRX6_51, trivial, trivial, trivial, trivial, lRX6_84, trivial, trivial, lRX6_87, trivial, trivial, lRX6_90, trivial, trivial, lRX6_74, trivial, trivial, lRX6_81, trivial, trivial, lRX6_81, trivial, trivial, lRX6_93, lRX6_95, trivial, trivial, trivial, trivial, trivial, trivial, trivial, trivial, lRX6_57, trivial, lRX6_57, trivial, trivial, trivial, trivial, lRX6_99, lRX6_95, trivial, trivial, trivial, lRX6_57, trivial, trivial, trivial, trivial, trivial, trivial, trivial, lRX6_57, trivial, lRX6_101, trivial, trivial, trivial, trivial, trivial, trivial, trivial, trivial, trivial, trivial, trivial, lRX6_87, trivial, trivial⟩
set_option maxRecDepth 20000 in
theorem ekX6_every : eoks RX6 kX6_every := ⟨trivial, lRX6_84, trivial, lRX6_57, trivial, trivial, lRX6_61, trivial, trivial, trivial, trivial, lRX6_51, trivial, trivial, lRX6_51, trivial, lRX6_84, trivial, trivial, lRX6_87, trivial, trivial, trivial⟩
set_option maxRecDepth 20000 in
theorem ekX6_some : eoks RX6 kX6_some := ⟨trivial, lRX6_104, trivial, lRX6_57, trivial, trivial, lRX6_61, trivial, trivial, trivial, trivial, lRX6_51, trivial, trivial, lRX6_51, trivial, lRX6_104, trivial, trivial, lRX6_87, trivial, trivial, trivial⟩
set_option maxRecDepth 20000 in
theorem ekX6_much : eoks RX6 kX6_much := ⟨trivial, trivial, lRX6_107, trivial, lRX6_101, trivial, trivial, trivial, lRX6_74, trivial, lRX6_90, trivial, trivial, trivial, trivial, lRX6_87, trivial, trivial⟩
set_option maxRecDepth 20000 in
theorem ekX6_tellsHere : eoks RX6 kX6_tellsHere := ⟨trivial, trivial, lRX6_107, trivial, lRX6_101, trivial, trivial, lRX6_57, trivial, trivial, lRX6_9, trivial, trivial, lRX6_78, trivial, trivial, trivial, trivial, trivial⟩
set_option maxRecDepth 20000 in
theorem ekX6_clauseHere : eoks RX6 kX6_clauseHere := ⟨trivial, lRX6_61, trivial, trivial, trivial, lRX6_111, lRX6_113, trivial, trivial, trivial, lRX6_117, lRX6_113, trivial, trivial, trivial, lRX6_119, lRX6_121, trivial, trivial, trivial, lRX6_124, lRX6_121, trivial, trivial, trivial, lRX6_57, trivial, trivial⟩
set_option maxRecDepth 20000 in
theorem ekX6_setting : eoks RX6 kX6_setting := ⟨trivial, lRX6_9, trivial, trivial, trivial, trivial, trivial, trivial, trivial, trivial, lRX6_9, trivial, trivial, lRX6_78, trivial, trivial, lRX6_9, trivial, trivial, lRX6_54, trivial, lRX6_9, trivial, trivial, trivial, trivial, lRX6_9, trivial, trivial, lRX6_78, trivial, trivial, trivial, trivial, lRX6_9, trivial, trivial, lRX6_78, trivial, trivial, trivial, trivial, lRX6_9, trivial, trivial, lRX6_78, trivial, trivial, trivial, trivial, trivial, lRX6_51, trivial, trivial, lRX6_57, trivial, trivial, lRX6_81, trivial, trivial, trivial, lRX6_126, trivial, lRX6_57, trivial, trivial, trivial, trivial, trivial, lRX6_61, trivial, trivial, trivial, trivial, lRX6_51, trivial, trivial, lRX6_51, trivial, lRX6_126, trivial, trivial, trivial, lRX6_57, trivial, trivial, lRX6_51, trivial, lRX6_54, trivial, trivial, trivial, lRX6_51, trivial, trivial, trivial, lRX6_9, trivial, trivial, trivial, trivial, trivial, trivial, trivial, lRX6_9, trivial, trivial, lRX6_78, trivial, trivial, lRX6_78, trivial, trivial⟩
set_option maxRecDepth 20000 in
theorem ekX6_tellsOf : eoks RX6 kX6_tellsOf := ⟨trivial, lRX6_9, trivial, trivial, trivial, trivial, trivial, trivial, trivial, lRX6_9, trivial, trivial, lRX6_9, trivial, trivial, trivial, trivial, trivial, trivial⟩
set_option maxRecDepth 20000 in
theorem ekX6_looks : eoks RX6 kX6_looks := ⟨trivial, lRX6_21, trivial, trivial, trivial, trivial, lRX6_21, trivial, trivial, lRX6_9, trivial, trivial, trivial, trivial, trivial, trivial, lRX6_21, trivial, trivial, lRX6_9, trivial, trivial, trivial, trivial, trivial, trivial, lRX6_21, trivial, trivial, lRX6_9, trivial, trivial, trivial, trivial, trivial, trivial, lRX6_21, trivial, trivial, lRX6_9, trivial, trivial, trivial, trivial, trivial, trivial, trivial, trivial, lRX6_21, trivial, trivial, lRX6_9, trivial, trivial, trivial, trivial, trivial, trivial, trivial, trivial, trivial, trivial, lRX6_129, trivial, trivial, trivial, trivial, lRX6_9, trivial, trivial, trivial, trivial, trivial, trivial, trivial, trivial, trivial, trivial, trivial, trivial, trivial, trivial, trivial, lRX6_9, trivial, trivial, trivial, trivial, trivial, trivial, lRX6_21, trivial, trivial, trivial, trivial, trivial, trivial, trivial, trivial, trivial, trivial, trivial, trivial, trivial, trivial, trivial, trivial, lRX6_24, trivial, trivial, trivial, trivial, trivial, trivial, trivial, trivial, trivial, trivial, trivial, trivial, trivial, trivial, trivial, trivial, trivial, trivial, trivial, trivial, trivial, trivial, trivial, trivial, trivial, trivial, trivial, trivial, trivial, trivial, trivial, trivial, trivial, lRX6_24, trivial, trivial, trivial, trivial, lRX6_24, trivial, trivial, trivial, trivial, trivial, trivial, trivial, trivial, trivial, trivial, trivial, trivial, trivial, trivial, trivial, lRX6_24, trivial, trivial, trivial, trivial, trivial, trivial, trivial, lRX6_24, trivial, trivial, trivial, trivial, trivial, trivial, lRX6_24, trivial, trivial, trivial, trivial, trivial, trivial, trivial, trivial, lRX6_24, trivial, trivial, trivial, trivial, trivial, trivial, lRX6_24, trivial, trivial, trivial, trivial, trivial, trivial, trivial, trivial, trivial, trivial, trivial, lRX6_24, trivial, trivial, trivial, trivial, trivial, trivial, trivial, trivial, trivial, trivial, trivial, trivial, trivial, trivial, trivial, trivial, trivial, trivial, trivial, trivial, trivial, trivial, trivial, trivial, trivial, trivial, trivial, trivial, trivial, trivial, trivial, trivial, trivial, trivial⟩
set_option maxRecDepth 20000 in
theorem ekX6_strengthOf : eoks RX6 kX6_strengthOf := ⟨trivial, lRX6_9, trivial, trivial, trivial, trivial, trivial, trivial, lRX6_9, trivial, trivial, trivial, trivial, trivial, trivial, lRX6_9, trivial, trivial, trivial, trivial, trivial, trivial, trivial, trivial, trivial, trivial, trivial, trivial, trivial, trivial, trivial, trivial, trivial, trivial, trivial, trivial, trivial, trivial, trivial, trivial, trivial, trivial, trivial, trivial, trivial, trivial, trivial, trivial, trivial, trivial, trivial, trivial, lRX6_9, trivial, trivial, trivial, trivial, trivial, trivial, trivial, trivial, trivial, trivial, trivial, trivial, trivial, trivial, trivial, trivial, trivial, trivial, trivial, trivial, trivial, lRX6_9, trivial, trivial, trivial, trivial, trivial, trivial, lRX6_9, trivial, trivial, trivial, trivial, trivial, trivial, trivial, trivial, trivial, trivial, trivial⟩
set_option maxRecDepth 20000 in
theorem ekX6_forceOf : eoks RX6 kX6_forceOf := ⟨trivial, trivial, lRX6_133, trivial, trivial, trivial, trivial, trivial, lRX6_137, trivial, trivial, lRX6_141, trivial, trivial, lRX6_9, trivial, trivial, trivial, trivial, trivial, trivial, trivial, trivial, trivial, trivial, trivial, trivial, trivial, trivial, trivial⟩
set_option maxRecDepth 20000 in
theorem ekX6_isTune : eoks RX6 kX6_isTune := ⟨trivial, trivial, trivial, trivial, trivial, trivial, trivial, trivial, trivial, trivial, trivial, trivial, trivial, trivial, trivial, trivial, trivial, trivial, trivial, trivial, trivial, trivial, trivial, trivial, trivial, trivial, trivial, trivial, trivial, trivial, trivial, trivial, trivial, trivial, trivial, trivial, trivial, trivial, trivial, trivial⟩
set_option maxRecDepth 20000 in
theorem ekX6_looksForForces : eoks RX6 kX6_looksForForces := ⟨trivial, trivial, trivial, trivial, lRX6_9, trivial, trivial, trivial, trivial, lRX6_28, trivial, trivial, trivial, lRX6_144, trivial, trivial, trivial, trivial, trivial⟩
set_option maxRecDepth 20000 in
theorem ekX6_isOf : eoks RX6 kX6_isOf := ⟨trivial, trivial, trivial, trivial, trivial, trivial, trivial, trivial, trivial, lRX6_133, trivial, trivial, trivial, trivial, trivial, trivial⟩
set_option maxRecDepth 20000 in
theorem ekX6_tunesOf : eoks RX6 kX6_tunesOf := ⟨trivial, trivial, trivial, trivial, trivial, trivial, lRX6_9, trivial, trivial, trivial, trivial, trivial, trivial, trivial, trivial, trivial, trivial, lRX6_147, trivial, trivial, lRX6_9, trivial, trivial, trivial, trivial, trivial, lRX6_9, trivial, trivial, trivial, trivial, lRX6_151, trivial, trivial, trivial, trivial, trivial, trivial, trivial, trivial, trivial, trivial, trivial⟩
set_option maxRecDepth 20000 in
theorem ekX6_bearsOf : eoks RX6 kX6_bearsOf := ⟨trivial, trivial, trivial, lRX6_147, trivial, trivial, trivial, trivial, trivial, trivial, lRX6_154, trivial, trivial, trivial, trivial, lRX6_28, trivial, trivial, trivial, trivial, trivial, trivial, lRX6_28, trivial, trivial, trivial, trivial, trivial, trivial⟩
set_option maxRecDepth 20000 in
theorem ekX6_allBy : eoks RX6 kX6_allBy := ⟨trivial, trivial, trivial, trivial, trivial, trivial, lRX6_9, trivial, trivial, trivial, trivial, trivial, trivial, trivial, lRX6_157, trivial, trivial, trivial, trivial, trivial, trivial, trivial⟩
set_option maxRecDepth 20000 in
theorem ekX6_singing : eoks RX6 kX6_singing := ⟨trivial, trivial, trivial, trivial, trivial, trivial, lRX6_9, trivial, trivial, trivial, trivial, trivial, trivial, lRX6_133, trivial, trivial, trivial, trivial, trivial, trivial, trivial, trivial, trivial, trivial, trivial, trivial, trivial⟩
set_option maxRecDepth 20000 in
theorem ekX6_allNow : eoks RX6 kX6_allNow := ⟨trivial, lRX6_160, trivial, trivial, lRX6_163, trivial, trivial⟩
set_option maxRecDepth 20000 in
theorem ekX6_doesHang : eoks RX6 kX6_doesHang := ⟨trivial, lRX6_9, trivial, trivial, trivial, trivial, trivial, trivial, lRX6_9, trivial, trivial, trivial, trivial, trivial, trivial, trivial, trivial, trivial, trivial⟩
set_option maxRecDepth 20000 in
theorem ekX6_looseBy : eoks RX6 kX6_looseBy := ⟨trivial, trivial, trivial, trivial, trivial, trivial, trivial, trivial, lRX6_9, trivial, trivial, trivial, trivial, trivial, lRX6_166, trivial, trivial, trivial, lRX6_9, trivial, trivial, trivial, trivial, trivial, trivial, trivial, trivial, trivial, trivial, trivial, trivial, trivial, trivial, trivial, trivial, trivial, trivial, trivial, trivial, trivial, trivial⟩
set_option maxRecDepth 20000 in
theorem ekX6_fallenMany : eoks RX6 kX6_fallenMany := ⟨trivial, trivial, trivial, trivial, trivial, trivial, lRX6_9, trivial, trivial, trivial, trivial, trivial, lRX6_9, trivial, trivial, trivial, trivial, trivial, trivial, trivial, trivial, trivial, trivial, trivial⟩
set_option maxRecDepth 20000 in
theorem ekX6_sizeOf : eoks RX6 kX6_sizeOf := ⟨trivial, trivial, trivial, trivial, trivial, trivial, trivial, trivial, trivial, trivial, trivial, trivial, trivial, trivial, trivial, trivial, trivial, trivial, trivial, trivial⟩
set_option maxRecDepth 20000 in
theorem ekX6_hangingWeight : eoks RX6 kX6_hangingWeight := ⟨trivial, trivial, trivial, trivial, trivial, trivial, lRX6_9, trivial, trivial, trivial, trivial, trivial, trivial, lRX6_166, trivial, trivial, lRX6_9, trivial, trivial, trivial, trivial, trivial, trivial, trivial, trivial, trivial, trivial, trivial, trivial, trivial⟩
set_option maxRecDepth 20000 in
theorem ekX6_singer : eoks RX6 kX6_singer := ⟨trivial, trivial, trivial, lRX6_47, trivial, trivial, trivial, trivial, trivial, trivial, lRX6_47, trivial, trivial, trivial, trivial, lRX6_47, trivial, trivial, trivial, trivial, lRX6_9, trivial, trivial, trivial, trivial, trivial, trivial, trivial, lRX6_9, trivial, trivial, trivial, trivial, lRX6_9, trivial, trivial, trivial, trivial, trivial, trivial, lRX6_9, trivial, trivial, trivial, trivial, trivial, trivial, lRX6_9, trivial, trivial, trivial, trivial, trivial, trivial, lRX6_9, trivial, trivial, trivial, trivial, trivial, trivial, lRX6_9, trivial, trivial, trivial, trivial, trivial, trivial, trivial, trivial, trivial, trivial, trivial, lRX6_9, trivial, trivial, trivial, trivial, trivial, trivial, trivial, trivial, trivial, trivial, trivial, trivial, lRX6_9, trivial, trivial, trivial, trivial, trivial, trivial, trivial, trivial, trivial⟩
set_option maxRecDepth 20000 in
theorem ekX6_highOf : eoks RX6 kX6_highOf := ⟨trivial, lRX6_9, trivial, trivial, trivial, trivial, trivial, trivial, trivial, trivial, trivial, lRX6_9, trivial, trivial, trivial, trivial, trivial, trivial, trivial, trivial⟩
set_option maxRecDepth 20000 in
theorem ekX6_canSing : eoks RX6 kX6_canSing := ⟨trivial, trivial, lRX6_9, trivial, trivial, trivial, trivial, trivial, trivial, lRX6_169, lRX6_47, trivial, trivial⟩
set_option maxRecDepth 20000 in
theorem ekX6_of : eoks RX6 kX6_of := ⟨trivial, trivial, lRX6_172, trivial, trivial, trivial, trivial, lRX6_47, trivial, trivial, trivial, trivial, trivial, trivial, lRX6_9, trivial, trivial, trivial, trivial, trivial, trivial, lRX6_9, trivial, trivial, trivial, trivial, trivial, trivial, lRX6_9, trivial, trivial, trivial, trivial, trivial, trivial, trivial, lRX6_133, trivial, trivial, lRX6_9, trivial, trivial, trivial, trivial, trivial, trivial, trivial, trivial, lRX6_9, trivial, trivial, trivial, trivial, trivial, trivial, trivial, lRX6_144, trivial, trivial, lRX6_160, trivial, trivial, trivial, lRX6_157, trivial, trivial, trivial, lRX6_133, trivial, trivial, trivial, trivial, lRX6_154, trivial, trivial, trivial, trivial⟩
set_option maxRecDepth 20000 in
theorem ekX6_row : eoks RX6 kX6_row := ⟨trivial, trivial, lRX6_172, trivial, trivial, trivial, trivial, lRX6_47, trivial, trivial, trivial, trivial, trivial, trivial, lRX6_47, trivial, trivial, trivial, trivial, lRX6_9, trivial, trivial, trivial, trivial, trivial, trivial, trivial, trivial, trivial, lRX6_9, trivial, trivial, trivial, trivial, trivial, trivial, trivial, trivial, trivial, trivial, lRX6_9, trivial, trivial, trivial, trivial, trivial, trivial, trivial, trivial, trivial, trivial, trivial, trivial⟩
set_option maxRecDepth 20000 in
theorem ekX6_sing : eoks RX6 kX6_sing := ⟨trivial, trivial, lRX6_172, trivial, trivial, trivial, trivial, trivial, trivial, trivial, trivial, trivial, lRX6_175, trivial, trivial, trivial, trivial, trivial, lRX6_133, trivial, trivial, lRX6_9, trivial, trivial, trivial, trivial, trivial, trivial, trivial, trivial, lRX6_9, trivial, trivial, trivial, trivial, trivial, trivial, trivial, trivial⟩
set_option maxRecDepth 20000 in
theorem ekX6_tire : eoks RX6 kX6_tire := ⟨trivial, trivial, lRX6_172, trivial, trivial, trivial, trivial, trivial, trivial, lRX6_47, trivial, trivial, trivial, trivial, lRX6_9, trivial, trivial, trivial, trivial, trivial, trivial, lRX6_9, trivial, trivial, trivial, trivial, trivial, trivial, trivial, trivial⟩
set_option maxRecDepth 20000 in
theorem ekX6_stone : eoks RX6 kX6_stone := ⟨trivial, trivial, trivial, lRX6_47, trivial, trivial, trivial, trivial, lRX6_9, trivial, trivial, trivial, trivial, trivial, trivial, trivial, lRX6_9, trivial, trivial, trivial, trivial, lRX6_9, trivial, trivial, trivial, trivial, trivial, trivial, lRX6_9, trivial, trivial, trivial, trivial, trivial, trivial, lRX6_9, trivial, trivial, trivial, trivial, trivial, trivial, lRX6_9, trivial, trivial, trivial, trivial, trivial, trivial, trivial, trivial, trivial⟩
set_option maxRecDepth 20000 in
theorem ekX6_at : eoks RX6 kX6_at := ⟨trivial, trivial, lRX6_178, trivial, trivial, trivial, trivial, lRX6_47, trivial, trivial, trivial, trivial, trivial, trivial, lRX6_9, trivial, trivial, trivial, trivial, trivial, trivial, trivial, trivial, trivial, lRX6_9, trivial, trivial, trivial, trivial, trivial, trivial, trivial, trivial, trivial, lRX6_9, trivial, trivial, trivial, trivial, trivial, trivial, trivial, lRX6_181, lRX6_184, trivial, trivial, trivial, trivial, trivial, trivial⟩
set_option maxRecDepth 20000 in
theorem ekX6_prop : eoks RX6 kX6_prop := ⟨trivial, trivial, lRX6_178, trivial, trivial, trivial, trivial, lRX6_9, trivial, trivial, trivial, trivial, trivial, trivial, trivial, trivial, trivial, lRX6_9, trivial, trivial, trivial, trivial, trivial, trivial, lRX6_9, trivial, trivial, trivial, trivial, trivial, trivial, trivial, trivial, trivial, trivial, trivial, trivial⟩
set_option maxRecDepth 20000 in
theorem ekX6_told : eoks RX6 kX6_told := ⟨trivial, trivial, trivial, lRX6_9, trivial, trivial, trivial, trivial, trivial, trivial, lRX6_129, trivial, trivial, trivial, trivial, lRX6_129, trivial, trivial, lRX6_181, trivial, trivial, trivial, lRX6_181, lRX6_184, trivial, trivial, lRX6_187, trivial, trivial, trivial, trivial⟩
set_option maxRecDepth 20000 in
theorem ekX6_goesBy : eoks RX6 kX6_goesBy := ⟨trivial, lRX6_160, trivial, trivial, trivial, lRX6_163, lRX6_184, trivial, trivial, trivial, trivial, trivial, lRX6_9, trivial, trivial, trivial, trivial, lRX6_9, trivial, trivial, trivial, trivial, trivial, trivial, trivial, trivial, trivial, trivial, trivial, trivial, trivial, trivial, trivial, trivial, trivial, trivial, lRX6_9, trivial, trivial, trivial, trivial, lRX6_9, trivial, trivial, trivial, trivial, trivial, trivial, trivial, lRX6_147, trivial, trivial, trivial, trivial, lRX6_129, trivial, trivial, trivial, trivial, lRX6_129, trivial, trivial, trivial, trivial, lRX6_9, trivial, trivial, trivial, trivial, trivial, trivial, trivial, trivial, trivial, trivial, trivial, trivial, trivial, trivial, trivial, trivial, trivial, lRX6_9, trivial, trivial, trivial, trivial, trivial, trivial, trivial, lRX6_190, trivial, trivial⟩
set_option maxRecDepth 20000 in
theorem ekX6_goes : eoks RX6 kX6_goes := ⟨trivial, trivial, lRX6_193, trivial, trivial⟩
set_option maxRecDepth 20000 in
theorem ekX6_beat : eoks RX6 kX6_beat := ⟨trivial, lRX6_9, trivial, trivial, lRX6_196, trivial, trivial, trivial, trivial, lRX6_197, trivial, trivial⟩
set_option maxRecDepth 20000 in
theorem ekX6_on : eoks RX6 kX6_on := ⟨trivial, trivial, trivial, lRX6_47, trivial, trivial, trivial, trivial, trivial, lRX6_172, trivial, trivial, trivial, trivial, trivial, trivial, lRX6_47, trivial, trivial, trivial, trivial, lRX6_200, trivial, trivial, trivial, trivial, trivial, trivial, trivial, trivial, lRX6_197, trivial, trivial, trivial, trivial, trivial, trivial, trivial, trivial, trivial, trivial, trivial, trivial, trivial, trivial, trivial, lRX6_187, trivial, trivial, trivial, trivial, trivial, trivial, trivial, trivial, trivial, trivial, lRX6_181, trivial, trivial, lRX6_9, trivial, trivial, trivial, trivial, trivial, trivial, trivial, trivial, lRX6_203, trivial, trivial, trivial⟩
set_option maxRecDepth 20000 in
theorem ekX6_steady : eoks RX6 kX6_steady := ⟨trivial, lRX6_200, trivial, trivial, trivial, trivial, trivial, trivial, trivial, trivial, trivial, trivial, trivial, trivial, lRX6_181, lRX6_184, trivial, trivial, trivial, trivial, trivial, trivial, lRX6_197, trivial, trivial, trivial, trivial, lRX6_203, trivial, trivial, trivial⟩
set_option maxRecDepth 20000 in
theorem ekX6_looksForNote : eoks RX6 kX6_looksForNote := ⟨trivial, lRX6_9, trivial, trivial, trivial, trivial, trivial, trivial, trivial, lRX6_206, trivial, trivial, lRX6_209, trivial, lRX6_9, trivial, trivial, trivial, trivial, trivial, trivial, trivial, trivial, lRX6_169, trivial, trivial, lRX6_9, trivial, trivial, trivial, trivial, trivial, trivial, lRX6_181, trivial, trivial, trivial, trivial, lRX6_209, trivial, trivial, trivial, trivial, lRX6_206, lRX6_206, trivial, trivial, trivial, lRX6_209, trivial, trivial, trivial, trivial, lRX6_209, lRX6_209, trivial, trivial, trivial, lRX6_9, trivial, trivial, trivial, trivial, trivial, trivial, trivial⟩
set_option maxRecDepth 20000 in
theorem ekX6_best : eoks RX6 kX6_best := ⟨trivial, trivial, lRX6_172, trivial, trivial, trivial, trivial, lRX6_47, trivial, trivial, trivial, trivial, trivial, lRX6_212, trivial, trivial, trivial, lRX6_206, trivial, trivial, lRX6_209, trivial, trivial⟩
set_option maxRecDepth 20000 in
theorem ekX6_noteAbove : eoks RX6 kX6_noteAbove := ⟨trivial, lRX6_9, trivial, trivial, trivial, trivial, trivial, trivial, trivial, trivial, trivial, trivial, trivial, trivial, trivial, trivial, trivial, trivial, trivial, trivial, trivial, trivial, trivial, trivial, trivial, trivial, trivial, trivial, trivial, trivial, trivial, trivial, trivial, trivial, trivial, trivial⟩
set_option maxRecDepth 20000 in
theorem ekX6_chordsFrom : eoks RX6 kX6_chordsFrom := ⟨trivial, trivial, lRX6_9, trivial, trivial, trivial, trivial, trivial, lRX6_163, trivial, trivial, trivial, lRX6_209, trivial, trivial, trivial, lRX6_209, trivial, trivial, trivial, trivial, trivial, trivial, lRX6_34, trivial, trivial, lRX6_9, trivial, trivial, trivial, trivial, trivial, trivial, trivial, trivial, trivial, trivial, trivial, trivial, trivial, trivial, lRX6_9, trivial, trivial, trivial, trivial, trivial, trivial, lRX6_215, trivial, trivial, lRX6_28, trivial, trivial, lRX6_31, trivial, trivial, trivial, trivial, trivial, trivial, trivial, trivial, trivial, trivial, trivial, lRX6_218, trivial, trivial, trivial, trivial⟩
set_option maxRecDepth 20000 in
theorem ekX6_chord : eoks RX6 kX6_chord := ⟨trivial, trivial, trivial, lRX6_47, trivial, trivial, trivial, trivial, lRX6_9, trivial, trivial, trivial, trivial, trivial, trivial, trivial, lRX6_200, trivial, trivial, trivial, trivial, lRX6_9, trivial, trivial, trivial, trivial, trivial, trivial, trivial, trivial, trivial, lRX6_9, trivial, trivial, trivial, trivial, trivial, trivial, lRX6_215, trivial, trivial, lRX6_31, trivial, trivial, trivial, trivial, trivial, trivial, trivial, lRX6_144, trivial, trivial, trivial, trivial, trivial, trivial, trivial, lRX6_209, trivial, trivial, lRX6_218, trivial, lRX6_203, trivial, trivial, trivial, trivial, lRX6_209, trivial, trivial, trivial, lRX6_9, trivial, trivial, trivial, trivial, lRX6_34, trivial, trivial, trivial, trivial, trivial, trivial⟩
set_option maxRecDepth 20000 in
theorem ekX6_needed : eoks RX6 kX6_needed := ⟨trivial, lRX6_160, lRX6_221, trivial, trivial, trivial, trivial, trivial, trivial, trivial, lRX6_9, trivial, trivial, trivial, trivial, trivial, lRX6_133, trivial, trivial, trivial, trivial, trivial, trivial, trivial, trivial, trivial, lRX6_163, trivial, lRX6_221, trivial, trivial, trivial, trivial, trivial, trivial, trivial, trivial, trivial, trivial, trivial, trivial, trivial, trivial, trivial, trivial, trivial, trivial, trivial, trivial⟩
set_option maxRecDepth 20000 in
theorem ekX6_looseMany : eoks RX6 kX6_looseMany := ⟨trivial, trivial, trivial, lRX6_163, lRX6_184, lRX6_190, trivial, trivial⟩
set_option maxRecDepth 20000 in
theorem ekX6_spare : eoks RX6 kX6_spare := ⟨trivial, lRX6_160, trivial, trivial, lRX6_222, trivial, trivial, trivial, trivial, trivial, trivial, trivial, lRX6_9, trivial, trivial, trivial, trivial, trivial, trivial, lRX6_133, trivial, trivial, trivial, trivial, trivial, trivial, trivial, trivial, trivial, lRX6_222, trivial, trivial, trivial, trivial, trivial, trivial, trivial, trivial, trivial, trivial, trivial, trivial, trivial, trivial⟩
set_option maxRecDepth 20000 in
theorem ekX6_fewestOf : eoks RX6 kX6_fewestOf := ⟨trivial, lRX6_160, trivial, trivial, trivial, trivial, trivial, trivial, trivial, trivial, trivial, trivial, trivial, trivial, trivial, trivial, trivial, lRX6_222, trivial, trivial, trivial, trivial, trivial, lRX6_190, trivial, lRX6_190, trivial, trivial, trivial, trivial, trivial, trivial, trivial, trivial, trivial, trivial, trivial, trivial, trivial⟩
set_option maxRecDepth 20000 in
theorem ekX6_shift : eoks RX6 kX6_shift := ⟨trivial, trivial, trivial, lRX6_47, trivial, trivial, trivial, trivial, trivial, trivial, lRX6_47, trivial, trivial, trivial, trivial, lRX6_200, trivial, lRX6_225, trivial, trivial, trivial, trivial, trivial, trivial, trivial, trivial, trivial, trivial, lRX6_228, trivial, trivial, trivial, lRX6_193, trivial, trivial, trivial, trivial, trivial, trivial, trivial, trivial, trivial, lRX6_9, trivial, trivial, trivial, trivial, trivial, lRX6_9, trivial, trivial, trivial, trivial, trivial, trivial, trivial, trivial, trivial, trivial, trivial, trivial, trivial, trivial, trivial, trivial, lRX6_187, trivial, trivial, trivial, trivial, lRX6_203, trivial, trivial, trivial⟩
set_option maxRecDepth 20000 in
theorem ekX6_ill : eoks RX6 kX6_ill := ⟨trivial, trivial, lRX6_172, trivial, trivial, trivial, trivial, trivial, lRX6_133, trivial, trivial, trivial, trivial, lRX6_9, trivial, trivial, trivial, trivial, trivial, trivial, lRX6_9, trivial, trivial, trivial, trivial, trivial, trivial, trivial, trivial, trivial, trivial, trivial, trivial, trivial, lRX6_9, trivial, trivial, trivial, trivial, trivial, trivial, trivial, trivial, lRX6_133, trivial, trivial, trivial, lRX6_212, trivial, lRX6_209, trivial, trivial, trivial, trivial, trivial, trivial, lRX6_206, trivial, trivial, trivial, trivial, trivial, lRX6_209, trivial, trivial, trivial, lRX6_209, trivial, trivial, trivial, trivial, trivial, trivial, lRX6_9, trivial, trivial, trivial, trivial, trivial, trivial, trivial, trivial⟩
set_option maxRecDepth 20000 in
theorem ekX6_goesRound : eoks RX6 kX6_goesRound := ⟨trivial, lRX6_9, trivial, trivial, trivial, trivial, trivial, trivial, trivial, trivial, trivial, lRX6_37, trivial, trivial, lRX6_9, trivial, trivial, trivial, trivial, trivial, trivial, trivial, trivial, trivial, trivial, trivial, trivial, trivial, lRX6_37, trivial, trivial, trivial, trivial, trivial, trivial, trivial, trivial, trivial, trivial, lRX6_9, trivial, trivial, trivial, trivial, trivial, trivial, lRX6_175, trivial, trivial, trivial, trivial, trivial, trivial, trivial, trivial, trivial⟩
set_option maxRecDepth 20000 in
theorem ekX6_canon : eoks RX6 kX6_canon := ⟨trivial, trivial, trivial, lRX6_47, trivial, trivial, trivial, trivial, trivial, trivial, lRX6_47, trivial, trivial, trivial, trivial, lRX6_200, lRX6_221, trivial, trivial, trivial, trivial, trivial, trivial, trivial, lRX6_181, trivial, trivial, trivial, trivial, trivial, trivial, trivial, trivial, trivial, lRX6_197, trivial, trivial, lRX6_231, trivial, trivial, trivial, lRX6_187, trivial, trivial, lRX6_203, trivial, trivial, trivial, trivial, trivial, trivial, trivial⟩
set_option maxRecDepth 20000 in
theorem ekX6_weightOf : eoks RX6 kX6_weightOf := ⟨trivial, trivial, trivial, trivial, trivial, trivial, lRX6_9, trivial, trivial, trivial, trivial, trivial, trivial, lRX6_166, trivial, trivial, trivial, trivial, trivial, trivial, trivial, trivial, lRX6_9, trivial, trivial, trivial, trivial, trivial, trivial, trivial, trivial, trivial, trivial, trivial, trivial, trivial⟩
set_option maxRecDepth 20000 in
theorem ekX6_props : eoks RX6 kX6_props := ⟨trivial, trivial, trivial, lRX6_47, trivial, trivial, trivial, trivial, lRX6_181, trivial, lRX6_221, trivial, trivial, trivial, trivial, trivial, trivial, trivial, trivial, lRX6_234, trivial, trivial, trivial, lRX6_190, trivial, trivial, trivial, lRX6_190, trivial, trivial, trivial, trivial, trivial, trivial, trivial, trivial, trivial, trivial, trivial, trivial, trivial⟩
set_option maxRecDepth 20000 in
theorem ekX6_critical : eoks RX6 kX6_critical := ⟨trivial, trivial, trivial, lRX6_47, trivial, trivial, trivial, trivial, lRX6_237, trivial, trivial, trivial, lRX6_222, trivial, trivial, trivial, trivial, trivial, trivial, trivial, trivial, trivial, lRX6_9, trivial, trivial, trivial, trivial, trivial, trivial, trivial, trivial, trivial, lRX6_9, trivial, trivial, trivial, trivial, trivial, trivial, trivial, trivial, trivial, trivial, trivial, trivial, trivial, trivial, trivial, trivial, trivial, trivial, trivial, trivial, trivial, trivial, trivial, trivial, trivial, trivial, trivial, trivial, trivial, trivial, trivial, lRX6_222, trivial, trivial, trivial, trivial, trivial, trivial, trivial, trivial, trivial, trivial, trivial, trivial, trivial, trivial, trivial, trivial, trivial, trivial, trivial, trivial, trivial, trivial, trivial, trivial, trivial, trivial, trivial, trivial, trivial, trivial, trivial, trivial, trivial, trivial, trivial, trivial, trivial⟩
set_option maxRecDepth 20000 in
theorem ekX6_load : eoks RX6 kX6_load := ⟨trivial, lRX6_240, trivial, lRX6_181, trivial, trivial, trivial⟩
set_option maxRecDepth 20000 in
theorem ekX6_dust : eoks RX6 kX6_dust := ⟨trivial, trivial, trivial, trivial, lRX6_9, trivial, trivial, trivial, trivial, trivial, trivial, trivial, trivial, lRX6_47, trivial, trivial, trivial, trivial, lRX6_47, trivial, trivial, trivial, trivial, lRX6_9, trivial, trivial, trivial, trivial, trivial, trivial, trivial, lRX6_9, trivial, trivial, lRX6_9, trivial, trivial, trivial, trivial, trivial, trivial, lRX6_9, trivial, trivial, lRX6_9, trivial, trivial, trivial, trivial, trivial, trivial, lRX6_9, trivial, trivial, trivial, trivial, trivial, trivial, trivial, lRX6_9, trivial, trivial, trivial, trivial⟩
set_option maxRecDepth 20000 in
theorem ekX6_isDust : eoks RX6 kX6_isDust := ⟨trivial, trivial, trivial, trivial, trivial, trivial, lRX6_9, trivial, trivial, trivial, trivial, trivial, trivial, lRX6_9, trivial, trivial, trivial, trivial, trivial, trivial, trivial, lRX6_9, trivial, trivial, trivial, trivial, trivial, lRX6_187, trivial, trivial, trivial, trivial, trivial, trivial, trivial, trivial, trivial, trivial⟩
set_option maxRecDepth 20000 in
theorem ekX6_isFlat : eoks RX6 kX6_isFlat := ⟨trivial, lRX6_200, trivial, lRX6_9, trivial, trivial, trivial, trivial, trivial, trivial, lRX6_9, trivial, trivial, trivial, trivial, trivial, trivial, trivial, trivial, trivial, trivial, trivial, trivial, trivial, trivial, trivial, trivial, trivial, trivial, trivial, trivial, trivial, lRX6_243, trivial, trivial, lRX6_197, trivial, trivial, trivial, trivial, lRX6_203, trivial, trivial, trivial⟩
set_option maxRecDepth 20000 in
theorem ekX6_flat : eoks RX6 kX6_flat := ⟨trivial, trivial, trivial, trivial, trivial, trivial, lRX6_9, trivial, trivial, trivial, trivial, trivial, trivial, lRX6_133, trivial, trivial, lRX6_9, trivial, trivial, trivial, trivial, trivial, lRX6_246, trivial, trivial, trivial, trivial, trivial, trivial, trivial, trivial, trivial, trivial, trivial, trivial, trivial⟩
set_option maxRecDepth 20000 in
theorem ekX6_lightest : eoks RX6 kX6_lightest := ⟨trivial, trivial, trivial, trivial, lRX6_9, trivial, trivial, trivial, trivial, trivial, trivial, trivial, trivial, trivial, lRX6_9, trivial, trivial, trivial, trivial, trivial, trivial, lRX6_166, trivial, trivial, lRX6_9, trivial, trivial, trivial, trivial, trivial, lRX6_9, trivial, trivial, trivial, trivial, trivial, trivial, lRX6_9, trivial, trivial, trivial, trivial, trivial, lRX6_9, trivial, trivial, trivial, trivial, trivial, trivial, trivial, trivial, trivial, trivial, trivial, trivial, trivial, trivial, trivial, trivial, trivial, lRX6_166, trivial, trivial, trivial, trivial, trivial, trivial, trivial, trivial, trivial, trivial, trivial⟩
set_option maxRecDepth 20000 in
theorem ekX6_order : eoks RX6 kX6_order := ⟨trivial, trivial, trivial, lRX6_47, trivial, trivial, trivial, trivial, trivial, trivial, trivial, trivial, lRX6_249, trivial, trivial, lRX6_181, trivial, trivial, trivial, trivial, trivial, trivial, trivial, trivial, trivial, trivial, trivial, trivial, lRX6_249, trivial, trivial, trivial, trivial, trivial, trivial, lRX6_9, trivial, trivial, trivial, trivial, trivial, trivial, trivial, trivial, trivial, trivial, trivial, trivial, trivial, trivial, trivial, trivial, trivial, trivial, trivial, trivial⟩
set_option maxRecDepth 20000 in
theorem ekX6_lowest : eoks RX6 kX6_lowest := ⟨trivial, trivial, trivial, trivial, trivial, trivial, trivial, trivial, trivial, trivial, trivial, trivial, trivial, trivial, trivial, trivial, trivial, trivial, trivial, trivial, trivial, trivial, trivial, trivial, trivial, trivial, trivial, trivial, trivial, trivial, trivial, trivial, trivial⟩
set_option maxRecDepth 20000 in
theorem ekX6_odds : eoks RX6 kX6_odds := ⟨trivial, trivial, trivial, lRX6_47, trivial, trivial, lRX6_9, trivial, trivial, trivial, lRX6_252, trivial, trivial, lRX6_160, trivial, trivial, trivial, trivial, trivial, trivial, lRX6_9, trivial, trivial, trivial, trivial, trivial, trivial, trivial, trivial, trivial, trivial, trivial, trivial, lRX6_222, trivial, trivial, trivial, trivial, trivial, trivial, trivial, trivial, trivial, trivial, lRX6_9, trivial, trivial, trivial, trivial, lRX6_254, trivial, trivial⟩
set_option maxRecDepth 20000 in
theorem ekX6_mean : eoks RX6 kX6_mean := ⟨trivial, trivial, trivial, lRX6_47, trivial, trivial, trivial, trivial, lRX6_47, trivial, lRX6_252, trivial, trivial, lRX6_200, trivial, trivial, trivial, trivial, trivial, trivial, trivial, trivial, trivial, lRX6_181, trivial, trivial, trivial, trivial, lRX6_197, trivial, trivial, trivial, trivial, lRX6_203, trivial, trivial, trivial, trivial, lRX6_254, trivial, trivial⟩
set_option maxRecDepth 20000 in
theorem ekX6_wage : eoks RX6 kX6_wage := ⟨trivial, trivial, lRX6_172, trivial, trivial, trivial, trivial, lRX6_47, trivial, lRX6_252, trivial, trivial, trivial, lRX6_133, trivial, trivial, trivial, trivial, lRX6_254, trivial, trivial, lRX6_160, trivial, lRX6_225, trivial, trivial, trivial, trivial, trivial, trivial, trivial, trivial, trivial, trivial, trivial, trivial, trivial, trivial, trivial, trivial, trivial, trivial, trivial, trivial, trivial, trivial, trivial, trivial, trivial, trivial, trivial, trivial, trivial, lRX6_163, trivial, trivial, lRX6_163, trivial, trivial, trivial, trivial, trivial, trivial, trivial, trivial, trivial, trivial, trivial, trivial, trivial, lRX6_254, trivial, trivial⟩
set_option maxRecDepth 20000 in
theorem ekX6_plan : eoks RX6 kX6_plan := ⟨trivial, trivial, trivial, trivial, lRX6_9, trivial, trivial, trivial, trivial, trivial, trivial, trivial, lRX6_172, trivial, trivial, trivial, trivial, trivial, trivial, lRX6_47, trivial, trivial, trivial, trivial, lRX6_9, trivial, trivial, trivial, trivial, trivial, trivial, trivial, lRX6_9, trivial, trivial, lRX6_9, trivial, trivial, trivial, trivial, trivial, trivial, lRX6_9, trivial, trivial, lRX6_9, trivial, trivial, trivial, trivial, trivial, trivial, lRX6_9, trivial, trivial, trivial, trivial, trivial, trivial, trivial, lRX6_9, trivial, trivial, trivial, trivial⟩
set_option maxRecDepth 20000 in
theorem ekX6_planned : eoks RX6 kX6_planned := ⟨trivial, trivial, trivial, lRX6_47, trivial, trivial, trivial, trivial, lRX6_200, trivial, trivial, trivial, trivial, lRX6_9, trivial, trivial, trivial, trivial, lRX6_9, trivial, trivial, trivial, trivial, trivial, trivial, lRX6_9, trivial, trivial, trivial, trivial, trivial, trivial, lRX6_9, trivial, trivial, trivial, trivial, trivial, trivial, lRX6_175, trivial, trivial, trivial, trivial, trivial, trivial, lRX6_197, trivial, trivial, trivial, trivial, trivial, trivial, lRX6_187, trivial, trivial, lRX6_181, trivial, trivial, lRX6_203, trivial, trivial, trivial⟩
set_option maxRecDepth 20000 in
theorem ekX6_book : eoks RX6 kX6_book := ⟨trivial, trivial, trivial, trivial, lRX6_9, trivial, trivial, trivial, trivial, trivial, trivial, trivial, lRX6_172, trivial, trivial, trivial, trivial, trivial, trivial, lRX6_47, trivial, trivial, trivial, trivial, lRX6_9, trivial, trivial, trivial, trivial, trivial, trivial, trivial, lRX6_9, trivial, trivial, lRX6_9, trivial, trivial, trivial, trivial, trivial, trivial, lRX6_9, trivial, trivial, lRX6_9, trivial, trivial, trivial, trivial, trivial, trivial, lRX6_9, trivial, trivial, trivial, trivial, trivial, trivial, trivial, lRX6_9, trivial, trivial, trivial, trivial⟩
set_option maxRecDepth 20000 in
theorem ekX6_looked : eoks RX6 kX6_looked := ⟨trivial, lRX6_160, trivial, trivial, trivial, trivial, lRX6_9, trivial, trivial, trivial, trivial, trivial, trivial, lRX6_9, trivial, trivial, trivial, trivial, lRX6_157, trivial, lRX6_9, trivial, trivial, trivial, trivial, trivial, trivial, trivial, trivial, trivial, trivial, trivial, trivial⟩
set_option maxRecDepth 20000 in
theorem ekX6_ranBody : eoks RX6 kX6_ranBody := ⟨trivial, lRX6_258, trivial, trivial, trivial, lRX6_40, trivial, lRX6_258, trivial, trivial, trivial, trivial, lRX6_258, trivial, trivial, lRX6_258, trivial, trivial⟩
set_option maxRecDepth 20000 in
theorem ekX6_isUnder : eoks RX6 kX6_isUnder := ⟨trivial, trivial, trivial, trivial, trivial, trivial, trivial, trivial, trivial, trivial, trivial, trivial, trivial, trivial, trivial, trivial, trivial, trivial, trivial, trivial⟩
set_option maxRecDepth 20000 in
theorem ekX6_plainSings : eoks RX6 kX6_plainSings := ⟨trivial, trivial, lRX6_261, trivial, trivial, lRX6_264, trivial, trivial, trivial⟩
set_option maxRecDepth 20000 in
theorem ekX6_singsActs : eoks RX6 kX6_singsActs := ⟨trivial, lRX6_267, trivial, lRX6_270, trivial, trivial, trivial, lRX6_261, trivial, trivial, trivial, trivial, lRX6_273, trivial, trivial, lRX6_267, trivial, trivial, trivial, trivial, lRX6_261, trivial, trivial, lRX6_273, trivial, lRX6_264, trivial, trivial, trivial, trivial, lRX6_273, trivial, trivial⟩
set_option maxRecDepth 20000 in
theorem ekX6_plainBears : eoks RX6 kX6_plainBears := ⟨trivial, trivial, lRX6_261, trivial, trivial, lRX6_276, trivial, lRX6_279, trivial, trivial, trivial⟩
set_option maxRecDepth 20000 in
theorem ekX6_bearsActs : eoks RX6 kX6_bearsActs := ⟨trivial, lRX6_267, trivial, lRX6_270, trivial, trivial, trivial, lRX6_261, trivial, trivial, lRX6_282, trivial, trivial, trivial, lRX6_267, trivial, trivial, trivial, trivial, lRX6_261, trivial, trivial, lRX6_282, trivial, lRX6_279, trivial, trivial, trivial, trivial, lRX6_282, trivial, trivial⟩
set_option maxRecDepth 20000 in
theorem ekX6_plainTells : eoks RX6 kX6_plainTells := ⟨trivial, trivial, lRX6_261, trivial, trivial, lRX6_285, trivial, trivial, trivial, trivial⟩
set_option maxRecDepth 20000 in
theorem ekX6_tellsActs : eoks RX6 kX6_tellsActs := ⟨trivial, lRX6_267, trivial, lRX6_270, trivial, trivial, trivial, lRX6_261, trivial, trivial, lRX6_288, trivial, trivial, trivial, trivial, lRX6_267, trivial, trivial, trivial, trivial, lRX6_261, trivial, trivial, trivial, trivial, lRX6_288, trivial, trivial, trivial, trivial, lRX6_276, trivial, trivial, trivial, trivial, lRX6_288, trivial, trivial⟩
set_option maxRecDepth 20000 in
theorem ekX6_act : eoks RX6 kX6_act := ⟨trivial, trivial, lRX6_258, trivial, trivial, lRX6_172, trivial, trivial, trivial, trivial, lRX6_47, trivial, trivial, trivial, trivial, trivial, lRX6_9, trivial, trivial, trivial, trivial, lRX6_267, trivial, trivial, lRX6_264, trivial, trivial, lRX6_9, trivial, trivial, trivial, trivial, lRX6_279, trivial, trivial, trivial, trivial, lRX6_276, trivial, trivial, trivial, trivial, trivial, trivial, lRX6_285, trivial, trivial, trivial, lRX6_291, trivial, trivial⟩
set_option maxRecDepth 20000 in
theorem ekX6_trace : eoks RX6 kX6_trace := ⟨trivial, trivial, trivial, lRX6_258, trivial, trivial, trivial, lRX6_258, trivial, trivial, trivial, trivial, lRX6_47, trivial, trivial, lRX6_40, trivial, trivial, trivial, trivial, trivial, trivial⟩
set_option maxRecDepth 20000 in
theorem ekX6_as : eoks RX6 kX6_as := ⟨trivial, trivial, lRX6_172, trivial, trivial, trivial, trivial, lRX6_47, trivial, trivial, trivial, trivial, lRX6_9, trivial, trivial, trivial, trivial, trivial, lRX6_270, trivial, trivial, lRX6_9, trivial, trivial, trivial, trivial, trivial, trivial, trivial, trivial⟩
set_option maxRecDepth 20000 in
theorem ekX6_image : eoks RX6 kX6_image := ⟨trivial, trivial, trivial, trivial, trivial, trivial, lRX6_15, trivial, trivial, lRX6_9, trivial, trivial, trivial, trivial, trivial, trivial, trivial, lRX6_294, trivial, lRX6_9, trivial, trivial, trivial, trivial⟩
set_option maxRecDepth 20000 in
theorem ekX6_undo : eoks RX6 kX6_undo := ⟨trivial, lRX6_294, trivial, trivial, trivial, trivial, trivial, trivial, trivial, trivial, trivial, lRX6_9, trivial, trivial, lRX6_15, trivial, trivial, trivial, trivial, trivial, trivial, lRX6_9, trivial, trivial, trivial, trivial⟩
set_option maxRecDepth 20000 in
theorem ekX6_count : eoks RX6 kX6_count := ⟨trivial, trivial, trivial, trivial, lRX6_258, trivial, trivial, trivial, trivial, lRX6_47, trivial, trivial, lRX6_9, trivial, trivial, trivial, trivial, trivial, trivial, trivial, trivial⟩
set_option maxRecDepth 20000 in
theorem ekL_law : eoks RL kL_law := ⟨trivial, trivial, trivial, trivial, trivial, trivial, trivial, trivial, trivial, trivial, trivial, trivial, trivial, trivial, trivial, trivial, trivial, trivial, trivial, trivial, trivial, trivial, trivial, trivial, trivial, trivial, trivial, trivial, lRL_13, trivial, trivial, trivial, trivial, trivial, trivial, lRL_17, trivial, trivial, trivial, trivial, lRL_18, trivial, lRL_22, trivial, trivial, trivial, trivial, trivial, trivial, trivial, trivial, trivial, trivial, trivial, trivial, trivial, trivial, trivial, trivial, trivial, trivial, trivial, lRL_23, trivial, trivial, trivial, trivial, trivial, trivial, trivial, trivial, trivial, trivial, trivial, trivial, trivial, trivial, trivial, trivial, lRL_27, trivial, trivial, trivial, trivial, trivial, trivial, trivial, trivial, trivial, trivial, trivial, trivial, trivial, trivial, lRL_28, trivial, trivial, trivial, trivial, trivial, trivial, trivial, trivial, trivial, trivial, trivial, lRL_32, trivial, trivial, trivial, trivial, trivial, trivial, trivial, trivial, trivial, trivial, trivial, trivial, trivial, trivial, trivial, trivial, trivial, trivial, trivial, lRL_33, trivial, trivial, trivial, trivial, trivial, trivial, trivial, trivial, trivial, trivial, trivial, trivial, trivial, trivial, trivial, trivial, lRL_36, trivial, trivial, trivial, trivial, trivial, trivial, trivial, trivial, trivial, trivial, trivial, trivial, trivial, trivial, lRL_37, trivial, trivial, trivial, trivial, trivial, trivial, trivial, trivial, trivial, trivial, trivial, lRL_40, trivial, trivial, trivial, trivial, trivial, trivial, trivial, trivial, trivial, trivial, trivial, trivial, trivial, trivial, lRL_41, trivial, trivial, trivial, trivial, trivial, trivial, trivial, trivial, trivial, trivial, trivial, lRL_44, trivial, trivial, trivial, trivial, trivial, trivial, trivial, trivial, trivial, lRL_45, trivial, trivial, trivial, trivial, trivial, trivial, lRL_48, trivial, trivial, trivial, trivial, trivial, trivial, trivial, trivial, trivial, trivial, trivial, trivial, trivial, trivial, lRL_49, trivial, trivial, trivial, trivial, trivial, trivial, trivial, trivial, trivial, trivial, trivial, lRL_52, trivial, trivial, trivial, trivial, trivial, trivial, trivial, trivial, trivial, trivial, trivial, trivial, trivial, trivial, trivial, trivial, trivial, trivial, lRL_53, trivial, trivial, trivial, trivial, trivial, trivial, trivial, trivial, trivial, trivial, trivial, trivial, trivial, trivial, trivial, lRL_57, trivial, trivial, trivial, trivial, trivial, trivial, trivial, trivial, trivial, lRL_58, trivial, trivial, trivial, trivial, trivial, trivial, lRL_61, trivial, trivial, trivial, trivial, lRL_62, trivial, lRL_65, trivial, trivial, trivial, trivial, trivial, trivial, trivial, trivial, trivial, trivial, trivial, trivial, trivial, trivial, lRL_66, trivial, trivial, trivial, trivial, trivial, trivial, trivial, trivial, trivial, trivial, trivial, lRL_69, trivial, trivial, trivial, trivial, lRL_70, trivial, lRL_73, trivial, trivial, trivial, trivial, trivial, trivial, trivial, trivial, trivial, trivial, trivial, trivial, trivial, trivial, lRL_74, trivial, trivial, trivial, trivial, trivial, trivial, trivial, trivial, trivial, trivial, trivial, lRL_77, trivial, trivial, trivial, trivial, trivial, trivial, trivial, trivial, trivial, lRL_78, trivial, trivial, trivial, trivial, trivial, trivial, lRL_81, trivial, trivial, trivial, trivial, lRL_82, trivial, lRL_85, trivial, trivial, trivial, trivial, lRL_86, trivial, lRL_89, trivial, trivial, trivial, trivial, trivial, trivial, trivial, trivial, trivial, trivial, trivial, trivial, trivial, trivial, lRL_90, trivial, trivial, trivial, trivial, trivial, trivial, trivial, trivial, trivial, trivial, trivial, lRL_93, trivial, trivial, trivial, trivial, trivial, trivial, trivial, trivial, trivial, lRL_94, trivial, trivial, trivial, trivial, trivial, trivial, lRL_97, trivial, trivial, trivial, trivial, trivial, trivial, trivial, trivial, trivial, trivial, trivial, trivial, trivial, trivial, lRL_98, trivial, trivial, trivial, trivial, trivial, trivial, trivial, trivial, trivial, trivial, trivial, lRL_101, trivial, trivial, trivial, trivial, trivial, trivial, trivial, trivial, trivial, lRL_102, trivial, trivial, trivial, trivial, trivial, trivial, lRL_105, trivial, trivial, trivial, trivial, trivial, trivial, trivial, trivial, trivial, lRL_106, trivial, trivial, trivial, trivial, trivial, trivial, lRL_109, trivial, trivial, trivial, trivial, lRL_110, trivial, lRL_113, trivial, trivial, trivial, trivial, trivial, trivial, trivial, trivial, trivial, trivial, trivial, trivial, trivial, trivial, lRL_114, trivial, trivial, trivial, trivial, trivial, trivial, trivial, trivial, trivial, trivial, trivial, lRL_117, trivial, trivial, trivial, trivial, lRL_118, trivial, lRL_121, trivial, trivial, trivial, trivial, trivial, trivial, trivial, trivial, trivial, lRL_122, trivial, trivial, trivial, trivial, trivial, trivial, lRL_125, trivial, trivial, trivial, trivial, trivial, trivial, trivial, trivial, trivial, lRL_126, trivial, trivial, trivial, trivial, trivial, trivial, lRL_130, trivial, trivial, trivial, trivial, trivial, trivial, trivial, trivial, trivial, trivial, trivial, trivial, trivial, trivial, trivial, lRL_131, trivial, trivial, trivial, trivial, trivial, trivial, trivial, trivial, trivial, trivial, trivial, lRL_135, trivial, trivial, trivial, trivial, trivial, trivial, trivial, trivial, trivial, trivial, trivial, trivial, trivial, trivial, trivial, lRL_136, trivial, trivial, trivial, trivial, trivial, trivial, trivial, trivial, trivial, trivial, trivial, lRL_139, trivial, trivial, trivial, trivial, trivial, trivial, trivial, trivial, trivial, trivial, trivial, trivial, trivial, trivial, trivial, lRL_140, trivial, trivial, trivial, trivial, trivial, trivial, trivial, trivial, trivial, trivial, trivial, lRL_143, trivial, trivial, trivial, trivial, trivial, trivial, trivial, trivial, trivial, lRL_144, trivial, trivial, trivial, trivial, trivial, trivial, lRL_147, trivial, trivial, trivial, trivial, trivial, trivial, trivial, trivial, trivial, trivial, trivial, trivial, trivial, trivial, lRL_148, trivial, trivial, trivial, trivial, trivial, trivial, trivial, trivial, trivial, trivial, trivial, lRL_151, trivial, trivial, trivial, trivial, lRL_152, trivial, lRL_155, trivial, trivial, trivial, trivial, trivial, trivial, trivial, trivial, trivial, trivial, trivial, trivial, trivial, trivial, trivial, trivial, trivial, trivial, trivial, lRL_156, trivial, trivial, trivial, trivial, trivial, trivial, trivial, trivial, trivial, trivial, trivial, trivial, trivial, trivial, trivial, trivial, lRL_159, trivial, trivial, trivial, trivial, trivial, trivial, trivial, trivial, trivial, lRL_160, trivial, trivial, trivial, trivial, trivial, trivial, lRL_163, trivial, trivial, trivial, trivial, trivial, trivial, trivial, trivial, trivial, trivial, trivial, trivial, trivial, trivial, lRL_164, trivial, trivial, trivial, trivial, trivial, trivial, trivial, trivial, trivial, trivial, trivial, lRL_167, trivial, trivial, trivial, trivial, lRL_168, trivial, lRL_171, trivial, trivial, trivial, trivial, lRL_172, trivial, lRL_175, trivial, trivial, trivial, trivial, trivial, trivial, trivial, trivial, trivial, lRL_176, trivial, trivial, trivial, trivial, trivial, trivial, lRL_179, trivial, trivial, trivial, trivial, trivial, trivial, trivial, trivial⟩
/-- what the tables say of a method -/
def mok (j : Nat) : Prop := Cond.code (yO j) (bO j) (mlO j) (reO j) ∈ wBig ∧ Cond.initialized (yO j).cls ∈ wBig ∧ (if stO j = true then Cond.static (yO j) ∈ wBig else Cond.instanceMethod (yO j) ∈ wBig ∧ Cond.selects (yO j).cls (yO j) (yO j) ∈ wBig) ∧ plainName (yO j).cls = true ∧ ((yO j).cls ≠ "java/lang/invoke/MethodHandle" ∧ (yO j).cls ≠ "java/lang/invoke/VarHandle" ∧ (parseMethodDescriptor (yO j).desc).map (fun d => d.parameters.length) = some (naO j)) ∧ owO j = (yO j).cls ∧ chB (bO j) 0 (kO j) = true ∧ eoks (owO j) (kO j) ∧ mlO j ≤ 20
theorem mkJ6_compare_7cf53 : mok 0 := ⟨wb3 (i := 9) rfl rfl, wb1 (i := 14) rfl rfl, wb3 (i := 8) rfl rfl, by decide +kernel, by decide +kernel, rfl, chJ6_compare_7cf53, ekJ6_compare_7cf53, by decide⟩
theorem mkJ6_bitCount_0f7a4 : mok 1 := ⟨wb3 (i := 110) rfl rfl, wb1 (i := 14) rfl rfl, wb3 (i := 109) rfl rfl, by decide +kernel, by decide +kernel, rfl, chJ6_bitCount_0f7a4, ekJ6_bitCount_0f7a4, by decide⟩
theorem mkJ0_length_8abf5 : mok 2 := ⟨wb2 (i := 62) rfl rfl, wb1 (i := 9) rfl rfl, ⟨wb2 (i := 60) rfl rfl, wb2 (i := 61) rfl rfl⟩, by decide +kernel, by decide +kernel, rfl, chJ0_length_8abf5, ekJ0_length_8abf5, by decide⟩
theorem mkJ0_charAt_5068e : mok 3 := ⟨wb2 (i := 72) rfl rfl, wb1 (i := 9) rfl rfl, ⟨wb2 (i := 70) rfl rfl, wb2 (i := 71) rfl rfl⟩, by decide +kernel, by decide +kernel, rfl, chJ0_charAt_5068e, ekJ0_charAt_5068e, by decide⟩
theorem mkJ0_indexOf_0f7a4 : mok 4 := ⟨wb2 (i := 143) rfl rfl, wb1 (i := 9) rfl rfl, ⟨wb2 (i := 141) rfl rfl, wb2 (i := 142) rfl rfl⟩, by decide +kernel, by decide +kernel, rfl, chJ0_indexOf_0f7a4, ekJ0_indexOf_0f7a4, by decide⟩
theorem mkJ0_indexOf_7cf53 : mok 5 := ⟨wb2 (i := 147) rfl rfl, wb1 (i := 9) rfl rfl, ⟨wb2 (i := 145) rfl rfl, wb2 (i := 146) rfl rfl⟩, by decide +kernel, by decide +kernel, rfl, chJ0_indexOf_7cf53, ekJ0_indexOf_7cf53, by decide⟩
theorem mkJ0_coder_7d493 : mok 6 := ⟨wb2 (i := 66) rfl rfl, wb1 (i := 9) rfl rfl, ⟨wb2 (i := 64) rfl rfl, wb2 (i := 65) rfl rfl⟩, by decide +kernel, by decide +kernel, rfl, chJ0_coder_7d493, ekJ0_coder_7d493, by decide⟩
theorem mkJ0_isLatin1_aae02 : mok 7 := ⟨wb2 (i := 76) rfl rfl, wb1 (i := 9) rfl rfl, ⟨wb2 (i := 74) rfl rfl, wb2 (i := 75) rfl rfl⟩, by decide +kernel, by decide +kernel, rfl, chJ0_isLatin1_aae02, ekJ0_isLatin1_aae02, by decide⟩
theorem mkJ0_checkIndex_df160 : mok 8 := ⟨wb2 (i := 82) rfl rfl, wb1 (i := 9) rfl rfl, wb2 (i := 81) rfl rfl, by decide +kernel, by decide +kernel, rfl, chJ0_checkIndex_df160, ekJ0_checkIndex_df160, by decide⟩
theorem mkJ1_charAt_3b067 : mok 9 := ⟨wb2 (i := 79) rfl rfl, wb1 (i := 10) rfl rfl, wb2 (i := 78) rfl rfl, by decide +kernel, by decide +kernel, rfl, chJ1_charAt_3b067, ekJ1_charAt_3b067, by decide⟩
theorem mkJ1_canEncode_9a6ad : mok 10 := ⟨wb2 (i := 154) rfl rfl, wb1 (i := 10) rfl rfl, wb2 (i := 153) rfl rfl, by decide +kernel, by decide +kernel, rfl, chJ1_canEncode_9a6ad, ekJ1_canEncode_9a6ad, by decide⟩
theorem mkJ1_indexOf_4cfef : mok 11 := ⟨wb2 (i := 151) rfl rfl, wb1 (i := 10) rfl rfl, wb2 (i := 150) rfl rfl, by decide +kernel, by decide +kernel, rfl, chJ1_indexOf_4cfef, ekJ1_indexOf_4cfef, by decide⟩
theorem mkJ1_indexOfChar_4cfef : mok 12 := ⟨wb2 (i := 161) rfl rfl, wb1 (i := 10) rfl rfl, wb2 (i := 160) rfl rfl, by decide +kernel, by decide +kernel, rfl, chJ1_indexOfChar_4cfef, ekJ1_indexOfChar_4cfef, by decide⟩
theorem mkJ3_checkIndex_8e157 : mok 13 := ⟨wb2 (i := 87) rfl rfl, wb1 (i := 11) rfl rfl, wb2 (i := 86) rfl rfl, by decide +kernel, by decide +kernel, rfl, chJ3_checkIndex_8e157, ekJ3_checkIndex_8e157, by decide⟩
theorem mkX0_perform : mok 14 := ⟨wb4 (i := 51) rfl rfl, wb1 (i := 3) rfl rfl, ⟨wb4 (i := 49) rfl rfl, wb4 (i := 50) rfl rfl⟩, by decide +kernel, by decide +kernel, rfl, chX0_perform, ekX0_perform, by decide⟩
theorem mkX0_callFrom : mok 15 := ⟨wb4 (i := 55) rfl rfl, wb1 (i := 3) rfl rfl, ⟨wb4 (i := 54) rfl rfl, wbP (i := 26) rfl⟩, by decide +kernel, by decide +kernel, rfl, chX0_callFrom, ekX0_callFrom, by decide⟩
theorem mkX0_runBody : mok 16 := ⟨wb4 (i := 61) rfl rfl, wb1 (i := 3) rfl rfl, ⟨wb4 (i := 60) rfl rfl, wbP (i := 27) rfl⟩, by decide +kernel, by decide +kernel, rfl, chX0_runBody, ekX0_runBody, by decide⟩
theorem mkX1_become : mok 17 := ⟨wb3 (i := 121) rfl rfl, wb1 (i := 6) rfl rfl, ⟨wb3 (i := 119) rfl rfl, wb3 (i := 120) rfl rfl⟩, by decide +kernel, by decide +kernel, rfl, chX1_become, ekX1_become, by decide⟩
theorem mkX1_addSinger : mok 18 := ⟨wb2 (i := 217) rfl rfl, wb1 (i := 6) rfl rfl, ⟨wb2 (i := 215) rfl rfl, wb2 (i := 216) rfl rfl⟩, by decide +kernel, by decide +kernel, rfl, chX1_addSinger, ekX1_addSinger, by decide⟩
theorem mkX1_addStone : mok 19 := ⟨wb3 (i := 58) rfl rfl, wb1 (i := 6) rfl rfl, ⟨wb3 (i := 56) rfl rfl, wb3 (i := 57) rfl rfl⟩, by decide +kernel, by decide +kernel, rfl, chX1_addStone, ekX1_addStone, by decide⟩
theorem mkX1_highOf : mok 20 := ⟨wb3 (i := 45) rfl rfl, wb1 (i := 6) rfl rfl, ⟨wb3 (i := 43) rfl rfl, wb3 (i := 44) rfl rfl⟩, by decide +kernel, by decide +kernel, rfl, chX1_highOf, ekX1_highOf, by decide⟩
theorem mkX1_canSing : mok 21 := ⟨wb3 (i := 41) rfl rfl, wb1 (i := 6) rfl rfl, ⟨wb3 (i := 39) rfl rfl, wb3 (i := 40) rfl rfl⟩, by decide +kernel, by decide +kernel, rfl, chX1_canSing, ekX1_canSing, by decide⟩
theorem mkX1_singing : mok 22 := ⟨wb3 (i := 14) rfl rfl, wb1 (i := 6) rfl rfl, ⟨wb3 (i := 12) rfl rfl, wb3 (i := 13) rfl rfl⟩, by decide +kernel, by decide +kernel, rfl, chX1_singing, ekX1_singing, by decide⟩
theorem mkX1_measure : mok 23 := ⟨wb2 (i := 229) rfl rfl, wb1 (i := 6) rfl rfl, ⟨wb2 (i := 227) rfl rfl, wb2 (i := 228) rfl rfl⟩, by decide +kernel, by decide +kernel, rfl, chX1_measure, ekX1_measure, by decide⟩
theorem mkX1_forceOf : mok 24 := ⟨wb2 (i := 233) rfl rfl, wb1 (i := 6) rfl rfl, ⟨wb2 (i := 231) rfl rfl, wb2 (i := 232) rfl rfl⟩, by decide +kernel, by decide +kernel, rfl, chX1_forceOf, ekX1_forceOf, by decide⟩
theorem mkX1_strengthOf : mok 25 := ⟨wb2 (i := 237) rfl rfl, wb1 (i := 6) rfl rfl, ⟨wb2 (i := 236) rfl rfl, wbP (i := 13) rfl⟩, by decide +kernel, by decide +kernel, rfl, chX1_strengthOf, ekX1_strengthOf, by decide⟩
theorem mkX1_partners : mok 26 := ⟨wb3 (i := 22) rfl rfl, wb1 (i := 6) rfl rfl, ⟨wb3 (i := 20) rfl rfl, wb3 (i := 21) rfl rfl⟩, by decide +kernel, by decide +kernel, rfl, chX1_partners, ekX1_partners, by decide⟩
theorem mkX1_bearing : mok 27 := ⟨wb3 (i := 18) rfl rfl, wb1 (i := 6) rfl rfl, ⟨wb3 (i := 16) rfl rfl, wb3 (i := 17) rfl rfl⟩, by decide +kernel, by decide +kernel, rfl, chX1_bearing, ekX1_bearing, by decide⟩
theorem mkX1_allOf : mok 28 := ⟨wb3 (i := 76) rfl rfl, wb1 (i := 6) rfl rfl, ⟨wb3 (i := 74) rfl rfl, wb3 (i := 75) rfl rfl⟩, by decide +kernel, by decide +kernel, rfl, chX1_allOf, ekX1_allOf, by decide⟩
theorem mkX1_allNow : mok 29 := ⟨wb3 (i := 70) rfl rfl, wb1 (i := 6) rfl rfl, ⟨wb3 (i := 68) rfl rfl, wb3 (i := 69) rfl rfl⟩, by decide +kernel, by decide +kernel, rfl, chX1_allNow, ekX1_allNow, by decide⟩
theorem mkX1_hangs : mok 30 := ⟨wb3 (i := 85) rfl rfl, wb1 (i := 6) rfl rfl, ⟨wb3 (i := 83) rfl rfl, wb3 (i := 84) rfl rfl⟩, by decide +kernel, by decide +kernel, rfl, chX1_hangs, ekX1_hangs, by decide⟩
theorem mkX1_sumHanging : mok 31 := ⟨wb3 (i := 222) rfl rfl, wb1 (i := 6) rfl rfl, ⟨wb3 (i := 220) rfl rfl, wb3 (i := 221) rfl rfl⟩, by decide +kernel, by decide +kernel, rfl, chX1_sumHanging, ekX1_sumHanging, by decide⟩
theorem mkX1_looseBits : mok 32 := ⟨wb3 (i := 81) rfl rfl, wb1 (i := 6) rfl rfl, ⟨wb3 (i := 79) rfl rfl, wb3 (i := 80) rfl rfl⟩, by decide +kernel, by decide +kernel, rfl, chX1_looseBits, ekX1_looseBits, by decide⟩
theorem mkX1_countFallen : mok 33 := ⟨wb3 (i := 97) rfl rfl, wb1 (i := 6) rfl rfl, ⟨wb3 (i := 95) rfl rfl, wb3 (i := 96) rfl rfl⟩, by decide +kernel, by decide +kernel, rfl, chX1_countFallen, ekX1_countFallen, by decide⟩
theorem mkX1_sumTired : mok 34 := ⟨wb3 (i := 196) rfl rfl, wb1 (i := 6) rfl rfl, ⟨wb3 (i := 194) rfl rfl, wb3 (i := 195) rfl rfl⟩, by decide +kernel, by decide +kernel, rfl, chX1_sumTired, ekX1_sumTired, by decide⟩
theorem mkX1_goBeat : mok 35 := ⟨wb3 (i := 106) rfl rfl, wb1 (i := 6) rfl rfl, ⟨wb3 (i := 104) rfl rfl, wb3 (i := 105) rfl rfl⟩, by decide +kernel, by decide +kernel, rfl, chX1_goBeat, ekX1_goBeat, by decide⟩
theorem mkX1_goRound : mok 36 := ⟨wb3 (i := 208) rfl rfl, wb1 (i := 6) rfl rfl, ⟨wb3 (i := 206) rfl rfl, wb3 (i := 207) rfl rfl⟩, by decide +kernel, by decide +kernel, rfl, chX1_goRound, ekX1_goRound, by decide⟩
theorem mkX1_keepNotes : mok 37 := ⟨wb3 (i := 192) rfl rfl, wb1 (i := 6) rfl rfl, ⟨wb3 (i := 190) rfl rfl, wb3 (i := 191) rfl rfl⟩, by decide +kernel, by decide +kernel, rfl, chX1_keepNotes, ekX1_keepNotes, by decide⟩
theorem mkX2_read : mok 38 := ⟨wb2 (i := 41) rfl rfl, wb1 (i := 2) rfl rfl, ⟨wb2 (i := 39) rfl rfl, wb2 (i := 40) rfl rfl⟩, by decide +kernel, by decide +kernel, rfl, chX2_read, ekX2_read, by decide⟩
theorem mkX2_peek : mok 39 := ⟨wb2 (i := 53) rfl rfl, wb1 (i := 2) rfl rfl, ⟨wb2 (i := 52) rfl rfl, wbP (i := 2) rfl⟩, by decide +kernel, by decide +kernel, rfl, chX2_peek, ekX2_peek, by decide⟩
theorem mkX2_take : mok 40 := ⟨wb2 (i := 110) rfl rfl, wb1 (i := 2) rfl rfl, ⟨wb2 (i := 109) rfl rfl, wbP (i := 4) rfl⟩, by decide +kernel, by decide +kernel, rfl, chX2_take, ekX2_take, by decide⟩
theorem mkX2_readClause : mok 41 := ⟨wb2 (i := 49) rfl rfl, wb1 (i := 2) rfl rfl, ⟨wb2 (i := 48) rfl rfl, wbP (i := 1) rfl⟩, by decide +kernel, by decide +kernel, rfl, chX2_readClause, ekX2_readClause, by decide⟩
theorem mkX2_readWord : mok 42 := ⟨wb2 (i := 58) rfl rfl, wb1 (i := 2) rfl rfl, ⟨wb2 (i := 57) rfl rfl, wbP (i := 3) rfl⟩, by decide +kernel, by decide +kernel, rfl, chX2_readWord, ekX2_readWord, by decide⟩
theorem mkX2_readRest : mok 43 := ⟨wb2 (i := 114) rfl rfl, wb1 (i := 2) rfl rfl, ⟨wb2 (i := 113) rfl rfl, wbP (i := 5) rfl⟩, by decide +kernel, by decide +kernel, rfl, chX2_readRest, ekX2_readRest, by decide⟩
theorem mkX2_readNumber : mok 44 := ⟨wb2 (i := 118) rfl rfl, wb1 (i := 2) rfl rfl, ⟨wb2 (i := 117) rfl rfl, wbP (i := 6) rfl⟩, by decide +kernel, by decide +kernel, rfl, chX2_readNumber, ekX2_readNumber, by decide⟩
theorem mkX2_readEither : mok 45 := ⟨wb2 (i := 122) rfl rfl, wb1 (i := 2) rfl rfl, ⟨wb2 (i := 121) rfl rfl, wbP (i := 7) rfl⟩, by decide +kernel, by decide +kernel, rfl, chX2_readEither, ekX2_readEither, by decide⟩
theorem mkX2_readBoth : mok 46 := ⟨wb2 (i := 126) rfl rfl, wb1 (i := 2) rfl rfl, ⟨wb2 (i := 125) rfl rfl, wbP (i := 8) rfl⟩, by decide +kernel, by decide +kernel, rfl, chX2_readBoth, ekX2_readBoth, by decide⟩
theorem mkX2_readFactor : mok 47 := ⟨wb2 (i := 130) rfl rfl, wb1 (i := 2) rfl rfl, ⟨wb2 (i := 129) rfl rfl, wbP (i := 9) rfl⟩, by decide +kernel, by decide +kernel, rfl, chX2_readFactor, ekX2_readFactor, by decide⟩
theorem mkX2_readTest : mok 48 := ⟨wb2 (i := 134) rfl rfl, wb1 (i := 2) rfl rfl, ⟨wb2 (i := 133) rfl rfl, wbP (i := 10) rfl⟩, by decide +kernel, by decide +kernel, rfl, chX2_readTest, ekX2_readTest, by decide⟩
theorem mkX2_indexOfNext : mok 49 := ⟨wb2 (i := 139) rfl rfl, wb1 (i := 2) rfl rfl, ⟨wb2 (i := 138) rfl rfl, wbP (i := 11) rfl⟩, by decide +kernel, by decide +kernel, rfl, chX2_indexOfNext, ekX2_indexOfNext, by decide⟩
theorem mkX3_clear : mok 50 := ⟨wb1 (i := 136) rfl rfl, wb1 (i := 5) rfl rfl, ⟨wb1 (i := 135) rfl rfl, wbP (i := 0) rfl⟩, by decide +kernel, by decide +kernel, rfl, chX3_clear, ekX3_clear, by decide⟩
theorem mkX3_addToken : mok 51 := ⟨wb2 (i := 201) rfl rfl, wb1 (i := 5) rfl rfl, ⟨wb2 (i := 199) rfl rfl, wb2 (i := 200) rfl rfl⟩, by decide +kernel, by decide +kernel, rfl, chX3_addToken, ekX3_addToken, by decide⟩
theorem mkX3_addClause : mok 52 := ⟨wb2 (i := 205) rfl rfl, wb1 (i := 5) rfl rfl, ⟨wb2 (i := 203) rfl rfl, wb2 (i := 204) rfl rfl⟩, by decide +kernel, by decide +kernel, rfl, chX3_addClause, ekX3_addClause, by decide⟩
theorem mkX3_gainOf : mok 53 := ⟨wb3 (i := 1) rfl rfl, wb1 (i := 5) rfl rfl, ⟨wb2 (i := 239) rfl rfl, wb3 (i := 0) rfl rfl⟩, by decide +kernel, by decide +kernel, rfl, chX3_gainOf, ekX3_gainOf, by decide⟩
theorem mkX3_holds : mok 54 := ⟨wb3 (i := 5) rfl rfl, wb1 (i := 5) rfl rfl, ⟨wb3 (i := 4) rfl rfl, wbP (i := 14) rfl⟩, by decide +kernel, by decide +kernel, rfl, chX3_holds, ekX3_holds, by decide⟩
theorem mkX4_become : mok 55 := ⟨wb4 (i := 80) rfl rfl, wb1 (i := 4) rfl rfl, ⟨wb4 (i := 78) rfl rfl, wb4 (i := 79) rfl rfl⟩, by decide +kernel, by decide +kernel, rfl, chX4_become, ekX4_become, by decide⟩
theorem mkX5_feed : mok 56 := ⟨wb2 (i := 33) rfl rfl, wb1 (i := 1) rfl rfl, ⟨wb2 (i := 31) rfl rfl, wb2 (i := 32) rfl rfl⟩, by decide +kernel, by decide +kernel, rfl, chX5_feed, ekX5_feed, by decide⟩
theorem mkX5_setting : mok 57 := ⟨wb2 (i := 37) rfl rfl, wb1 (i := 1) rfl rfl, ⟨wb2 (i := 35) rfl rfl, wb2 (i := 36) rfl rfl⟩, by decide +kernel, by decide +kernel, rfl, chX5_setting, ekX5_setting, by decide⟩
theorem mkX5_singer : mok 58 := ⟨wb2 (i := 213) rfl rfl, wb1 (i := 1) rfl rfl, ⟨wb2 (i := 211) rfl rfl, wb2 (i := 212) rfl rfl⟩, by decide +kernel, by decide +kernel, rfl, chX5_singer, ekX5_singer, by decide⟩
theorem mkX5_of : mok 59 := ⟨wb2 (i := 221) rfl rfl, wb1 (i := 1) rfl rfl, ⟨wb2 (i := 219) rfl rfl, wb2 (i := 220) rfl rfl⟩, by decide +kernel, by decide +kernel, rfl, chX5_of, ekX5_of, by decide⟩
theorem mkX5_row : mok 60 := ⟨wb3 (i := 33) rfl rfl, wb1 (i := 1) rfl rfl, ⟨wb3 (i := 31) rfl rfl, wb3 (i := 32) rfl rfl⟩, by decide +kernel, by decide +kernel, rfl, chX5_row, ekX5_row, by decide⟩
theorem mkX5_sing : mok 61 := ⟨wb3 (i := 37) rfl rfl, wb1 (i := 1) rfl rfl, ⟨wb3 (i := 35) rfl rfl, wb3 (i := 36) rfl rfl⟩, by decide +kernel, by decide +kernel, rfl, chX5_sing, ekX5_sing, by decide⟩
theorem mkX5_tire : mok 62 := ⟨wb3 (i := 50) rfl rfl, wb1 (i := 1) rfl rfl, ⟨wb3 (i := 48) rfl rfl, wb3 (i := 49) rfl rfl⟩, by decide +kernel, by decide +kernel, rfl, chX5_tire, ekX5_tire, by decide⟩
theorem mkX5_stone : mok 63 := ⟨wb3 (i := 54) rfl rfl, wb1 (i := 1) rfl rfl, ⟨wb3 (i := 52) rfl rfl, wb3 (i := 53) rfl rfl⟩, by decide +kernel, by decide +kernel, rfl, chX5_stone, ekX5_stone, by decide⟩
theorem mkX5_at : mok 64 := ⟨wb3 (i := 62) rfl rfl, wb1 (i := 1) rfl rfl, ⟨wb3 (i := 60) rfl rfl, wb3 (i := 61) rfl rfl⟩, by decide +kernel, by decide +kernel, rfl, chX5_at, ekX5_at, by decide⟩
theorem mkX5_prop : mok 65 := ⟨wb3 (i := 89) rfl rfl, wb1 (i := 1) rfl rfl, ⟨wb3 (i := 87) rfl rfl, wb3 (i := 88) rfl rfl⟩, by decide +kernel, by decide +kernel, rfl, chX5_prop, ekX5_prop, by decide⟩
theorem mkX5_told : mok 66 := ⟨wb3 (i := 93) rfl rfl, wb1 (i := 1) rfl rfl, ⟨wb3 (i := 91) rfl rfl, wb3 (i := 92) rfl rfl⟩, by decide +kernel, by decide +kernel, rfl, chX5_told, ekX5_told, by decide⟩
theorem mkX5_beat : mok 67 := ⟨wb3 (i := 101) rfl rfl, wb1 (i := 1) rfl rfl, ⟨wb3 (i := 99) rfl rfl, wb3 (i := 100) rfl rfl⟩, by decide +kernel, by decide +kernel, rfl, chX5_beat, ekX5_beat, by decide⟩
theorem mkX5_on : mok 68 := ⟨wb3 (i := 117) rfl rfl, wb1 (i := 1) rfl rfl, ⟨wb3 (i := 115) rfl rfl, wb3 (i := 116) rfl rfl⟩, by decide +kernel, by decide +kernel, rfl, chX5_on, ekX5_on, by decide⟩
theorem mkX5_steady : mok 69 := ⟨wb3 (i := 128) rfl rfl, wb1 (i := 1) rfl rfl, ⟨wb3 (i := 126) rfl rfl, wb3 (i := 127) rfl rfl⟩, by decide +kernel, by decide +kernel, rfl, chX5_steady, ekX5_steady, by decide⟩
theorem mkX5_best : mok 70 := ⟨wb3 (i := 132) rfl rfl, wb1 (i := 1) rfl rfl, ⟨wb3 (i := 130) rfl rfl, wb3 (i := 131) rfl rfl⟩, by decide +kernel, by decide +kernel, rfl, chX5_best, ekX5_best, by decide⟩
theorem mkX5_chord : mok 71 := ⟨wb3 (i := 141) rfl rfl, wb1 (i := 1) rfl rfl, ⟨wb3 (i := 139) rfl rfl, wb3 (i := 140) rfl rfl⟩, by decide +kernel, by decide +kernel, rfl, chX5_chord, ekX5_chord, by decide⟩
theorem mkX5_needed : mok 72 := ⟨wb3 (i := 166) rfl rfl, wb1 (i := 1) rfl rfl, ⟨wb3 (i := 164) rfl rfl, wb3 (i := 165) rfl rfl⟩, by decide +kernel, by decide +kernel, rfl, chX5_needed, ekX5_needed, by decide⟩
theorem mkX5_spare : mok 73 := ⟨wb3 (i := 171) rfl rfl, wb1 (i := 1) rfl rfl, ⟨wb3 (i := 169) rfl rfl, wb3 (i := 170) rfl rfl⟩, by decide +kernel, by decide +kernel, rfl, chX5_spare, ekX5_spare, by decide⟩
theorem mkX5_shift : mok 74 := ⟨wb3 (i := 184) rfl rfl, wb1 (i := 1) rfl rfl, ⟨wb3 (i := 182) rfl rfl, wb3 (i := 183) rfl rfl⟩, by decide +kernel, by decide +kernel, rfl, chX5_shift, ekX5_shift, by decide⟩
theorem mkX5_ill : mok 75 := ⟨wb3 (i := 200) rfl rfl, wb1 (i := 1) rfl rfl, ⟨wb3 (i := 198) rfl rfl, wb3 (i := 199) rfl rfl⟩, by decide +kernel, by decide +kernel, rfl, chX5_ill, ekX5_ill, by decide⟩
theorem mkX5_canon : mok 76 := ⟨wb3 (i := 204) rfl rfl, wb1 (i := 1) rfl rfl, ⟨wb3 (i := 202) rfl rfl, wb3 (i := 203) rfl rfl⟩, by decide +kernel, by decide +kernel, rfl, chX5_canon, ekX5_canon, by decide⟩
theorem mkX5_props : mok 77 := ⟨wb3 (i := 213) rfl rfl, wb1 (i := 1) rfl rfl, ⟨wb3 (i := 211) rfl rfl, wb3 (i := 212) rfl rfl⟩, by decide +kernel, by decide +kernel, rfl, chX5_props, ekX5_props, by decide⟩
theorem mkX5_critical : mok 78 := ⟨wb3 (i := 226) rfl rfl, wb1 (i := 1) rfl rfl, ⟨wb3 (i := 224) rfl rfl, wb3 (i := 225) rfl rfl⟩, by decide +kernel, by decide +kernel, rfl, chX5_critical, ekX5_critical, by decide⟩
theorem mkX5_load : mok 79 := ⟨wb3 (i := 230) rfl rfl, wb1 (i := 1) rfl rfl, ⟨wb3 (i := 228) rfl rfl, wb3 (i := 229) rfl rfl⟩, by decide +kernel, by decide +kernel, rfl, chX5_load, ekX5_load, by decide⟩
theorem mkX5_dust : mok 80 := ⟨wb3 (i := 234) rfl rfl, wb1 (i := 1) rfl rfl, ⟨wb3 (i := 232) rfl rfl, wb3 (i := 233) rfl rfl⟩, by decide +kernel, by decide +kernel, rfl, chX5_dust, ekX5_dust, by decide⟩
theorem mkX5_flat : mok 81 := ⟨wb3 (i := 238) rfl rfl, wb1 (i := 1) rfl rfl, ⟨wb3 (i := 236) rfl rfl, wb3 (i := 237) rfl rfl⟩, by decide +kernel, by decide +kernel, rfl, chX5_flat, ekX5_flat, by decide⟩
theorem mkX5_order : mok 82 := ⟨wb4 (i := 7) rfl rfl, wb1 (i := 1) rfl rfl, ⟨wb4 (i := 5) rfl rfl, wb4 (i := 6) rfl rfl⟩, by decide +kernel, by decide +kernel, rfl, chX5_order, ekX5_order, by decide⟩
theorem mkX5_odds : mok 83 := ⟨wb4 (i := 11) rfl rfl, wb1 (i := 1) rfl rfl, ⟨wb4 (i := 9) rfl rfl, wb4 (i := 10) rfl rfl⟩, by decide +kernel, by decide +kernel, rfl, chX5_odds, ekX5_odds, by decide⟩
theorem mkX5_mean : mok 84 := ⟨wb4 (i := 23) rfl rfl, wb1 (i := 1) rfl rfl, ⟨wb4 (i := 21) rfl rfl, wb4 (i := 22) rfl rfl⟩, by decide +kernel, by decide +kernel, rfl, chX5_mean, ekX5_mean, by decide⟩
theorem mkX5_wage : mok 85 := ⟨wb4 (i := 27) rfl rfl, wb1 (i := 1) rfl rfl, ⟨wb4 (i := 25) rfl rfl, wb4 (i := 26) rfl rfl⟩, by decide +kernel, by decide +kernel, rfl, chX5_wage, ekX5_wage, by decide⟩
theorem mkX5_plan : mok 86 := ⟨wb4 (i := 31) rfl rfl, wb1 (i := 1) rfl rfl, ⟨wb4 (i := 29) rfl rfl, wb4 (i := 30) rfl rfl⟩, by decide +kernel, by decide +kernel, rfl, chX5_plan, ekX5_plan, by decide⟩
theorem mkX5_planned : mok 87 := ⟨wb4 (i := 35) rfl rfl, wb1 (i := 1) rfl rfl, ⟨wb4 (i := 33) rfl rfl, wb4 (i := 34) rfl rfl⟩, by decide +kernel, by decide +kernel, rfl, chX5_planned, ekX5_planned, by decide⟩
theorem mkX5_book : mok 88 := ⟨wb4 (i := 39) rfl rfl, wb1 (i := 1) rfl rfl, ⟨wb4 (i := 37) rfl rfl, wb4 (i := 38) rfl rfl⟩, by decide +kernel, by decide +kernel, rfl, chX5_book, ekX5_book, by decide⟩
theorem mkX5_looked : mok 89 := ⟨wb4 (i := 43) rfl rfl, wb1 (i := 1) rfl rfl, ⟨wb4 (i := 41) rfl rfl, wb4 (i := 42) rfl rfl⟩, by decide +kernel, by decide +kernel, rfl, chX5_looked, ekX5_looked, by decide⟩
theorem mkX5_act : mok 90 := ⟨wb4 (i := 47) rfl rfl, wb1 (i := 1) rfl rfl, ⟨wb4 (i := 45) rfl rfl, wb4 (i := 46) rfl rfl⟩, by decide +kernel, by decide +kernel, rfl, chX5_act, ekX5_act, by decide⟩
theorem mkX5_trace : mok 91 := ⟨wb4 (i := 67) rfl rfl, wb1 (i := 1) rfl rfl, ⟨wb4 (i := 65) rfl rfl, wb4 (i := 66) rfl rfl⟩, by decide +kernel, by decide +kernel, rfl, chX5_trace, ekX5_trace, by decide⟩
theorem mkX5_as : mok 92 := ⟨wb4 (i := 71) rfl rfl, wb1 (i := 1) rfl rfl, ⟨wb4 (i := 69) rfl rfl, wb4 (i := 70) rfl rfl⟩, by decide +kernel, by decide +kernel, rfl, chX5_as, ekX5_as, by decide⟩
theorem mkX5_image : mok 93 := ⟨wb4 (i := 76) rfl rfl, wb1 (i := 1) rfl rfl, ⟨wb4 (i := 74) rfl rfl, wb4 (i := 75) rfl rfl⟩, by decide +kernel, by decide +kernel, rfl, chX5_image, ekX5_image, by decide⟩
theorem mkX5_undo : mok 94 := ⟨wb4 (i := 85) rfl rfl, wb1 (i := 1) rfl rfl, ⟨wb4 (i := 83) rfl rfl, wb4 (i := 84) rfl rfl⟩, by decide +kernel, by decide +kernel, rfl, chX5_undo, ekX5_undo, by decide⟩
theorem mkX5_count : mok 95 := ⟨wb4 (i := 89) rfl rfl, wb1 (i := 1) rfl rfl, ⟨wb4 (i := 87) rfl rfl, wb4 (i := 88) rfl rfl⟩, by decide +kernel, by decide +kernel, rfl, chX5_count, ekX5_count, by decide⟩
theorem mkX5_isSinger : mok 96 := ⟨wb2 (i := 225) rfl rfl, wb1 (i := 1) rfl rfl, ⟨wb2 (i := 224) rfl rfl, wbP (i := 12) rfl⟩, by decide +kernel, by decide +kernel, rfl, chX5_isSinger, ekX5_isSinger, by decide⟩
theorem mkX5_isStone : mok 97 := ⟨wb3 (i := 66) rfl rfl, wb1 (i := 1) rfl rfl, ⟨wb3 (i := 65) rfl rfl, wbP (i := 15) rfl⟩, by decide +kernel, by decide +kernel, rfl, chX5_isStone, ekX5_isStone, by decide⟩
theorem mkX5_hasBit : mok 98 := ⟨wb3 (i := 28) rfl rfl, wb1 (i := 1) rfl rfl, wb3 (i := 27) rfl rfl, by decide +kernel, by decide +kernel, rfl, chX5_hasBit, ekX5_hasBit, by decide⟩
theorem mkX5_bestNote : mok 99 := ⟨wb3 (i := 136) rfl rfl, wb1 (i := 1) rfl rfl, ⟨wb3 (i := 135) rfl rfl, wbP (i := 16) rfl⟩, by decide +kernel, by decide +kernel, rfl, chX5_bestNote, ekX5_bestNote, by decide⟩
theorem mkX5_measureChords : mok 100 := ⟨wb3 (i := 145) rfl rfl, wb1 (i := 1) rfl rfl, ⟨wb3 (i := 144) rfl rfl, wbP (i := 17) rfl⟩, by decide +kernel, by decide +kernel, rfl, chX5_measureChords, ekX5_measureChords, by decide⟩
theorem mkX5_chordNote : mok 101 := ⟨wb3 (i := 149) rfl rfl, wb1 (i := 1) rfl rfl, ⟨wb3 (i := 148) rfl rfl, wbP (i := 18) rfl⟩, by decide +kernel, by decide +kernel, rfl, chX5_chordNote, ekX5_chordNote, by decide⟩
theorem mkX5_bestChord : mok 102 := ⟨wb3 (i := 157) rfl rfl, wb1 (i := 1) rfl rfl, ⟨wb3 (i := 156) rfl rfl, wbP (i := 19) rfl⟩, by decide +kernel, by decide +kernel, rfl, chX5_bestChord, ekX5_bestChord, by decide⟩
theorem mkX5_singChord : mok 103 := ⟨wb3 (i := 161) rfl rfl, wb1 (i := 1) rfl rfl, ⟨wb3 (i := 160) rfl rfl, wbP (i := 20) rfl⟩, by decide +kernel, by decide +kernel, rfl, chX5_singChord, ekX5_singChord, by decide⟩
theorem mkX5_looseOf : mok 104 := ⟨wb3 (i := 179) rfl rfl, wb1 (i := 1) rfl rfl, ⟨wb3 (i := 178) rfl rfl, wbP (i := 22) rfl⟩, by decide +kernel, by decide +kernel, rfl, chX5_looseOf, ekX5_looseOf, by decide⟩
theorem mkX5_spareBits : mok 105 := ⟨wb3 (i := 175) rfl rfl, wb1 (i := 1) rfl rfl, ⟨wb3 (i := 174) rfl rfl, wbP (i := 21) rfl⟩, by decide +kernel, by decide +kernel, rfl, chX5_spareBits, ekX5_spareBits, by decide⟩
theorem mkX5_setShift : mok 106 := ⟨wb3 (i := 188) rfl rfl, wb1 (i := 1) rfl rfl, ⟨wb3 (i := 187) rfl rfl, wbP (i := 23) rfl⟩, by decide +kernel, by decide +kernel, rfl, chX5_setShift, ekX5_setShift, by decide⟩
theorem mkX5_isDustBy : mok 107 := ⟨wb4 (i := 2) rfl rfl, wb1 (i := 1) rfl rfl, ⟨wb4 (i := 1) rfl rfl, wbP (i := 25) rfl⟩, by decide +kernel, by decide +kernel, rfl, chX5_isDustBy, ekX5_isDustBy, by decide⟩
theorem mkX5_sortHanging : mok 108 := ⟨wb3 (i := 217) rfl rfl, wb1 (i := 1) rfl rfl, ⟨wb3 (i := 216) rfl rfl, wbP (i := 24) rfl⟩, by decide +kernel, by decide +kernel, rfl, chX5_sortHanging, ekX5_sortHanging, by decide⟩
theorem mkX5_inLowestTerms : mok 109 := ⟨wb4 (i := 15) rfl rfl, wb1 (i := 1) rfl rfl, wb4 (i := 14) rfl rfl, by decide +kernel, by decide +kernel, rfl, chX5_inLowestTerms, ekX5_inLowestTerms, by decide⟩
theorem mkX5_commonDivisor : mok 110 := ⟨wb4 (i := 19) rfl rfl, wb1 (i := 1) rfl rfl, wb4 (i := 18) rfl rfl, by decide +kernel, by decide +kernel, rfl, chX5_commonDivisor, ekX5_commonDivisor, by decide⟩
theorem mkX6_in : mok 111 := ⟨wb4 (i := 172) rfl rfl, wb1 (i := 7) rfl rfl, wb4 (i := 171) rfl rfl, by decide +kernel, by decide +kernel, rfl, chX6_in, ekX6_in, by decide⟩
theorem mkX6_isSinger : mok 112 := ⟨wb5 (i := 4) rfl rfl, wb1 (i := 7) rfl rfl, ⟨wb5 (i := 3) rfl rfl, wbP (i := 40) rfl⟩, by decide +kernel, by decide +kernel, rfl, chX6_isSinger, ekX6_isSinger, by decide⟩
theorem mkX6_isStone : mok 113 := ⟨wb5 (i := 75) rfl rfl, wb1 (i := 7) rfl rfl, ⟨wb5 (i := 74) rfl rfl, wbP (i := 52) rfl⟩, by decide +kernel, by decide +kernel, rfl, chX6_isStone, ekX6_isStone, by decide⟩
theorem mkX6_doesSing : mok 114 := ⟨wb5 (i := 8) rfl rfl, wb1 (i := 7) rfl rfl, ⟨wb5 (i := 7) rfl rfl, wbP (i := 41) rfl⟩, by decide +kernel, by decide +kernel, rfl, chX6_doesSing, ekX6_doesSing, by decide⟩
theorem mkX6_keeps : mok 115 := ⟨wb5 (i := 127) rfl rfl, wb1 (i := 7) rfl rfl, ⟨wb5 (i := 126) rfl rfl, wbP (i := 60) rfl⟩, by decide +kernel, by decide +kernel, rfl, chX6_keeps, ekX6_keeps, by decide⟩
theorem mkX6_goesBack : mok 116 := ⟨wb5 (i := 131) rfl rfl, wb1 (i := 7) rfl rfl, ⟨wb5 (i := 130) rfl rfl, wbP (i := 61) rfl⟩, by decide +kernel, by decide +kernel, rfl, chX6_goesBack, ekX6_goesBack, by decide⟩
theorem mkX6_feed : mok 117 := ⟨wb4 (i := 169) rfl rfl, wb1 (i := 7) rfl rfl, ⟨wb4 (i := 167) rfl rfl, wb4 (i := 168) rfl rfl⟩, by decide +kernel, by decide +kernel, rfl, chX6_feed, ekX6_feed, by decide⟩
theorem mkX6_here : mok 118 := ⟨wb4 (i := 184) rfl rfl, wb1 (i := 7) rfl rfl, ⟨wb4 (i := 183) rfl rfl, wbP (i := 29) rfl⟩, by decide +kernel, by decide +kernel, rfl, chX6_here, ekX6_here, by decide⟩
theorem mkX6_must : mok 119 := ⟨wb4 (i := 199) rfl rfl, wb1 (i := 7) rfl rfl, ⟨wb4 (i := 198) rfl rfl, wbP (i := 32) rfl⟩, by decide +kernel, by decide +kernel, rfl, chX6_must, ekX6_must, by decide⟩
theorem mkX6_spells : mok 120 := ⟨wb4 (i := 193) rfl rfl, wb1 (i := 7) rfl rfl, ⟨wb4 (i := 192) rfl rfl, wbP (i := 31) rfl⟩, by decide +kernel, by decide +kernel, rfl, chX6_spells, ekX6_spells, by decide⟩
theorem mkX6_figures : mok 121 := ⟨wb4 (i := 203) rfl rfl, wb1 (i := 7) rfl rfl, ⟨wb4 (i := 202) rfl rfl, wbP (i := 33) rfl⟩, by decide +kernel, by decide +kernel, rfl, chX6_figures, ekX6_figures, by decide⟩
theorem mkX6_among : mok 122 := ⟨wb4 (i := 230) rfl rfl, wb1 (i := 7) rfl rfl, ⟨wb4 (i := 229) rfl rfl, wbP (i := 39) rfl⟩, by decide +kernel, by decide +kernel, rfl, chX6_among, ekX6_among, by decide⟩
theorem mkX6_emits : mok 123 := ⟨wb4 (i := 225) rfl rfl, wb1 (i := 7) rfl rfl, ⟨wb4 (i := 224) rfl rfl, wbP (i := 38) rfl⟩, by decide +kernel, by decide +kernel, rfl, chX6_emits, ekX6_emits, by decide⟩
theorem mkX6_factor : mok 124 := ⟨wb4 (i := 221) rfl rfl, wb1 (i := 7) rfl rfl, ⟨wb4 (i := 220) rfl rfl, wbP (i := 37) rfl⟩, by decide +kernel, by decide +kernel, rfl, chX6_factor, ekX6_factor, by decide⟩
theorem mkX6_every : mok 125 := ⟨wb4 (i := 217) rfl rfl, wb1 (i := 7) rfl rfl, ⟨wb4 (i := 216) rfl rfl, wbP (i := 36) rfl⟩, by decide +kernel, by decide +kernel, rfl, chX6_every, ekX6_every, by decide⟩
theorem mkX6_some : mok 126 := ⟨wb4 (i := 213) rfl rfl, wb1 (i := 7) rfl rfl, ⟨wb4 (i := 212) rfl rfl, wbP (i := 35) rfl⟩, by decide +kernel, by decide +kernel, rfl, chX6_some, ekX6_some, by decide⟩
theorem mkX6_much : mok 127 := ⟨wb4 (i := 209) rfl rfl, wb1 (i := 7) rfl rfl, ⟨wb4 (i := 208) rfl rfl, wbP (i := 34) rfl⟩, by decide +kernel, by decide +kernel, rfl, chX6_much, ekX6_much, by decide⟩
theorem mkX6_tellsHere : mok 128 := ⟨wb4 (i := 189) rfl rfl, wb1 (i := 7) rfl rfl, ⟨wb4 (i := 188) rfl rfl, wbP (i := 30) rfl⟩, by decide +kernel, by decide +kernel, rfl, chX6_tellsHere, ekX6_tellsHere, by decide⟩
theorem mkX6_clauseHere : mok 129 := ⟨wb4 (i := 180) rfl rfl, wb1 (i := 7) rfl rfl, ⟨wb4 (i := 179) rfl rfl, wbP (i := 28) rfl⟩, by decide +kernel, by decide +kernel, rfl, chX6_clauseHere, ekX6_clauseHere, by decide⟩
theorem mkX6_setting : mok 130 := ⟨wb4 (i := 176) rfl rfl, wb1 (i := 7) rfl rfl, ⟨wb4 (i := 174) rfl rfl, wb4 (i := 175) rfl rfl⟩, by decide +kernel, by decide +kernel, rfl, chX6_setting, ekX6_setting, by decide⟩
theorem mkX6_tellsOf : mok 131 := ⟨wb5 (i := 24) rfl rfl, wb1 (i := 7) rfl rfl, ⟨wb5 (i := 23) rfl rfl, wbP (i := 45) rfl⟩, by decide +kernel, by decide +kernel, rfl, chX6_tellsOf, ekX6_tellsOf, by decide⟩
theorem mkX6_looks : mok 132 := ⟨wb5 (i := 20) rfl rfl, wb1 (i := 7) rfl rfl, ⟨wb5 (i := 19) rfl rfl, wbP (i := 44) rfl⟩, by decide +kernel, by decide +kernel, rfl, chX6_looks, ekX6_looks, by decide⟩
theorem mkX6_strengthOf : mok 133 := ⟨wb5 (i := 16) rfl rfl, wb1 (i := 7) rfl rfl, ⟨wb5 (i := 15) rfl rfl, wbP (i := 43) rfl⟩, by decide +kernel, by decide +kernel, rfl, chX6_strengthOf, ekX6_strengthOf, by decide⟩
theorem mkX6_forceOf : mok 134 := ⟨wb5 (i := 12) rfl rfl, wb1 (i := 7) rfl rfl, ⟨wb5 (i := 11) rfl rfl, wbP (i := 42) rfl⟩, by decide +kernel, by decide +kernel, rfl, chX6_forceOf, ekX6_forceOf, by decide⟩
theorem mkX6_isTune : mok 135 := ⟨wb5 (i := 43) rfl rfl, wb1 (i := 7) rfl rfl, wb5 (i := 42) rfl rfl, by decide +kernel, by decide +kernel, rfl, chX6_isTune, ekX6_isTune, by decide⟩
theorem mkX6_looksForForces : mok 136 := ⟨wb5 (i := 28) rfl rfl, wb1 (i := 7) rfl rfl, ⟨wb5 (i := 27) rfl rfl, wbP (i := 46) rfl⟩, by decide +kernel, by decide +kernel, rfl, chX6_looksForForces, ekX6_looksForForces, by decide⟩
theorem mkX6_isOf : mok 137 := ⟨wb5 (i := 36) rfl rfl, wb1 (i := 7) rfl rfl, ⟨wb5 (i := 35) rfl rfl, wbP (i := 48) rfl⟩, by decide +kernel, by decide +kernel, rfl, chX6_isOf, ekX6_isOf, by decide⟩
theorem mkX6_tunesOf : mok 138 := ⟨wb5 (i := 40) rfl rfl, wb1 (i := 7) rfl rfl, ⟨wb5 (i := 39) rfl rfl, wbP (i := 49) rfl⟩, by decide +kernel, by decide +kernel, rfl, chX6_tunesOf, ekX6_tunesOf, by decide⟩
theorem mkX6_bearsOf : mok 139 := ⟨wb5 (i := 32) rfl rfl, wb1 (i := 7) rfl rfl, ⟨wb5 (i := 31) rfl rfl, wbP (i := 47) rfl⟩, by decide +kernel, by decide +kernel, rfl, chX6_bearsOf, ekX6_bearsOf, by decide⟩
theorem mkX6_allBy : mok 140 := ⟨wb5 (i := 83) rfl rfl, wb1 (i := 7) rfl rfl, ⟨wb5 (i := 82) rfl rfl, wbP (i := 54) rfl⟩, by decide +kernel, by decide +kernel, rfl, chX6_allBy, ekX6_allBy, by decide⟩
theorem mkX6_singing : mok 141 := ⟨wb5 (i := 176) rfl rfl, wb1 (i := 7) rfl rfl, ⟨wb5 (i := 175) rfl rfl, wbP (i := 66) rfl⟩, by decide +kernel, by decide +kernel, rfl, chX6_singing, ekX6_singing, by decide⟩
theorem mkX6_allNow : mok 142 := ⟨wb5 (i := 79) rfl rfl, wb1 (i := 7) rfl rfl, ⟨wb5 (i := 78) rfl rfl, wbP (i := 53) rfl⟩, by decide +kernel, by decide +kernel, rfl, chX6_allNow, ekX6_allNow, by decide⟩
theorem mkX6_doesHang : mok 143 := ⟨wb5 (i := 91) rfl rfl, wb1 (i := 7) rfl rfl, ⟨wb5 (i := 90) rfl rfl, wbP (i := 56) rfl⟩, by decide +kernel, by decide +kernel, rfl, chX6_doesHang, ekX6_doesHang, by decide⟩
theorem mkX6_looseBy : mok 144 := ⟨wb5 (i := 87) rfl rfl, wb1 (i := 7) rfl rfl, ⟨wb5 (i := 86) rfl rfl, wbP (i := 55) rfl⟩, by decide +kernel, by decide +kernel, rfl, chX6_looseBy, ekX6_looseBy, by decide⟩
theorem mkX6_fallenMany : mok 145 := ⟨wb5 (i := 103) rfl rfl, wb1 (i := 7) rfl rfl, ⟨wb5 (i := 102) rfl rfl, wbP (i := 57) rfl⟩, by decide +kernel, by decide +kernel, rfl, chX6_fallenMany, ekX6_fallenMany, by decide⟩
theorem mkX6_sizeOf : mok 146 := ⟨wb5 (i := 119) rfl rfl, wb1 (i := 7) rfl rfl, wb5 (i := 118) rfl rfl, by decide +kernel, by decide +kernel, rfl, chX6_sizeOf, ekX6_sizeOf, by decide⟩
theorem mkX6_hangingWeight : mok 147 := ⟨wb5 (i := 213) rfl rfl, wb1 (i := 7) rfl rfl, ⟨wb5 (i := 212) rfl rfl, wbP (i := 70) rfl⟩, by decide +kernel, by decide +kernel, rfl, chX6_hangingWeight, ekX6_hangingWeight, by decide⟩
theorem mkX6_singer : mok 148 := ⟨wb4 (i := 236) rfl rfl, wb1 (i := 7) rfl rfl, ⟨wb4 (i := 234) rfl rfl, wb4 (i := 235) rfl rfl⟩, by decide +kernel, by decide +kernel, rfl, chX6_singer, ekX6_singer, by decide⟩
theorem mkX6_highOf : mok 149 := ⟨wb5 (i := 59) rfl rfl, wb1 (i := 7) rfl rfl, ⟨wb5 (i := 58) rfl rfl, wbP (i := 51) rfl⟩, by decide +kernel, by decide +kernel, rfl, chX6_highOf, ekX6_highOf, by decide⟩
theorem mkX6_canSing : mok 150 := ⟨wb5 (i := 55) rfl rfl, wb1 (i := 7) rfl rfl, ⟨wb5 (i := 54) rfl rfl, wbP (i := 50) rfl⟩, by decide +kernel, by decide +kernel, rfl, chX6_canSing, ekX6_canSing, by decide⟩
theorem mkX6_of : mok 151 := ⟨wb5 (i := 0) rfl rfl, wb1 (i := 7) rfl rfl, ⟨wb4 (i := 238) rfl rfl, wb4 (i := 239) rfl rfl⟩, by decide +kernel, by decide +kernel, rfl, chX6_of, ekX6_of, by decide⟩
theorem mkX6_row : mok 152 := ⟨wb5 (i := 47) rfl rfl, wb1 (i := 7) rfl rfl, ⟨wb5 (i := 45) rfl rfl, wb5 (i := 46) rfl rfl⟩, by decide +kernel, by decide +kernel, rfl, chX6_row, ekX6_row, by decide⟩
theorem mkX6_sing : mok 153 := ⟨wb5 (i := 51) rfl rfl, wb1 (i := 7) rfl rfl, ⟨wb5 (i := 49) rfl rfl, wb5 (i := 50) rfl rfl⟩, by decide +kernel, by decide +kernel, rfl, chX6_sing, ekX6_sing, by decide⟩
theorem mkX6_tire : mok 154 := ⟨wb5 (i := 63) rfl rfl, wb1 (i := 7) rfl rfl, ⟨wb5 (i := 61) rfl rfl, wb5 (i := 62) rfl rfl⟩, by decide +kernel, by decide +kernel, rfl, chX6_tire, ekX6_tire, by decide⟩
theorem mkX6_stone : mok 155 := ⟨wb5 (i := 67) rfl rfl, wb1 (i := 7) rfl rfl, ⟨wb5 (i := 65) rfl rfl, wb5 (i := 66) rfl rfl⟩, by decide +kernel, by decide +kernel, rfl, chX6_stone, ekX6_stone, by decide⟩
theorem mkX6_at : mok 156 := ⟨wb5 (i := 71) rfl rfl, wb1 (i := 7) rfl rfl, ⟨wb5 (i := 69) rfl rfl, wb5 (i := 70) rfl rfl⟩, by decide +kernel, by decide +kernel, rfl, chX6_at, ekX6_at, by decide⟩
theorem mkX6_prop : mok 157 := ⟨wb5 (i := 95) rfl rfl, wb1 (i := 7) rfl rfl, ⟨wb5 (i := 93) rfl rfl, wb5 (i := 94) rfl rfl⟩, by decide +kernel, by decide +kernel, rfl, chX6_prop, ekX6_prop, by decide⟩
theorem mkX6_told : mok 158 := ⟨wb5 (i := 99) rfl rfl, wb1 (i := 7) rfl rfl, ⟨wb5 (i := 97) rfl rfl, wb5 (i := 98) rfl rfl⟩, by decide +kernel, by decide +kernel, rfl, chX6_told, ekX6_told, by decide⟩
theorem mkX6_goesBy : mok 159 := ⟨wb5 (i := 116) rfl rfl, wb1 (i := 7) rfl rfl, ⟨wb5 (i := 115) rfl rfl, wbP (i := 59) rfl⟩, by decide +kernel, by decide +kernel, rfl, chX6_goesBy, ekX6_goesBy, by decide⟩
theorem mkX6_goes : mok 160 := ⟨wb5 (i := 112) rfl rfl, wb1 (i := 7) rfl rfl, ⟨wb5 (i := 111) rfl rfl, wbP (i := 58) rfl⟩, by decide +kernel, by decide +kernel, rfl, chX6_goes, ekX6_goes, by decide⟩
theorem mkX6_beat : mok 161 := ⟨wb5 (i := 107) rfl rfl, wb1 (i := 7) rfl rfl, ⟨wb5 (i := 105) rfl rfl, wb5 (i := 106) rfl rfl⟩, by decide +kernel, by decide +kernel, rfl, chX6_beat, ekX6_beat, by decide⟩
theorem mkX6_on : mok 162 := ⟨wb5 (i := 123) rfl rfl, wb1 (i := 7) rfl rfl, ⟨wb5 (i := 121) rfl rfl, wb5 (i := 122) rfl rfl⟩, by decide +kernel, by decide +kernel, rfl, chX6_on, ekX6_on, by decide⟩
theorem mkX6_steady : mok 163 := ⟨wb5 (i := 135) rfl rfl, wb1 (i := 7) rfl rfl, ⟨wb5 (i := 133) rfl rfl, wb5 (i := 134) rfl rfl⟩, by decide +kernel, by decide +kernel, rfl, chX6_steady, ekX6_steady, by decide⟩
theorem mkX6_looksForNote : mok 164 := ⟨wb5 (i := 143) rfl rfl, wb1 (i := 7) rfl rfl, ⟨wb5 (i := 142) rfl rfl, wbP (i := 62) rfl⟩, by decide +kernel, by decide +kernel, rfl, chX6_looksForNote, ekX6_looksForNote, by decide⟩
theorem mkX6_best : mok 165 := ⟨wb5 (i := 139) rfl rfl, wb1 (i := 7) rfl rfl, ⟨wb5 (i := 137) rfl rfl, wb5 (i := 138) rfl rfl⟩, by decide +kernel, by decide +kernel, rfl, chX6_best, ekX6_best, by decide⟩
theorem mkX6_noteAbove : mok 166 := ⟨wb5 (i := 151) rfl rfl, wb1 (i := 7) rfl rfl, ⟨wb5 (i := 150) rfl rfl, wbP (i := 63) rfl⟩, by decide +kernel, by decide +kernel, rfl, chX6_noteAbove, ekX6_noteAbove, by decide⟩
theorem mkX6_chordsFrom : mok 167 := ⟨wb5 (i := 155) rfl rfl, wb1 (i := 7) rfl rfl, ⟨wb5 (i := 154) rfl rfl, wbP (i := 64) rfl⟩, by decide +kernel, by decide +kernel, rfl, chX6_chordsFrom, ekX6_chordsFrom, by decide⟩
theorem mkX6_chord : mok 168 := ⟨wb5 (i := 147) rfl rfl, wb1 (i := 7) rfl rfl, ⟨wb5 (i := 145) rfl rfl, wb5 (i := 146) rfl rfl⟩, by decide +kernel, by decide +kernel, rfl, chX6_chord, ekX6_chord, by decide⟩
theorem mkX6_needed : mok 169 := ⟨wb5 (i := 159) rfl rfl, wb1 (i := 7) rfl rfl, ⟨wb5 (i := 157) rfl rfl, wb5 (i := 158) rfl rfl⟩, by decide +kernel, by decide +kernel, rfl, chX6_needed, ekX6_needed, by decide⟩
theorem mkX6_looseMany : mok 170 := ⟨wb5 (i := 168) rfl rfl, wb1 (i := 7) rfl rfl, ⟨wb5 (i := 167) rfl rfl, wbP (i := 65) rfl⟩, by decide +kernel, by decide +kernel, rfl, chX6_looseMany, ekX6_looseMany, by decide⟩
theorem mkX6_spare : mok 171 := ⟨wb5 (i := 164) rfl rfl, wb1 (i := 7) rfl rfl, ⟨wb5 (i := 162) rfl rfl, wb5 (i := 163) rfl rfl⟩, by decide +kernel, by decide +kernel, rfl, chX6_spare, ekX6_spare, by decide⟩
theorem mkX6_fewestOf : mok 172 := ⟨wb5 (i := 180) rfl rfl, wb1 (i := 7) rfl rfl, ⟨wb5 (i := 179) rfl rfl, wbP (i := 67) rfl⟩, by decide +kernel, by decide +kernel, rfl, chX6_fewestOf, ekX6_fewestOf, by decide⟩
theorem mkX6_shift : mok 173 := ⟨wb5 (i := 172) rfl rfl, wb1 (i := 7) rfl rfl, ⟨wb5 (i := 170) rfl rfl, wb5 (i := 171) rfl rfl⟩, by decide +kernel, by decide +kernel, rfl, chX6_shift, ekX6_shift, by decide⟩
theorem mkX6_ill : mok 174 := ⟨wb5 (i := 184) rfl rfl, wb1 (i := 7) rfl rfl, ⟨wb5 (i := 182) rfl rfl, wb5 (i := 183) rfl rfl⟩, by decide +kernel, by decide +kernel, rfl, chX6_ill, ekX6_ill, by decide⟩
theorem mkX6_goesRound : mok 175 := ⟨wb5 (i := 192) rfl rfl, wb1 (i := 7) rfl rfl, ⟨wb5 (i := 191) rfl rfl, wbP (i := 68) rfl⟩, by decide +kernel, by decide +kernel, rfl, chX6_goesRound, ekX6_goesRound, by decide⟩
theorem mkX6_canon : mok 176 := ⟨wb5 (i := 188) rfl rfl, wb1 (i := 7) rfl rfl, ⟨wb5 (i := 186) rfl rfl, wb5 (i := 187) rfl rfl⟩, by decide +kernel, by decide +kernel, rfl, chX6_canon, ekX6_canon, by decide⟩
theorem mkX6_weightOf : mok 177 := ⟨wb5 (i := 200) rfl rfl, wb1 (i := 7) rfl rfl, ⟨wb5 (i := 199) rfl rfl, wbP (i := 69) rfl⟩, by decide +kernel, by decide +kernel, rfl, chX6_weightOf, ekX6_weightOf, by decide⟩
theorem mkX6_props : mok 178 := ⟨wb5 (i := 196) rfl rfl, wb1 (i := 7) rfl rfl, ⟨wb5 (i := 194) rfl rfl, wb5 (i := 195) rfl rfl⟩, by decide +kernel, by decide +kernel, rfl, chX6_props, ekX6_props, by decide⟩
theorem mkX6_critical : mok 179 := ⟨wb5 (i := 204) rfl rfl, wb1 (i := 7) rfl rfl, ⟨wb5 (i := 202) rfl rfl, wb5 (i := 203) rfl rfl⟩, by decide +kernel, by decide +kernel, rfl, chX6_critical, ekX6_critical, by decide⟩
theorem mkX6_load : mok 180 := ⟨wb5 (i := 209) rfl rfl, wb1 (i := 7) rfl rfl, ⟨wb5 (i := 207) rfl rfl, wb5 (i := 208) rfl rfl⟩, by decide +kernel, by decide +kernel, rfl, chX6_load, ekX6_load, by decide⟩
theorem mkX6_dust : mok 181 := ⟨wb5 (i := 217) rfl rfl, wb1 (i := 7) rfl rfl, ⟨wb5 (i := 215) rfl rfl, wb5 (i := 216) rfl rfl⟩, by decide +kernel, by decide +kernel, rfl, chX6_dust, ekX6_dust, by decide⟩
theorem mkX6_isDust : mok 182 := ⟨wb5 (i := 229) rfl rfl, wb1 (i := 7) rfl rfl, ⟨wb5 (i := 228) rfl rfl, wbP (i := 72) rfl⟩, by decide +kernel, by decide +kernel, rfl, chX6_isDust, ekX6_isDust, by decide⟩
theorem mkX6_isFlat : mok 183 := ⟨wb5 (i := 225) rfl rfl, wb1 (i := 7) rfl rfl, ⟨wb5 (i := 224) rfl rfl, wbP (i := 71) rfl⟩, by decide +kernel, by decide +kernel, rfl, chX6_isFlat, ekX6_isFlat, by decide⟩
theorem mkX6_flat : mok 184 := ⟨wb5 (i := 221) rfl rfl, wb1 (i := 7) rfl rfl, ⟨wb5 (i := 219) rfl rfl, wb5 (i := 220) rfl rfl⟩, by decide +kernel, by decide +kernel, rfl, chX6_flat, ekX6_flat, by decide⟩
theorem mkX6_lightest : mok 185 := ⟨wb5 (i := 237) rfl rfl, wb1 (i := 7) rfl rfl, ⟨wb5 (i := 236) rfl rfl, wbP (i := 73) rfl⟩, by decide +kernel, by decide +kernel, rfl, chX6_lightest, ekX6_lightest, by decide⟩
theorem mkX6_order : mok 186 := ⟨wb5 (i := 233) rfl rfl, wb1 (i := 7) rfl rfl, ⟨wb5 (i := 231) rfl rfl, wb5 (i := 232) rfl rfl⟩, by decide +kernel, by decide +kernel, rfl, chX6_order, ekX6_order, by decide⟩
theorem mkX6_lowest : mok 187 := ⟨wb6 (i := 5) rfl rfl, wb1 (i := 7) rfl rfl, wb6 (i := 4) rfl rfl, by decide +kernel, by decide +kernel, rfl, chX6_lowest, ekX6_lowest, by decide⟩
theorem mkX6_odds : mok 188 := ⟨wb6 (i := 1) rfl rfl, wb1 (i := 7) rfl rfl, ⟨wb5 (i := 239) rfl rfl, wb6 (i := 0) rfl rfl⟩, by decide +kernel, by decide +kernel, rfl, chX6_odds, ekX6_odds, by decide⟩
theorem mkX6_mean : mok 189 := ⟨wb6 (i := 9) rfl rfl, wb1 (i := 7) rfl rfl, ⟨wb6 (i := 7) rfl rfl, wb6 (i := 8) rfl rfl⟩, by decide +kernel, by decide +kernel, rfl, chX6_mean, ekX6_mean, by decide⟩
theorem mkX6_wage : mok 190 := ⟨wb6 (i := 13) rfl rfl, wb1 (i := 7) rfl rfl, ⟨wb6 (i := 11) rfl rfl, wb6 (i := 12) rfl rfl⟩, by decide +kernel, by decide +kernel, rfl, chX6_wage, ekX6_wage, by decide⟩
theorem mkX6_plan : mok 191 := ⟨wb6 (i := 17) rfl rfl, wb1 (i := 7) rfl rfl, ⟨wb6 (i := 15) rfl rfl, wb6 (i := 16) rfl rfl⟩, by decide +kernel, by decide +kernel, rfl, chX6_plan, ekX6_plan, by decide⟩
theorem mkX6_planned : mok 192 := ⟨wb6 (i := 21) rfl rfl, wb1 (i := 7) rfl rfl, ⟨wb6 (i := 19) rfl rfl, wb6 (i := 20) rfl rfl⟩, by decide +kernel, by decide +kernel, rfl, chX6_planned, ekX6_planned, by decide⟩
theorem mkX6_book : mok 193 := ⟨wb6 (i := 25) rfl rfl, wb1 (i := 7) rfl rfl, ⟨wb6 (i := 23) rfl rfl, wb6 (i := 24) rfl rfl⟩, by decide +kernel, by decide +kernel, rfl, chX6_book, ekX6_book, by decide⟩
theorem mkX6_looked : mok 194 := ⟨wb6 (i := 29) rfl rfl, wb1 (i := 7) rfl rfl, ⟨wb6 (i := 27) rfl rfl, wb6 (i := 28) rfl rfl⟩, by decide +kernel, by decide +kernel, rfl, chX6_looked, ekX6_looked, by decide⟩
theorem mkX6_ranBody : mok 195 := ⟨wb6 (i := 44) rfl rfl, wb1 (i := 7) rfl rfl, ⟨wb6 (i := 43) rfl rfl, wbP (i := 75) rfl⟩, by decide +kernel, by decide +kernel, rfl, chX6_ranBody, ekX6_ranBody, by decide⟩
theorem mkX6_isUnder : mok 196 := ⟨wb6 (i := 40) rfl rfl, wb1 (i := 7) rfl rfl, wb6 (i := 39) rfl rfl, by decide +kernel, by decide +kernel, rfl, chX6_isUnder, ekX6_isUnder, by decide⟩
theorem mkX6_plainSings : mok 197 := ⟨wb6 (i := 48) rfl rfl, wb1 (i := 7) rfl rfl, ⟨wb6 (i := 47) rfl rfl, wbP (i := 76) rfl⟩, by decide +kernel, by decide +kernel, rfl, chX6_plainSings, ekX6_plainSings, by decide⟩
theorem mkX6_singsActs : mok 198 := ⟨wb6 (i := 37) rfl rfl, wb1 (i := 7) rfl rfl, ⟨wb6 (i := 36) rfl rfl, wbP (i := 74) rfl⟩, by decide +kernel, by decide +kernel, rfl, chX6_singsActs, ekX6_singsActs, by decide⟩
theorem mkX6_plainBears : mok 199 := ⟨wb6 (i := 56) rfl rfl, wb1 (i := 7) rfl rfl, ⟨wb6 (i := 55) rfl rfl, wbP (i := 78) rfl⟩, by decide +kernel, by decide +kernel, rfl, chX6_plainBears, ekX6_plainBears, by decide⟩
theorem mkX6_bearsActs : mok 200 := ⟨wb6 (i := 52) rfl rfl, wb1 (i := 7) rfl rfl, ⟨wb6 (i := 51) rfl rfl, wbP (i := 77) rfl⟩, by decide +kernel, by decide +kernel, rfl, chX6_bearsActs, ekX6_bearsActs, by decide⟩
theorem mkX6_plainTells : mok 201 := ⟨wb6 (i := 64) rfl rfl, wb1 (i := 7) rfl rfl, ⟨wb6 (i := 63) rfl rfl, wbP (i := 80) rfl⟩, by decide +kernel, by decide +kernel, rfl, chX6_plainTells, ekX6_plainTells, by decide⟩
theorem mkX6_tellsActs : mok 202 := ⟨wb6 (i := 60) rfl rfl, wb1 (i := 7) rfl rfl, ⟨wb6 (i := 59) rfl rfl, wbP (i := 79) rfl⟩, by decide +kernel, by decide +kernel, rfl, chX6_tellsActs, ekX6_tellsActs, by decide⟩
theorem mkX6_act : mok 203 := ⟨wb6 (i := 33) rfl rfl, wb1 (i := 7) rfl rfl, ⟨wb6 (i := 31) rfl rfl, wb6 (i := 32) rfl rfl⟩, by decide +kernel, by decide +kernel, rfl, chX6_act, ekX6_act, by decide⟩
theorem mkX6_trace : mok 204 := ⟨wb6 (i := 68) rfl rfl, wb1 (i := 7) rfl rfl, ⟨wb6 (i := 66) rfl rfl, wb6 (i := 67) rfl rfl⟩, by decide +kernel, by decide +kernel, rfl, chX6_trace, ekX6_trace, by decide⟩
theorem mkX6_as : mok 205 := ⟨wb6 (i := 72) rfl rfl, wb1 (i := 7) rfl rfl, ⟨wb6 (i := 70) rfl rfl, wb6 (i := 71) rfl rfl⟩, by decide +kernel, by decide +kernel, rfl, chX6_as, ekX6_as, by decide⟩
theorem mkX6_image : mok 206 := ⟨wb6 (i := 76) rfl rfl, wb1 (i := 7) rfl rfl, ⟨wb6 (i := 74) rfl rfl, wb6 (i := 75) rfl rfl⟩, by decide +kernel, by decide +kernel, rfl, chX6_image, ekX6_image, by decide⟩
theorem mkX6_undo : mok 207 := ⟨wb6 (i := 80) rfl rfl, wb1 (i := 7) rfl rfl, ⟨wb6 (i := 78) rfl rfl, wb6 (i := 79) rfl rfl⟩, by decide +kernel, by decide +kernel, rfl, chX6_undo, ekX6_undo, by decide⟩
theorem mkX6_count : mok 208 := ⟨wb6 (i := 84) rfl rfl, wb1 (i := 7) rfl rfl, ⟨wb6 (i := 82) rfl rfl, wb6 (i := 83) rfl rfl⟩, by decide +kernel, by decide +kernel, rfl, chX6_count, ekX6_count, by decide⟩
def jL : List Nat := List.range 209
theorem mokL_0 : ∀ j ∈ [0, 1, 2, 3, 4, 5, 6, 7, 8, 9, 10, 11, 12, 13, 14, 15, 16, 17, 18, 19, 20, 21, 22, 23, 24, 25, 26, 27, 28, 29], mok j := List.forall_mem_cons.mpr ⟨mkJ6_compare_7cf53, List.forall_mem_cons.mpr ⟨mkJ6_bitCount_0f7a4, List.forall_mem_cons.mpr ⟨mkJ0_length_8abf5, List.forall_mem_cons.mpr ⟨mkJ0_charAt_5068e, List.forall_mem_cons.mpr ⟨mkJ0_indexOf_0f7a4, List.forall_mem_cons.mpr ⟨mkJ0_indexOf_7cf53, List.forall_mem_cons.mpr ⟨mkJ0_coder_7d493, List.forall_mem_cons.mpr ⟨mkJ0_isLatin1_aae02, List.forall_mem_cons.mpr ⟨mkJ0_checkIndex_df160, List.forall_mem_cons.mpr ⟨mkJ1_charAt_3b067, List.forall_mem_cons.mpr ⟨mkJ1_canEncode_9a6ad, List.forall_mem_cons.mpr ⟨mkJ1_indexOf_4cfef, List.forall_mem_cons.mpr ⟨mkJ1_indexOfChar_4cfef, List.forall_mem_cons.mpr ⟨mkJ3_checkIndex_8e157, List.forall_mem_cons.mpr ⟨mkX0_perform, List.forall_mem_cons.mpr ⟨mkX0_callFrom, List.forall_mem_cons.mpr ⟨mkX0_runBody, List.forall_mem_cons.mpr ⟨mkX1_become, List.forall_mem_cons.mpr ⟨mkX1_addSinger, List.forall_mem_cons.mpr ⟨mkX1_addStone, List.forall_mem_cons.mpr ⟨mkX1_highOf, List.forall_mem_cons.mpr ⟨mkX1_canSing, List.forall_mem_cons.mpr ⟨mkX1_singing, List.forall_mem_cons.mpr ⟨mkX1_measure, List.forall_mem_cons.mpr ⟨mkX1_forceOf, List.forall_mem_cons.mpr ⟨mkX1_strengthOf, List.forall_mem_cons.mpr ⟨mkX1_partners, List.forall_mem_cons.mpr ⟨mkX1_bearing, List.forall_mem_cons.mpr ⟨mkX1_allOf, List.forall_mem_cons.mpr ⟨mkX1_allNow,  fun _ h => absurd h List.not_mem_nil⟩⟩⟩⟩⟩⟩⟩⟩⟩⟩⟩⟩⟩⟩⟩⟩⟩⟩⟩⟩⟩⟩⟩⟩⟩⟩⟩⟩⟩⟩
theorem mokL_1 : ∀ j ∈ [30, 31, 32, 33, 34, 35, 36, 37, 38, 39, 40, 41, 42, 43, 44, 45, 46, 47, 48, 49, 50, 51, 52, 53, 54, 55, 56, 57, 58, 59], mok j := List.forall_mem_cons.mpr ⟨mkX1_hangs, List.forall_mem_cons.mpr ⟨mkX1_sumHanging, List.forall_mem_cons.mpr ⟨mkX1_looseBits, List.forall_mem_cons.mpr ⟨mkX1_countFallen, List.forall_mem_cons.mpr ⟨mkX1_sumTired, List.forall_mem_cons.mpr ⟨mkX1_goBeat, List.forall_mem_cons.mpr ⟨mkX1_goRound, List.forall_mem_cons.mpr ⟨mkX1_keepNotes, List.forall_mem_cons.mpr ⟨mkX2_read, List.forall_mem_cons.mpr ⟨mkX2_peek, List.forall_mem_cons.mpr ⟨mkX2_take, List.forall_mem_cons.mpr ⟨mkX2_readClause, List.forall_mem_cons.mpr ⟨mkX2_readWord, List.forall_mem_cons.mpr ⟨mkX2_readRest, List.forall_mem_cons.mpr ⟨mkX2_readNumber, List.forall_mem_cons.mpr ⟨mkX2_readEither, List.forall_mem_cons.mpr ⟨mkX2_readBoth, List.forall_mem_cons.mpr ⟨mkX2_readFactor, List.forall_mem_cons.mpr ⟨mkX2_readTest, List.forall_mem_cons.mpr ⟨mkX2_indexOfNext, List.forall_mem_cons.mpr ⟨mkX3_clear, List.forall_mem_cons.mpr ⟨mkX3_addToken, List.forall_mem_cons.mpr ⟨mkX3_addClause, List.forall_mem_cons.mpr ⟨mkX3_gainOf, List.forall_mem_cons.mpr ⟨mkX3_holds, List.forall_mem_cons.mpr ⟨mkX4_become, List.forall_mem_cons.mpr ⟨mkX5_feed, List.forall_mem_cons.mpr ⟨mkX5_setting, List.forall_mem_cons.mpr ⟨mkX5_singer, List.forall_mem_cons.mpr ⟨mkX5_of,  fun _ h => absurd h List.not_mem_nil⟩⟩⟩⟩⟩⟩⟩⟩⟩⟩⟩⟩⟩⟩⟩⟩⟩⟩⟩⟩⟩⟩⟩⟩⟩⟩⟩⟩⟩⟩
theorem mokL_2 : ∀ j ∈ [60, 61, 62, 63, 64, 65, 66, 67, 68, 69, 70, 71, 72, 73, 74, 75, 76, 77, 78, 79, 80, 81, 82, 83, 84, 85, 86, 87, 88, 89], mok j := List.forall_mem_cons.mpr ⟨mkX5_row, List.forall_mem_cons.mpr ⟨mkX5_sing, List.forall_mem_cons.mpr ⟨mkX5_tire, List.forall_mem_cons.mpr ⟨mkX5_stone, List.forall_mem_cons.mpr ⟨mkX5_at, List.forall_mem_cons.mpr ⟨mkX5_prop, List.forall_mem_cons.mpr ⟨mkX5_told, List.forall_mem_cons.mpr ⟨mkX5_beat, List.forall_mem_cons.mpr ⟨mkX5_on, List.forall_mem_cons.mpr ⟨mkX5_steady, List.forall_mem_cons.mpr ⟨mkX5_best, List.forall_mem_cons.mpr ⟨mkX5_chord, List.forall_mem_cons.mpr ⟨mkX5_needed, List.forall_mem_cons.mpr ⟨mkX5_spare, List.forall_mem_cons.mpr ⟨mkX5_shift, List.forall_mem_cons.mpr ⟨mkX5_ill, List.forall_mem_cons.mpr ⟨mkX5_canon, List.forall_mem_cons.mpr ⟨mkX5_props, List.forall_mem_cons.mpr ⟨mkX5_critical, List.forall_mem_cons.mpr ⟨mkX5_load, List.forall_mem_cons.mpr ⟨mkX5_dust, List.forall_mem_cons.mpr ⟨mkX5_flat, List.forall_mem_cons.mpr ⟨mkX5_order, List.forall_mem_cons.mpr ⟨mkX5_odds, List.forall_mem_cons.mpr ⟨mkX5_mean, List.forall_mem_cons.mpr ⟨mkX5_wage, List.forall_mem_cons.mpr ⟨mkX5_plan, List.forall_mem_cons.mpr ⟨mkX5_planned, List.forall_mem_cons.mpr ⟨mkX5_book, List.forall_mem_cons.mpr ⟨mkX5_looked,  fun _ h => absurd h List.not_mem_nil⟩⟩⟩⟩⟩⟩⟩⟩⟩⟩⟩⟩⟩⟩⟩⟩⟩⟩⟩⟩⟩⟩⟩⟩⟩⟩⟩⟩⟩⟩
theorem mokL_3 : ∀ j ∈ [90, 91, 92, 93, 94, 95, 96, 97, 98, 99, 100, 101, 102, 103, 104, 105, 106, 107, 108, 109, 110, 111, 112, 113, 114, 115, 116, 117, 118, 119], mok j := List.forall_mem_cons.mpr ⟨mkX5_act, List.forall_mem_cons.mpr ⟨mkX5_trace, List.forall_mem_cons.mpr ⟨mkX5_as, List.forall_mem_cons.mpr ⟨mkX5_image, List.forall_mem_cons.mpr ⟨mkX5_undo, List.forall_mem_cons.mpr ⟨mkX5_count, List.forall_mem_cons.mpr ⟨mkX5_isSinger, List.forall_mem_cons.mpr ⟨mkX5_isStone, List.forall_mem_cons.mpr ⟨mkX5_hasBit, List.forall_mem_cons.mpr ⟨mkX5_bestNote, List.forall_mem_cons.mpr ⟨mkX5_measureChords, List.forall_mem_cons.mpr ⟨mkX5_chordNote, List.forall_mem_cons.mpr ⟨mkX5_bestChord, List.forall_mem_cons.mpr ⟨mkX5_singChord, List.forall_mem_cons.mpr ⟨mkX5_looseOf, List.forall_mem_cons.mpr ⟨mkX5_spareBits, List.forall_mem_cons.mpr ⟨mkX5_setShift, List.forall_mem_cons.mpr ⟨mkX5_isDustBy, List.forall_mem_cons.mpr ⟨mkX5_sortHanging, List.forall_mem_cons.mpr ⟨mkX5_inLowestTerms, List.forall_mem_cons.mpr ⟨mkX5_commonDivisor, List.forall_mem_cons.mpr ⟨mkX6_in, List.forall_mem_cons.mpr ⟨mkX6_isSinger, List.forall_mem_cons.mpr ⟨mkX6_isStone, List.forall_mem_cons.mpr ⟨mkX6_doesSing, List.forall_mem_cons.mpr ⟨mkX6_keeps, List.forall_mem_cons.mpr ⟨mkX6_goesBack, List.forall_mem_cons.mpr ⟨mkX6_feed, List.forall_mem_cons.mpr ⟨mkX6_here, List.forall_mem_cons.mpr ⟨mkX6_must,  fun _ h => absurd h List.not_mem_nil⟩⟩⟩⟩⟩⟩⟩⟩⟩⟩⟩⟩⟩⟩⟩⟩⟩⟩⟩⟩⟩⟩⟩⟩⟩⟩⟩⟩⟩⟩
theorem mokL_4 : ∀ j ∈ [120, 121, 122, 123, 124, 125, 126, 127, 128, 129, 130, 131, 132, 133, 134, 135, 136, 137, 138, 139, 140, 141, 142, 143, 144, 145, 146, 147, 148, 149], mok j := List.forall_mem_cons.mpr ⟨mkX6_spells, List.forall_mem_cons.mpr ⟨mkX6_figures, List.forall_mem_cons.mpr ⟨mkX6_among, List.forall_mem_cons.mpr ⟨mkX6_emits, List.forall_mem_cons.mpr ⟨mkX6_factor, List.forall_mem_cons.mpr ⟨mkX6_every, List.forall_mem_cons.mpr ⟨mkX6_some, List.forall_mem_cons.mpr ⟨mkX6_much, List.forall_mem_cons.mpr ⟨mkX6_tellsHere, List.forall_mem_cons.mpr ⟨mkX6_clauseHere, List.forall_mem_cons.mpr ⟨mkX6_setting, List.forall_mem_cons.mpr ⟨mkX6_tellsOf, List.forall_mem_cons.mpr ⟨mkX6_looks, List.forall_mem_cons.mpr ⟨mkX6_strengthOf, List.forall_mem_cons.mpr ⟨mkX6_forceOf, List.forall_mem_cons.mpr ⟨mkX6_isTune, List.forall_mem_cons.mpr ⟨mkX6_looksForForces, List.forall_mem_cons.mpr ⟨mkX6_isOf, List.forall_mem_cons.mpr ⟨mkX6_tunesOf, List.forall_mem_cons.mpr ⟨mkX6_bearsOf, List.forall_mem_cons.mpr ⟨mkX6_allBy, List.forall_mem_cons.mpr ⟨mkX6_singing, List.forall_mem_cons.mpr ⟨mkX6_allNow, List.forall_mem_cons.mpr ⟨mkX6_doesHang, List.forall_mem_cons.mpr ⟨mkX6_looseBy, List.forall_mem_cons.mpr ⟨mkX6_fallenMany, List.forall_mem_cons.mpr ⟨mkX6_sizeOf, List.forall_mem_cons.mpr ⟨mkX6_hangingWeight, List.forall_mem_cons.mpr ⟨mkX6_singer, List.forall_mem_cons.mpr ⟨mkX6_highOf,  fun _ h => absurd h List.not_mem_nil⟩⟩⟩⟩⟩⟩⟩⟩⟩⟩⟩⟩⟩⟩⟩⟩⟩⟩⟩⟩⟩⟩⟩⟩⟩⟩⟩⟩⟩⟩
theorem mokL_5 : ∀ j ∈ [150, 151, 152, 153, 154, 155, 156, 157, 158, 159, 160, 161, 162, 163, 164, 165, 166, 167, 168, 169, 170, 171, 172, 173, 174, 175, 176, 177, 178, 179], mok j := List.forall_mem_cons.mpr ⟨mkX6_canSing, List.forall_mem_cons.mpr ⟨mkX6_of, List.forall_mem_cons.mpr ⟨mkX6_row, List.forall_mem_cons.mpr ⟨mkX6_sing, List.forall_mem_cons.mpr ⟨mkX6_tire, List.forall_mem_cons.mpr ⟨mkX6_stone, List.forall_mem_cons.mpr ⟨mkX6_at, List.forall_mem_cons.mpr ⟨mkX6_prop, List.forall_mem_cons.mpr ⟨mkX6_told, List.forall_mem_cons.mpr ⟨mkX6_goesBy, List.forall_mem_cons.mpr ⟨mkX6_goes, List.forall_mem_cons.mpr ⟨mkX6_beat, List.forall_mem_cons.mpr ⟨mkX6_on, List.forall_mem_cons.mpr ⟨mkX6_steady, List.forall_mem_cons.mpr ⟨mkX6_looksForNote, List.forall_mem_cons.mpr ⟨mkX6_best, List.forall_mem_cons.mpr ⟨mkX6_noteAbove, List.forall_mem_cons.mpr ⟨mkX6_chordsFrom, List.forall_mem_cons.mpr ⟨mkX6_chord, List.forall_mem_cons.mpr ⟨mkX6_needed, List.forall_mem_cons.mpr ⟨mkX6_looseMany, List.forall_mem_cons.mpr ⟨mkX6_spare, List.forall_mem_cons.mpr ⟨mkX6_fewestOf, List.forall_mem_cons.mpr ⟨mkX6_shift, List.forall_mem_cons.mpr ⟨mkX6_ill, List.forall_mem_cons.mpr ⟨mkX6_goesRound, List.forall_mem_cons.mpr ⟨mkX6_canon, List.forall_mem_cons.mpr ⟨mkX6_weightOf, List.forall_mem_cons.mpr ⟨mkX6_props, List.forall_mem_cons.mpr ⟨mkX6_critical,  fun _ h => absurd h List.not_mem_nil⟩⟩⟩⟩⟩⟩⟩⟩⟩⟩⟩⟩⟩⟩⟩⟩⟩⟩⟩⟩⟩⟩⟩⟩⟩⟩⟩⟩⟩⟩
theorem mokL_6 : ∀ j ∈ [180, 181, 182, 183, 184, 185, 186, 187, 188, 189, 190, 191, 192, 193, 194, 195, 196, 197, 198, 199, 200, 201, 202, 203, 204, 205, 206, 207, 208], mok j := List.forall_mem_cons.mpr ⟨mkX6_load, List.forall_mem_cons.mpr ⟨mkX6_dust, List.forall_mem_cons.mpr ⟨mkX6_isDust, List.forall_mem_cons.mpr ⟨mkX6_isFlat, List.forall_mem_cons.mpr ⟨mkX6_flat, List.forall_mem_cons.mpr ⟨mkX6_lightest, List.forall_mem_cons.mpr ⟨mkX6_order, List.forall_mem_cons.mpr ⟨mkX6_lowest, List.forall_mem_cons.mpr ⟨mkX6_odds, List.forall_mem_cons.mpr ⟨mkX6_mean, List.forall_mem_cons.mpr ⟨mkX6_wage, List.forall_mem_cons.mpr ⟨mkX6_plan, List.forall_mem_cons.mpr ⟨mkX6_planned, List.forall_mem_cons.mpr ⟨mkX6_book, List.forall_mem_cons.mpr ⟨mkX6_looked, List.forall_mem_cons.mpr ⟨mkX6_ranBody, List.forall_mem_cons.mpr ⟨mkX6_isUnder, List.forall_mem_cons.mpr ⟨mkX6_plainSings, List.forall_mem_cons.mpr ⟨mkX6_singsActs, List.forall_mem_cons.mpr ⟨mkX6_plainBears, List.forall_mem_cons.mpr ⟨mkX6_bearsActs, List.forall_mem_cons.mpr ⟨mkX6_plainTells, List.forall_mem_cons.mpr ⟨mkX6_tellsActs, List.forall_mem_cons.mpr ⟨mkX6_act, List.forall_mem_cons.mpr ⟨mkX6_trace, List.forall_mem_cons.mpr ⟨mkX6_as, List.forall_mem_cons.mpr ⟨mkX6_image, List.forall_mem_cons.mpr ⟨mkX6_undo, List.forall_mem_cons.mpr ⟨mkX6_count,  fun _ h => absurd h List.not_mem_nil⟩⟩⟩⟩⟩⟩⟩⟩⟩⟩⟩⟩⟩⟩⟩⟩⟩⟩⟩⟩⟩⟩⟩⟩⟩⟩⟩⟩⟩
theorem mok_all : ∀ j, j < 209 → mok j := by
  intro j hj
  by_cases h0 : j < 30
  · exact mokL_0 j (by simp only [List.mem_cons, List.not_mem_nil, or_false]; omega)
  by_cases h1 : j < 60
  · exact mokL_1 j (by simp only [List.mem_cons, List.not_mem_nil, or_false]; omega)
  by_cases h2 : j < 90
  · exact mokL_2 j (by simp only [List.mem_cons, List.not_mem_nil, or_false]; omega)
  by_cases h3 : j < 120
  · exact mokL_3 j (by simp only [List.mem_cons, List.not_mem_nil, or_false]; omega)
  by_cases h4 : j < 150
  · exact mokL_4 j (by simp only [List.mem_cons, List.not_mem_nil, or_false]; omega)
  by_cases h5 : j < 180
  · exact mokL_5 j (by simp only [List.mem_cons, List.not_mem_nil, or_false]; omega)
  by_cases h6 : j < 209
  · exact mokL_6 j (by simp only [List.mem_cons, List.not_mem_nil, or_false]; omega)
  exact absurd hj (by omega)
end
section
/-! THE ABSTRACT MACHINE: values, memory, one step of each instruction, runs -/
abbrev AV : Type := Int32 ⊕ (Int64 ⊕ (Nat × Nat × Nat))
abbrev LL : Type := List (Option AV)
abbrev MC : Type := (Nat → Nat → Nat → Int32) × (Nat → Nat → Nat → Nat → Int32) × (Nat → Nat → Nat → AV)
abbrev MR : Type := (Nat → Int32) × (Nat → Nat → Int32)
abbrev Mem : Type := MC × MR × (Nat → Int32) × Nat
abbrev Res : Type := Option (Option AV × Mem)
abbrev vI (x : Int32) : AV := .inl x
abbrev vL (y : Int64) : AV := .inr (.inl y)
abbrev vR (c n k : Nat) : AV := .inr (.inr (c, n, k))
def u1 {α : Type} (f : Nat → α) (k : Nat) (x : α) : Nat → α := fun j => if j = k then x else f j
def u3 {α : Type} (f : Nat → Nat → Nat → α) (c n k : Nat) (x : α) : Nat → Nat → Nat → α := fun c' n' k' => if c' = c ∧ n' = n ∧ k' = k then x else f c' n' k'
def cI (M : Mem) (c n k : Nat) : Int32 := M.1.1 c n k
def cA (M : Mem) (c n k : Nat) : Nat → Int32 := M.1.2.1 c n k
def cR (M : Mem) (c n k : Nat) : AV := M.1.2.2 c n k
def rI (M : Mem) (k : Nat) : Int32 := M.2.1.1 k
def rA (M : Mem) (k : Nat) : Nat → Int32 := M.2.1.2 k
def sX (M : Mem) : Nat → Int32 := M.2.2.1
def sN (M : Mem) : Nat := M.2.2.2
def csI (M : Mem) (c n k : Nat) (x : Int32) : Mem := ((u3 M.1.1 c n k x, M.1.2), M.2)
def csA (M : Mem) (c n k : Nat) (f : Nat → Int32) : Mem := ((M.1.1, u3 M.1.2.1 c n k f, M.1.2.2), M.2)
def csR (M : Mem) (c n k : Nat) (v : AV) : Mem := ((M.1.1, M.1.2.1, u3 M.1.2.2 c n k v), M.2)
def rsI (M : Mem) (k : Nat) (x : Int32) : Mem := (M.1, (u1 M.2.1.1 k x, M.2.1.2), M.2.2)
def rsA (M : Mem) (k : Nat) (f : Nat → Int32) : Mem := (M.1, (M.2.1.1, u1 M.2.1.2 k f), M.2.2)
def strBL : List (List Int32) := [[101, 97, 115, 101, 32], [119, 101, 97, 114, 121, 32], [108, 111, 117, 100, 32], [100, 114, 97, 117, 103, 104, 116, 32], [115, 107, 118, 110, 116, 98], [60, 61, 62]]
def staBL : List (List Int32) := [[0, 2, 4, 5, 7], [(-1), 0, 0, 0, 1, 2, 3], [1, 2, 3, 11, 0, 0, 0, 21, 0, 0, 0, 31, 0, 0, 41, 51, 0, 0, 0, 61, 0]]
def strB (n : Nat) : Nat → Int32 := fun i => (strBL.getD n []).getD i 0
def staB (n : Nat) : Nat → Int32 := fun i => (staBL.getD n []).getD i 0
def shpL : List (List (Nat × Nat × Nat)) := [[(0, 0, 0), (0, 0, 0), (0, 0, 0), (0, 0, 0), (1, 0, 0)], [(0, 0, 0), (0, 0, 0), (0, 0, 0), (3, 0, 0), (1, 0, 0), (1, 0, 0), (1, 0, 0), (1, 0, 0), (1, 0, 0), (1, 0, 0), (1, 0, 0), (1, 0, 0), (1, 0, 0), (1, 0, 0), (1, 0, 0)], [(3, 0, 0), (0, 0, 0), (0, 0, 0), (3, 0, 0)], [(0, 0, 0), (0, 0, 0), (0, 0, 0), (0, 0, 0), (1, 0, 0), (1, 0, 0), (1, 0, 0), (1, 0, 0), (1, 0, 0)], [(0, 0, 0), (0, 0, 0), (0, 0, 0), (0, 0, 0), (0, 0, 0), (1, 0, 0), (1, 0, 0), (1, 0, 0), (1, 0, 0), (1, 0, 0), (1, 0, 0), (1, 0, 0)], [(1, 0, 0), (2, 2, 0), (2, 0, 0), (2, 1, 0), (2, 1, 1), (2, 1, 2), (2, 4, 0), (2, 4, 1), (1, 0, 0), (1, 0, 0), (5, 0, 0)], [(0, 0, 0), (1, 0, 0), (1, 0, 0), (1, 0, 0), (5, 0, 0), (0, 0, 0), (0, 0, 0), (0, 0, 0), (5, 0, 0), (0, 0, 0), (1, 0, 0), (1, 0, 0), (1, 0, 0), (0, 0, 0), (0, 0, 0), (1, 0, 0), (1, 0, 0), (1, 0, 0), (1, 0, 0), (0, 0, 0), (0, 0, 0), (0, 0, 0), (0, 0, 0)]]
def akL : List (List (Nat × Nat)) := [[(0, 0), (0, 0), (0, 0), (0, 0), (0, 0), (1, 20)], [(0, 0), (0, 0), (0, 0), (0, 0), (0, 0), (1, 6), (1, 6), (1, 6), (1, 6), (1, 6), (1, 24), (1, 6), (1, 6), (1, 6), (1, 6), (1, 6)], [(0, 0), (1, 0), (0, 0), (0, 0), (0, 0)], [(0, 0), (0, 0), (0, 0), (0, 0), (0, 0), (1, 10), (1, 10), (1, 10), (1, 10), (1, 100)], [(0, 0), (0, 0), (0, 0), (0, 0), (0, 0), (0, 0), (1, 100), (1, 6), (1, 6), (1, 8), (1, 8), (1, 8), (1, 8)], [(0, 0), (6, 6), (0, 0), (0, 0), (0, 0), (0, 0), (0, 0), (0, 0), (0, 0), (1, 25), (1, 6), (0, 0)], [(0, 0), (0, 0), (1, 940), (1, 940), (1, 19), (0, 0), (0, 0), (0, 0), (0, 0), (0, 0), (0, 0), (1, 6), (2, 64), (1, 6), (0, 0), (0, 0), (1, 25), (1, 6), (1, 6), (1, 20), (0, 0), (0, 0), (0, 0), (0, 0)]]
def cellsL : List (Nat × Nat × Nat) := [(5, 0, 0), (5, 0, 1), (5, 0, 9), (5, 0, 10), (2, 0, 0), (2, 0, 1), (0, 0, 0), (0, 0, 5), (1, 0, 0), (1, 0, 5), (1, 0, 6), (1, 0, 7), (1, 0, 8), (1, 0, 9), (1, 0, 10), (1, 0, 11), (1, 0, 12), (1, 0, 13), (1, 0, 14), (1, 0, 15), (1, 1, 0), (1, 1, 5), (1, 1, 6), (1, 1, 7), (1, 1, 8), (1, 1, 9), (1, 1, 10), (1, 1, 11), (1, 1, 12), (1, 1, 13), (1, 1, 14), (1, 1, 15), (1, 2, 0), (1, 2, 5), (1, 2, 6), (1, 2, 7), (1, 2, 8), (1, 2, 9), (1, 2, 10), (1, 2, 11), (1, 2, 12), (1, 2, 13), (1, 2, 14), (1, 2, 15), (4, 0, 0), (4, 0, 6), (4, 0, 7), (4, 0, 8), (4, 0, 9), (4, 0, 10), (4, 0, 11), (4, 0, 12), (4, 1, 0), (4, 1, 6), (4, 1, 7), (4, 1, 8), (4, 1, 9), (4, 1, 10), (4, 1, 11), (4, 1, 12), (3, 0, 0), (3, 0, 5), (3, 0, 6), (3, 0, 7), (3, 0, 8), (3, 0, 9), (3, 1, 0), (3, 1, 5), (3, 1, 6), (3, 1, 7), (3, 1, 8), (3, 1, 9), (3, 2, 0), (3, 2, 5), (3, 2, 6), (3, 2, 7), (3, 2, 8), (3, 2, 9), (3, 3, 0), (3, 3, 5), (3, 3, 6), (3, 3, 7), (3, 3, 8), (3, 3, 9), (3, 4, 0), (3, 4, 5), (3, 4, 6), (3, 4, 7), (3, 4, 8), (3, 4, 9), (3, 5, 0), (3, 5, 5), (3, 5, 6), (3, 5, 7), (3, 5, 8), (3, 5, 9), (6, 0, 0), (6, 0, 2), (6, 0, 3), (6, 0, 4), (6, 0, 11), (6, 0, 12), (6, 0, 13), (6, 0, 16), (6, 0, 17), (6, 0, 18), (6, 0, 19)]
def shp (c k : Nat) : Nat × Nat × Nat := ((bif c == 20 then [(1, 0, 0), (4, 0, 0)] else shpL.getD c []) : List (Nat × Nat × Nat)).getD k (9, 0, 0)
def fI (M : Mem) (c n k : Nat) : Int32 := bif c == 6 then rI M k else cI M c n k
def arr (M : Mem) (c n k : Nat) : Nat → Int32 := bif c == 6 then rA M k else bif c == 20 then strB n else bif c == 21 then staB n else bif c == 24 then sX M else cA M c n k
def fv (M : Mem) (c n k : Nat) : AV := match shp c k with
  | (0, _, _) => vI (fI M c n k)
  | (1, _, _) => vR c n (k + 1)
  | (2, c', n') => vR c' n' 0
  | (3, _, _) => cR M c n k
  | (4, v, _) => vI (Int32.ofNat v)
  | (5, _, _) => vI (fI M c n k)
  | _ => vR 23 0 0
/-- the kind of an array (1 ints, 2 booleans, 3 a text's bytes, 4 a constant's ints, 5 the script, 6 the settings) and its length -/
def ak (M : Mem) (c n k : Nat) : Nat × Nat := bif c == 20 then (bif k == 1 then (3, (strBL.getD n []).length) else (0, 0)) else bif c == 21 then (bif k == 1 then (4, (staBL.getD n []).length) else (0, 0)) else bif c == 24 then (5, sN M) else (akL.getD c []).getD k (0, 0)
def ssI (M : Mem) (c n k : Nat) (x : Int32) : Mem := bif c == 6 then rsI M k x else csI M c n k x
def ssA (M : Mem) (c n k : Nat) (f : Nat → Int32) : Mem := bif c == 6 then rsA M k f else csA M c n k f
def lget : LL → Nat → Option AV
  | [], _ => none
  | a :: _, 0 => a
  | _ :: r, i + 1 => lget r i
def isL : Option AV → Bool
  | some (.inr (.inl _)) => true
  | _ => false
def lset : LL → Nat → AV → LL
  | [], _, _ => []
  | _ :: r, 0, v => some v :: (bif isL (some v) then (match r with | _ :: r' => none :: r' | [] => []) else r)
  | a :: r, i + 1, v => (bif (i == 0 && isL a) then none else a) :: lset r i v
def argL : List AV → LL
  | [] => []
  | .inr (.inl y) :: r => some (vL y) :: none :: argL r
  | .inr (.inr q) :: r => some (.inr (.inr q)) :: argL r
  | .inl x :: r => some (vI x) :: argL r
def padL (n : Nat) (l : LL) : LL := l ++ List.replicate (n - l.length) none
def cats : List AV → Nat
  | [] => 0
  | v :: r => (bif isL (some v) then 2 else 1) + cats r
def swT {ρ : Type} (g : Nat → ρ) (pc : Nat) (x : Int32) : Int → List Int → Int → ρ
  | _, [], d => g ((pc : Int) + d).toNat
  | lo, o :: r, d => if x = Int32.ofInt lo then g ((pc : Int) + o).toNat else swT g pc x (lo + 1) r d
def swL {ρ : Type} (g : Nat → ρ) (pc : Nat) (x : Int32) : List (Int × Int) → Int → ρ
  | [], d => g ((pc : Int) + d).toNat
  | (a, o) :: r, d => if x = Int32.ofInt a then g ((pc : Int) + o).toNat else swL g pc x r d
def mustC (c : Nat) (as : List AV) : Bool := match as with
  | .inr (.inr (c', _, 0)) :: _ => c' == c
  | _ => false
/-- one instruction: it fails, goes on, jumps, calls, returns -/
def stepG {ρ : Type} (fail : ρ) (nx : LL → List AV → Mem → ρ) (jp : Nat → LL → List AV → Mem → ρ) (ca : Nat → List AV → LL → List AV → Mem → ρ) (rt : Option AV → Mem → ρ) (pc a b : Nat) (ins : Instr) (ls : LL) (st : List AV) (M : Mem) : ρ :=
  match ins with
  | .iconst n => nx ls (vI (Int32.ofInt n) :: st) M
  | .bipush n => nx ls (vI (Int8.ofInt n).toInt32 :: st) M
  | .sipush n => nx ls (vI (Int16.ofInt n).toInt32 :: st) M
  | .lconst n => nx ls (vL (Int64.ofNat (n : Nat)) :: st) M
  | .ldc _ => bif a == 0 then nx ls (vI (Int32.ofNat b) :: st) M else bif a == 1 then nx ls (vR 20 b 0 :: st) M else fail
  | .ldc_w _ => bif a == 0 then nx ls (vI (Int32.ofNat b) :: st) M else fail
  | .ldc2_w _ => nx ls (vL (-9223372036854775808) :: st) M
  | .iload i => match lget ls i with
    | some (.inl x) => nx ls (vI x :: st) M
    | _ => fail
  | .iload_n i => match lget ls i with
    | some (.inl x) => nx ls (vI x :: st) M
    | _ => fail
  | .lload i => match lget ls i with
    | some (.inr (.inl x)) => nx ls (vL x :: st) M
    | _ => fail
  | .lload_n i => match lget ls i with
    | some (.inr (.inl x)) => nx ls (vL x :: st) M
    | _ => fail
  | .aload i => match lget ls i with
    | some (.inr (.inr q)) => nx ls (.inr (.inr q) :: st) M
    | _ => fail
  | .aload_n i => match lget ls i with
    | some (.inr (.inr q)) => nx ls (.inr (.inr q) :: st) M
    | _ => fail
  | .istore i => match st with
    | .inl x :: st' => bif Nat.blt i ls.length then nx (lset ls i (vI x)) st' M else fail
    | _ => fail
  | .istore_n i => match st with
    | .inl x :: st' => bif Nat.blt i ls.length then nx (lset ls i (vI x)) st' M else fail
    | _ => fail
  | .lstore i => match st with
    | .inr (.inl x) :: st' => bif Nat.blt (i + 1) ls.length then nx (lset ls i (vL x)) st' M else fail
    | _ => fail
  | .lstore_n i => match st with
    | .inr (.inl x) :: st' => bif Nat.blt (i + 1) ls.length then nx (lset ls i (vL x)) st' M else fail
    | _ => fail
  | .iinc i n => match lget ls i with
    | some (.inl x) => nx (lset ls i (vI (x + Int32.ofInt n))) st M
    | _ => fail
  | .iadd => match st with
    | .inl y :: .inl x :: st' => nx ls (vI (x + y) :: st') M
    | _ => fail
  | .isub => match st with
    | .inl y :: .inl x :: st' => nx ls (vI (x - y) :: st') M
    | _ => fail
  | .imul => match st with
    | .inl y :: .inl x :: st' => nx ls (vI (x * y) :: st') M
    | _ => fail
  | .iand => match st with
    | .inl y :: .inl x :: st' => nx ls (vI (x &&& y) :: st') M
    | _ => fail
  | .ior => match st with
    | .inl y :: .inl x :: st' => nx ls (vI (x ||| y) :: st') M
    | _ => fail
  | .ixor => match st with
    | .inl y :: .inl x :: st' => nx ls (vI (x ^^^ y) :: st') M
    | _ => fail
  | .idiv => match st with
    | .inl y :: .inl x :: st' => if y = 0 then fail else nx ls (vI (x / y) :: st') M
    | _ => fail
  | .irem => match st with
    | .inl y :: .inl x :: st' => if y = 0 then fail else nx ls (vI (x - x / y * y) :: st') M
    | _ => fail
  | .ishl => match st with
    | .inl y :: .inl x :: st' => nx ls (vI (x <<< (y &&& 31)) :: st') M
    | _ => fail
  | .ishr => match st with
    | .inl y :: .inl x :: st' => nx ls (vI (x >>> (y &&& 31)) :: st') M
    | _ => fail
  | .iushr => match st with
    | .inl y :: .inl x :: st' => nx ls (vI ((x.toUInt32 >>> (y.toUInt32 &&& Int32.toUInt32 31)).toInt32) :: st') M
    | _ => fail
  | .ineg => match st with
    | .inl x :: st' => nx ls (vI (-x) :: st') M
    | _ => fail
  | .i2b => match st with
    | .inl x :: st' => nx ls (vI x.toInt8.toInt32 :: st') M
    | _ => fail
  | .i2c => match st with
    | .inl x :: st' => nx ls (vI (x.toUInt32 % 65536).toInt32 :: st') M
    | _ => fail
  | .i2l => match st with
    | .inl x :: st' => nx ls (vL x.toInt64 :: st') M
    | _ => fail
  | .ladd => match st with
    | .inr (.inl y) :: .inr (.inl x) :: st' => nx ls (vL (x + y) :: st') M
    | _ => fail
  | .ldiv => match st with
    | .inr (.inl y) :: .inr (.inl x) :: st' => if y = 0 then fail else nx ls (vL (x / y) :: st') M
    | _ => fail
  | .lrem => match st with
    | .inr (.inl y) :: .inr (.inl x) :: st' => if y = 0 then fail else nx ls (vL (x - x / y * y) :: st') M
    | _ => fail
  | .lneg => match st with
    | .inr (.inl x) :: st' => nx ls (vL (-x) :: st') M
    | _ => fail
  | .lcmp => match st with
    | .inr (.inl y) :: .inr (.inl x) :: st' => nx ls (vI (lg_cmp x y) :: st') M
    | _ => fail
  | .dup => match st with
    | .inl x :: st' => nx ls (.inl x :: .inl x :: st') M
    | .inr (.inr q) :: st' => nx ls (.inr (.inr q) :: .inr (.inr q) :: st') M
    | _ => fail
  | .dup2 => match st with
    | .inl x :: .inl y :: st' => nx ls (.inl x :: .inl y :: .inl x :: .inl y :: st') M
    | .inl x :: .inr (.inr q) :: st' => nx ls (.inl x :: .inr (.inr q) :: .inl x :: .inr (.inr q) :: st') M
    | _ => fail
  | .pop => match st with
    | .inl _ :: st' => nx ls st' M
    | .inr (.inr _) :: st' => nx ls st' M
    | _ => fail
  | .goto off => jp ((pc : Int) + off).toNat ls st M
  | .ifCond c off => match st with
    | .inl x :: st' => match c with
      | .eq => if x = 0 then jp ((pc : Int) + off).toNat ls st' M else nx ls st' M
      | .ne => if x = 0 then nx ls st' M else jp ((pc : Int) + off).toNat ls st' M
      | .lt => if x < 0 then jp ((pc : Int) + off).toNat ls st' M else nx ls st' M
      | .ge => if 0 ≤ x then jp ((pc : Int) + off).toNat ls st' M else nx ls st' M
      | .gt => if 0 < x then jp ((pc : Int) + off).toNat ls st' M else nx ls st' M
      | .le => if x ≤ 0 then jp ((pc : Int) + off).toNat ls st' M else nx ls st' M
    | _ => fail
  | .if_icmp c off => match st with
    | .inl y :: .inl x :: st' => match c with
      | .eq => if x = y then jp ((pc : Int) + off).toNat ls st' M else nx ls st' M
      | .ne => if x = y then nx ls st' M else jp ((pc : Int) + off).toNat ls st' M
      | .lt => if x < y then jp ((pc : Int) + off).toNat ls st' M else nx ls st' M
      | .ge => if y ≤ x then jp ((pc : Int) + off).toNat ls st' M else nx ls st' M
      | .gt => if y < x then jp ((pc : Int) + off).toNat ls st' M else nx ls st' M
      | .le => if x ≤ y then jp ((pc : Int) + off).toNat ls st' M else nx ls st' M
    | _ => fail
  | .tableswitch d lo _ offs => match st with
    | .inl x :: st' => swT (fun t => jp t ls st' M) pc x lo offs.toList d
    | _ => fail
  | .lookupswitch d ps => match st with
    | .inl x :: st' => swL (fun t => jp t ls st' M) pc x ps.toList d
    | _ => fail
  | .getfield _ => match st with
    | .inr (.inr (c, n, 0)) :: st' => bif c == a then nx ls (fv M a n b :: st') M else fail
    | _ => fail
  | .putfield _ => match st with
    | .inl x :: .inr (.inr (c, n, 0)) :: st' => bif c == a then (match (shp a b).1 with
      | 0 => nx ls st' (ssI M a n b x)
      | 5 => if x = 0 ∨ x = 1 then nx ls st' (ssI M a n b x) else fail
      | _ => fail) else fail
    | .inr (.inr q) :: .inr (.inr (c, n, 0)) :: st' => bif c == a && Nat.blt a 6 && (shp a b).1 == 3 then nx ls st' (csR M a n b (.inr (.inr q))) else fail
    | _ => fail
  | .getstatic _ => bif a == 0 then nx ls (vI 1 :: st) M else bif a == 1 then nx ls (vR 21 b 1 :: st) M else bif a == 2 then nx ls (vR 22 0 0 :: st) M else fail
  | .iaload => match st with
    | .inl i :: .inr (.inr (c, n, k)) :: st' => bif ((ak M c n k).1 == 1 || (ak M c n k).1 == 4 || (ak M c n k).1 == 5) then (if i < 0 ∨ (ak M c n k).2 ≤ i.toNatClampNeg then fail else nx ls (vI (arr M c n k i.toNatClampNeg) :: st') M) else fail
    | _ => fail
  | .baload => match st with
    | .inl i :: .inr (.inr (c, n, k)) :: st' => bif ((ak M c n k).1 == 2 || (ak M c n k).1 == 3) then (if i < 0 ∨ (ak M c n k).2 ≤ i.toNatClampNeg then fail else nx ls (vI (arr M c n k i.toNatClampNeg) :: st') M) else fail
    | _ => fail
  | .aaload => match st with
    | .inl i :: .inr (.inr (c, n, k)) :: st' => bif (ak M c n k).1 == 6 then (if i < 0 ∨ (ak M c n k).2 ≤ i.toNatClampNeg then fail else nx ls (vR 3 i.toNatClampNeg 0 :: st') M) else fail
    | _ => fail
  | .iastore => match st with
    | .inl x :: .inl i :: .inr (.inr (c, n, k)) :: st' => bif (ak M c n k).1 == 1 then (if i < 0 ∨ (ak M c n k).2 ≤ i.toNatClampNeg then fail else nx ls st' (ssA M c n k (upd (arr M c n k) i.toNatClampNeg x))) else fail
    | _ => fail
  | .bastore => match st with
    | .inl x :: .inl i :: .inr (.inr (c, n, k)) :: st' => bif (ak M c n k).1 == 2 then (if i < 0 ∨ (ak M c n k).2 ≤ i.toNatClampNeg then fail else (if x = 0 ∨ x = 1 then nx ls st' (ssA M c n k (upd (arr M c n k) i.toNatClampNeg x)) else fail)) else fail
    | _ => fail
  | .arraylength => match st with
    | .inr (.inr (c, n, k)) :: st' => bif (ak M c n k).1 == 0 then fail else nx ls (vI (Int32.ofNat (ak M c n k).2) :: st') M
    | _ => fail
  | .invokevirtual _ => bif Nat.blt a (nM - 1) && !stO a && Nat.ble b st.length && b == naO a + 1 && Nat.ble (cats (st.drop b)) 8 && mustC (ctO a) (st.take b).reverse then ca a (st.take b).reverse ls (st.drop b) M else fail
  | .invokestatic _ => bif a == 1000 then (match st with
      | .inl y :: .inl x :: st' => bif Nat.ble (cats st') 8 then nx ls (vI (if y < x then y else x) :: st') M else fail
      | _ => fail)
    else bif a == 1001 then (match st with
      | .inl y :: .inl x :: st' => bif Nat.ble (cats st') 8 then nx ls (vI (if x < y then y else x) :: st') M else fail
      | _ => fail)
    else bif a == 1002 then (match st with
      | .inl x :: st' => bif Nat.ble (cats st') 8 then nx ls (vI (if 0 ≤ x then x else 0 - x) :: st') M else fail
      | _ => fail)
    else bif a == 1003 then (match st with
      | .inl n :: .inl dp :: .inr (.inr (c1, n1, k1)) :: .inl sp :: .inr (.inr (c0, n0, k0)) :: st' =>
        bif Nat.ble (cats st') 8 && (ak M c1 n1 k1).1 == 1 && (ak M c0 n0 k0).1 == 1 then
          (if sp < 0 ∨ dp < 0 ∨ n < 0 ∨ (ak M c0 n0 k0).2 < sp.toNatClampNeg + n.toNatClampNeg ∨ (ak M c1 n1 k1).2 < dp.toNatClampNeg + n.toNatClampNeg then fail
           else nx ls st' (ssA M c1 n1 k1 (va_cpy (arr M c0 n0 k0) (arr M c1 n1 k1) sp.toNatClampNeg dp.toNatClampNeg n.toNatClampNeg))) else fail
      | _ => fail)
    else bif Nat.blt a (nM - 1) && stO a && Nat.ble b st.length && b == naO a && Nat.ble (cats (st.drop b)) 8 then ca a (st.take b).reverse ls (st.drop b) M else fail
  | .ireturn => match st with
    | [.inl x] => match a with
      | 1 => rt (some (vI x)) M
      | 2 => if x = 0 ∨ x = 1 then rt (some (vI x)) M else fail
      | 3 => if vp_nar .char x = x then rt (some (vI x)) M else fail
      | 4 => if vp_nar .byte x = x then rt (some (vI x)) M else fail
      | _ => fail
    | _ => fail
  | .lreturn => match st with
    | [.inr (.inl y)] => rt (some (vL y)) M
    | _ => fail
  | .return_ => match st with
    | [] => rt none M
    | _ => fail
  | _ => fail
abbrev AgT : Type := Nat → LL → List AV → Mem → Res
abbrev ClT : Type := Nat → List AV → Mem → Res
/-- the rows of a block, one behind the other -/
def run (ag : AgT) (cl : ClT) : List CE → LL → List AV → Mem → Res
  | [], _, _, _ => none
  | (pc, _, ins, a, b) :: r, ls, st, M => stepG none (run ag cl r) ag (fun j as ls st M => (cl j as M).bind fun q => run ag cl r ls (q.1.toList ++ st) q.2) (fun v M => some (v, M)) pc a b ins ls st M
def dropTo (pc : Nat) : List CE → List CE
  | [] => []
  | q :: r => bif q.1 == pc then q :: r else dropTo pc r
def exec : Nat → Nat → Nat → Nat → LL → List AV → Mem → Res
  | 0, _, _, _, _, _, _ => none
  | n + 1, d, j, pc, ls, st, M => run (exec n d j) (fun j' as M' => match d with
    | 0 => none
    | d' + 1 => exec n d' j' 0 (padL (mlO j') (argL as)) [] M') (dropTo pc (kO j)) ls st M
/-! runs are monotone in the fuel -/
abbrev Ctl : Type := Option ((LL × List AV × Mem) ⊕ ((Nat × LL × List AV × Mem) ⊕ ((Nat × List AV × LL × List AV × Mem) ⊕ (Option AV × Mem))))
def stepR (pc a b : Nat) (ins : Instr) (ls : LL) (st : List AV) (M : Mem) : Ctl := stepG none (fun l s m => some (.inl (l, s, m))) (fun t l s m => some (.inr (.inl (t, l, s, m)))) (fun j as l s m => some (.inr (.inr (.inl (j, as, l, s, m))))) (fun v m => some (.inr (.inr (.inr (v, m))))) pc a b ins ls st M
def ctl {ρ : Type} (fail : ρ) (nx : LL → List AV → Mem → ρ) (jp : Nat → LL → List AV → Mem → ρ) (ca : Nat → List AV → LL → List AV → Mem → ρ) (rt : Option AV → Mem → ρ) : Ctl → ρ
  | none => fail
  | some (.inl (l, s, m)) => nx l s m
  | some (.inr (.inl (t, l, s, m))) => jp t l s m
  | some (.inr (.inr (.inl (j, as, l, s, m)))) => ca j as l s m
  | some (.inr (.inr (.inr (v, m)))) => rt v m
theorem swT_nat {ρ σ : Type} (φ : ρ → σ) (g : Nat → ρ) (pc : Nat) (x : Int32) : ∀ (offs : List Int) (lo d : Int), φ (swT g pc x lo offs d) = swT (fun t => φ (g t)) pc x lo offs d
  | [], _, _ => rfl
  | o :: r, lo, d => by
    simp only [swT]
    split
    · rfl
    · exact swT_nat φ g pc x r (lo + 1) d
theorem swL_nat {ρ σ : Type} (φ : ρ → σ) (g : Nat → ρ) (pc : Nat) (x : Int32) : ∀ (ps : List (Int × Int)) (d : Int), φ (swL g pc x ps d) = swL (fun t => φ (g t)) pc x ps d
  | [], _ => rfl
  | (a, o) :: r, d => by
    simp only [swL]
    split
    · rfl
    · exact swL_nat φ g pc x r d
set_option maxHeartbeats 4000000 in
theorem stepG_ctl {ρ : Type} (fail : ρ) (nx : LL → List AV → Mem → ρ) (jp : Nat → LL → List AV → Mem → ρ) (ca : Nat → List AV → LL → List AV → Mem → ρ) (rt : Option AV → Mem → ρ) (pc a b : Nat) (ins : Instr) (ls : LL) (st : List AV) (M : Mem) :
    stepG fail nx jp ca rt pc a b ins ls st M = ctl fail nx jp ca rt (stepR pc a b ins ls st M) := by
  cases ins <;> simp only [stepG, stepR, cond_eq_ite, swT_nat (ctl fail nx jp ca rt), swL_nat (ctl fail nx jp ca rt)] <;> first | rfl | (repeat' split) <;> first | rfl | exact (swT_nat (ctl fail nx jp ca rt) (fun t => some (Sum.inr (Sum.inl (t, ls, _, M)))) _ _ _ _ _).symm | exact (swL_nat (ctl fail nx jp ca rt) (fun t => some (Sum.inr (Sum.inl (t, ls, _, M)))) _ _ _ _).symm
/-- one run answers at least what another does -/
def leR (x y : Res) : Prop := ∀ r, x = some r → y = some r
theorem run_mono {ag ag' : AgT} {cl cl' : ClT} (ha : ∀ t ls st M, leR (ag t ls st M) (ag' t ls st M)) (hc : ∀ j as M, leR (cl j as M) (cl' j as M)) : ∀ (l : List CE) (ls : LL) (st : List AV) (M : Mem), leR (run ag cl l ls st M) (run ag' cl' l ls st M)
  | [], _, _, _ => fun r h => h
  | (pc, n, ins, a, b) :: r, ls, st, M => by
    intro x h
    simp only [run, stepG_ctl] at h ⊢
    generalize stepR pc a b ins ls st M = y at h ⊢
    match y, h with
    | none, h => exact h
    | some (.inl (l, s, m)), h => exact run_mono ha hc r l s m x h
    | some (.inr (.inl (t, l, s, m))), h => exact ha t l s m x h
    | some (.inr (.inr (.inl (j, as, l, s, m)))), h =>
      simp only [ctl] at h ⊢
      obtain ⟨q, h1, h2⟩ := Option.bind_eq_some_iff.mp h
      rw [hc j as m q h1]
      exact run_mono ha hc r l _ q.2 x h2
    | some (.inr (.inr (.inr (v, m)))), h => exact h
theorem exec_mono1 : ∀ (n d j pc : Nat) (ls : LL) (st : List AV) (M : Mem), leR (exec n d j pc ls st M) (exec (n + 1) d j pc ls st M)
  | 0, _, _, _, _, _, _ => fun r h => absurd h (by simp [exec])
  | n + 1, d, j, pc, ls, st, M => by
    intro r h
    rw [exec] at h ⊢
    refine run_mono (fun t ls st M => exec_mono1 n d j t ls st M) (fun j as M => ?_) _ _ _ _ r h
    match d with
    | 0 => exact fun r h => h
    | d' + 1 => exact exec_mono1 n d' j 0 _ [] M
theorem exec_mono {n k d j pc : Nat} {ls : LL} {st : List AV} {M : Mem} (h : n ≤ k) : leR (exec n d j pc ls st M) (exec k d j pc ls st M) := by
  obtain ⟨i, rfl⟩ := Nat.le.dest h
  induction i with
  | zero => exact fun r h => h
  | succ i ih => exact fun r h => exec_mono1 _ _ _ _ _ _ _ r (ih (by omega) r h)
/-! the answer of a run, whatever its fuel -/
noncomputable def X (d j pc : Nat) (ls : LL) (st : List AV) (M : Mem) : Res :=
  @dite Res (∃ n r, exec n d j pc ls st M = some r) (Classical.propDecidable _) (fun h => some (Classical.choose (Classical.choose_spec h))) (fun _ => none)
noncomputable def XC (d j : Nat) (as : List AV) (M : Mem) : Res := match d with
  | 0 => none
  | d' + 1 => X d' j 0 (padL (mlO j) (argL as)) [] M
theorem X_some {d j pc : Nat} {ls : LL} {st : List AV} {M : Mem} {r : Option AV × Mem} : X d j pc ls st M = some r ↔ ∃ n, exec n d j pc ls st M = some r := by
  constructor
  · intro h
    unfold X at h
    split at h
    · next g => exact ⟨Classical.choose g, by rw [← h]; exact Classical.choose_spec (Classical.choose_spec g)⟩
    · cases h
  · rintro ⟨n, h⟩
    have g : ∃ n r, exec n d j pc ls st M = some r := ⟨n, r, h⟩
    have e : X d j pc ls st M = some (Classical.choose (Classical.choose_spec g)) := dif_pos g
    have h2 := Classical.choose_spec (Classical.choose_spec g)
    rw [e, ← exec_mono (Nat.le_max_left n (Classical.choose g)) _ h, exec_mono (Nat.le_max_right n (Classical.choose g)) _ h2]
theorem run_cont (d j : Nat) : ∀ (l : List CE) (ls : LL) (st : List AV) (M : Mem) (r : Option AV × Mem), run (X d j) (XC d) l ls st M = some r → ∃ n, run (exec n d j) (fun j' as M' => match d with
    | 0 => none
    | d' + 1 => exec n d' j' 0 (padL (mlO j') (argL as)) [] M') l ls st M = some r
  | [], _, _, _, _ => fun h => absurd h (by simp [run])
  | (pc, n, ins, a, b) :: rs, ls, st, M, x => by
    intro h
    simp only [run, stepG_ctl] at h ⊢
    generalize stepR pc a b ins ls st M = y at h ⊢
    match y, h with
    | none, h => exact absurd h (by simp [ctl])
    | some (.inl (l, s, m)), h => exact run_cont d j rs l s m x h
    | some (.inr (.inl (t, l, s, m))), h => exact X_some.mp h
    | some (.inr (.inr (.inl (j2, as, l, s, m)))), h =>
      simp only [ctl] at h ⊢
      obtain ⟨q, h1, h2⟩ := Option.bind_eq_some_iff.mp h
      match d, h1, h2 with
      | 0, h1, _ => exact absurd h1 (by simp [XC])
      | d' + 1, h1, h2 =>
        obtain ⟨n1, g1⟩ := X_some.mp h1
        obtain ⟨n2, g2⟩ := run_cont (d' + 1) j rs l _ q.2 x h2
        refine ⟨max n1 n2, Option.bind_eq_some_iff.mpr ⟨q, exec_mono (Nat.le_max_left _ _) _ g1, ?_⟩⟩
        exact run_mono (fun t ls st M => exec_mono (Nat.le_max_right _ _)) (fun j as M => exec_mono (Nat.le_max_right _ _)) _ _ _ _ _ g2
    | some (.inr (.inr (.inr (v, m)))), h => exact ⟨0, h⟩
theorem X_unfold (d j pc : Nat) (ls : LL) (st : List AV) (M : Mem) : X d j pc ls st M = run (X d j) (XC d) (dropTo pc (kO j)) ls st M := by
  have one : ∀ r, X d j pc ls st M = some r ↔ run (X d j) (XC d) (dropTo pc (kO j)) ls st M = some r := by
    intro r
    constructor
    · intro h
      obtain ⟨n, hn⟩ := X_some.mp h
      match n, hn with
      | 0, hn => exact absurd hn (by simp [exec])
      | n + 1, hn =>
        rw [exec] at hn
        refine run_mono (fun t ls st M r h => X_some.mpr ⟨n, h⟩) (fun j as M r h => ?_) _ _ _ _ r hn
        match d, h with
        | 0, h => exact absurd h (by simp)
        | d' + 1, h => exact X_some.mpr ⟨n, h⟩
    · intro h
      obtain ⟨n, hn⟩ := run_cont d j _ _ _ _ _ h
      exact X_some.mpr ⟨n + 1, by rw [exec]; exact hn⟩
  exact Option.ext one
end
section
theorem zz_test : True := trivial
end
