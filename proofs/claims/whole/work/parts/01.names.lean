-- ===== PART A: goes FIRST, ahead of the names: the tables' words, and 'selects' of the private methods out of them =====
/-- a private method of a class that the tables say can be made, by its rows of tables_1 -/
def lw_okq (q : MethodName × Nat) : Prop := (q.1.cls ≠ "java/lang/invoke/MethodHandle" ∧ q.1.cls ≠ "java/lang/invoke/VarHandle") ∧ Cond.instantiable q.1.cls q.2 ∈ tables_1 ∧ Cond.privateMethod q.1 ∈ tables_1 ∧ Cond.instanceMethod q.1 ∈ tables_1
theorem lw_p0 : lw_okq (⟨"ChoirRoof$Setting", "clear", "()V"⟩, 9) := ⟨⟨by decide +kernel, by decide +kernel⟩, List.mem_of_getElem? (i := 128) (by decide +kernel), List.mem_of_getElem? (i := 134) (by decide +kernel), List.mem_of_getElem? (i := 135) (by decide +kernel)⟩
theorem lw_p1 : lw_okq (⟨"ChoirRoof$Reader", "readClause", "()Z"⟩, 4) := ⟨⟨by decide +kernel, by decide +kernel⟩, List.mem_of_getElem? (i := 27) (by decide +kernel), List.mem_of_getElem? (i := 287) (by decide +kernel), List.mem_of_getElem? (i := 288) (by decide +kernel)⟩
theorem lw_p2 : lw_okq (⟨"ChoirRoof$Reader", "peek", "()I"⟩, 4) := ⟨⟨by decide +kernel, by decide +kernel⟩, List.mem_of_getElem? (i := 27) (by decide +kernel), List.mem_of_getElem? (i := 291) (by decide +kernel), List.mem_of_getElem? (i := 292) (by decide +kernel)⟩
theorem lw_p3 : lw_okq (⟨"ChoirRoof$Reader", "readWord", "(Ljava/lang/String;)Z"⟩, 4) := ⟨⟨by decide +kernel, by decide +kernel⟩, List.mem_of_getElem? (i := 27) (by decide +kernel), List.mem_of_getElem? (i := 296) (by decide +kernel), List.mem_of_getElem? (i := 297) (by decide +kernel)⟩
theorem lw_p4 : lw_okq (⟨"ChoirRoof$Reader", "take", "(C)Z"⟩, 4) := ⟨⟨by decide +kernel, by decide +kernel⟩, List.mem_of_getElem? (i := 27) (by decide +kernel), List.mem_of_getElem? (i := 348) (by decide +kernel), List.mem_of_getElem? (i := 349) (by decide +kernel)⟩
theorem lw_p5 : lw_okq (⟨"ChoirRoof$Reader", "readRest", "(I)Z"⟩, 4) := ⟨⟨by decide +kernel, by decide +kernel⟩, List.mem_of_getElem? (i := 27) (by decide +kernel), List.mem_of_getElem? (i := 352) (by decide +kernel), List.mem_of_getElem? (i := 353) (by decide +kernel)⟩
theorem lw_p6 : lw_okq (⟨"ChoirRoof$Reader", "readNumber", "()I"⟩, 4) := ⟨⟨by decide +kernel, by decide +kernel⟩, List.mem_of_getElem? (i := 27) (by decide +kernel), List.mem_of_getElem? (i := 356) (by decide +kernel), List.mem_of_getElem? (i := 357) (by decide +kernel)⟩
theorem lw_p7 : lw_okq (⟨"ChoirRoof$Reader", "readEither", "(I)Z"⟩, 4) := ⟨⟨by decide +kernel, by decide +kernel⟩, List.mem_of_getElem? (i := 27) (by decide +kernel), List.mem_of_getElem? (i := 360) (by decide +kernel), List.mem_of_getElem? (i := 361) (by decide +kernel)⟩
theorem lw_p8 : lw_okq (⟨"ChoirRoof$Reader", "readBoth", "(I)Z"⟩, 4) := ⟨⟨by decide +kernel, by decide +kernel⟩, List.mem_of_getElem? (i := 27) (by decide +kernel), List.mem_of_getElem? (i := 364) (by decide +kernel), List.mem_of_getElem? (i := 365) (by decide +kernel)⟩
theorem lw_p9 : lw_okq (⟨"ChoirRoof$Reader", "readFactor", "(I)Z"⟩, 4) := ⟨⟨by decide +kernel, by decide +kernel⟩, List.mem_of_getElem? (i := 27) (by decide +kernel), List.mem_of_getElem? (i := 368) (by decide +kernel), List.mem_of_getElem? (i := 369) (by decide +kernel)⟩
theorem lw_p10 : lw_okq (⟨"ChoirRoof$Reader", "readTest", "()Z"⟩, 4) := ⟨⟨by decide +kernel, by decide +kernel⟩, List.mem_of_getElem? (i := 27) (by decide +kernel), List.mem_of_getElem? (i := 372) (by decide +kernel), List.mem_of_getElem? (i := 373) (by decide +kernel)⟩
theorem lw_p11 : lw_okq (⟨"ChoirRoof$Reader", "indexOfNext", "(Ljava/lang/String;)I"⟩, 4) := ⟨⟨by decide +kernel, by decide +kernel⟩, List.mem_of_getElem? (i := 27) (by decide +kernel), List.mem_of_getElem? (i := 377) (by decide +kernel), List.mem_of_getElem? (i := 378) (by decide +kernel)⟩
theorem lw_p12 : lw_okq (⟨"ChoirRoof", "isSinger", "(I)Z"⟩, 11) := ⟨⟨by decide +kernel, by decide +kernel⟩, List.mem_of_getElem? (i := 17) (by decide +kernel), List.mem_of_getElem? (i := 463) (by decide +kernel), List.mem_of_getElem? (i := 464) (by decide +kernel)⟩
theorem lw_p13 : lw_okq (⟨"ChoirRoof$Choir", "strengthOf", "(I)I"⟩, 15) := ⟨⟨by decide +kernel, by decide +kernel⟩, List.mem_of_getElem? (i := 171) (by decide +kernel), List.mem_of_getElem? (i := 475) (by decide +kernel), List.mem_of_getElem? (i := 476) (by decide +kernel)⟩
theorem lw_p14 : lw_okq (⟨"ChoirRoof$Setting", "holds", "(I[I)Z"⟩, 9) := ⟨⟨by decide +kernel, by decide +kernel⟩, List.mem_of_getElem? (i := 128) (by decide +kernel), List.mem_of_getElem? (i := 483) (by decide +kernel), List.mem_of_getElem? (i := 484) (by decide +kernel)⟩
theorem lw_p15 : lw_okq (⟨"ChoirRoof", "isStone", "(I)Z"⟩, 11) := ⟨⟨by decide +kernel, by decide +kernel⟩, List.mem_of_getElem? (i := 17) (by decide +kernel), List.mem_of_getElem? (i := 544) (by decide +kernel), List.mem_of_getElem? (i := 545) (by decide +kernel)⟩
def lw_privs_1 : List (MethodName × Nat) := [(⟨"ChoirRoof$Setting", "clear", "()V"⟩, 9), (⟨"ChoirRoof$Reader", "readClause", "()Z"⟩, 4), (⟨"ChoirRoof$Reader", "peek", "()I"⟩, 4), (⟨"ChoirRoof$Reader", "readWord", "(Ljava/lang/String;)Z"⟩, 4), (⟨"ChoirRoof$Reader", "take", "(C)Z"⟩, 4), (⟨"ChoirRoof$Reader", "readRest", "(I)Z"⟩, 4), (⟨"ChoirRoof$Reader", "readNumber", "()I"⟩, 4), (⟨"ChoirRoof$Reader", "readEither", "(I)Z"⟩, 4), (⟨"ChoirRoof$Reader", "readBoth", "(I)Z"⟩, 4), (⟨"ChoirRoof$Reader", "readFactor", "(I)Z"⟩, 4), (⟨"ChoirRoof$Reader", "readTest", "()Z"⟩, 4), (⟨"ChoirRoof$Reader", "indexOfNext", "(Ljava/lang/String;)I"⟩, 4), (⟨"ChoirRoof", "isSinger", "(I)Z"⟩, 11), (⟨"ChoirRoof$Choir", "strengthOf", "(I)I"⟩, 15), (⟨"ChoirRoof$Setting", "holds", "(I[I)Z"⟩, 9), (⟨"ChoirRoof", "isStone", "(I)Z"⟩, 11)]
theorem lw_r1 : ∀ q ∈ lw_privs_1, lw_okq q := List.forall_mem_cons.mpr ⟨lw_p0, List.forall_mem_cons.mpr ⟨lw_p1, List.forall_mem_cons.mpr ⟨lw_p2, List.forall_mem_cons.mpr ⟨lw_p3, List.forall_mem_cons.mpr ⟨lw_p4, List.forall_mem_cons.mpr ⟨lw_p5, List.forall_mem_cons.mpr ⟨lw_p6, List.forall_mem_cons.mpr ⟨lw_p7, List.forall_mem_cons.mpr ⟨lw_p8, List.forall_mem_cons.mpr ⟨lw_p9, List.forall_mem_cons.mpr ⟨lw_p10, List.forall_mem_cons.mpr ⟨lw_p11, List.forall_mem_cons.mpr ⟨lw_p12, List.forall_mem_cons.mpr ⟨lw_p13, List.forall_mem_cons.mpr ⟨lw_p14, List.forall_mem_cons.mpr ⟨lw_p15, fun _ h => absurd h List.not_mem_nil⟩⟩⟩⟩⟩⟩⟩⟩⟩⟩⟩⟩⟩⟩⟩⟩
theorem lw_p16 : lw_okq (⟨"ChoirRoof", "bestNote", "(I)I"⟩, 11) := ⟨⟨by decide +kernel, by decide +kernel⟩, List.mem_of_getElem? (i := 17) (by decide +kernel), List.mem_of_getElem? (i := 614) (by decide +kernel), List.mem_of_getElem? (i := 615) (by decide +kernel)⟩
theorem lw_p17 : lw_okq (⟨"ChoirRoof", "measureChords", "()V"⟩, 11) := ⟨⟨by decide +kernel, by decide +kernel⟩, List.mem_of_getElem? (i := 17) (by decide +kernel), List.mem_of_getElem? (i := 623) (by decide +kernel), List.mem_of_getElem? (i := 624) (by decide +kernel)⟩
theorem lw_p18 : lw_okq (⟨"ChoirRoof", "chordNote", "(II)I"⟩, 11) := ⟨⟨by decide +kernel, by decide +kernel⟩, List.mem_of_getElem? (i := 17) (by decide +kernel), List.mem_of_getElem? (i := 627) (by decide +kernel), List.mem_of_getElem? (i := 628) (by decide +kernel)⟩
theorem lw_p19 : lw_okq (⟨"ChoirRoof", "bestChord", "()I"⟩, 11) := ⟨⟨by decide +kernel, by decide +kernel⟩, List.mem_of_getElem? (i := 17) (by decide +kernel), List.mem_of_getElem? (i := 635) (by decide +kernel), List.mem_of_getElem? (i := 636) (by decide +kernel)⟩
theorem lw_p20 : lw_okq (⟨"ChoirRoof", "singChord", "(I)I"⟩, 11) := ⟨⟨by decide +kernel, by decide +kernel⟩, List.mem_of_getElem? (i := 17) (by decide +kernel), List.mem_of_getElem? (i := 639) (by decide +kernel), List.mem_of_getElem? (i := 640) (by decide +kernel)⟩
theorem lw_p21 : lw_okq (⟨"ChoirRoof", "spareBits", "(I)I"⟩, 11) := ⟨⟨by decide +kernel, by decide +kernel⟩, List.mem_of_getElem? (i := 17) (by decide +kernel), List.mem_of_getElem? (i := 653) (by decide +kernel), List.mem_of_getElem? (i := 654) (by decide +kernel)⟩
theorem lw_p22 : lw_okq (⟨"ChoirRoof", "looseOf", "(I)I"⟩, 11) := ⟨⟨by decide +kernel, by decide +kernel⟩, List.mem_of_getElem? (i := 17) (by decide +kernel), List.mem_of_getElem? (i := 657) (by decide +kernel), List.mem_of_getElem? (i := 658) (by decide +kernel)⟩
theorem lw_p23 : lw_okq (⟨"ChoirRoof", "setShift", "()I"⟩, 11) := ⟨⟨by decide +kernel, by decide +kernel⟩, List.mem_of_getElem? (i := 17) (by decide +kernel), List.mem_of_getElem? (i := 666) (by decide +kernel), List.mem_of_getElem? (i := 667) (by decide +kernel)⟩
theorem lw_p24 : lw_okq (⟨"ChoirRoof", "sortHanging", "()I"⟩, 11) := ⟨⟨by decide +kernel, by decide +kernel⟩, List.mem_of_getElem? (i := 17) (by decide +kernel), List.mem_of_getElem? (i := 695) (by decide +kernel), List.mem_of_getElem? (i := 696) (by decide +kernel)⟩
theorem lw_p25 : lw_okq (⟨"ChoirRoof", "isDustBy", "(I)Z"⟩, 11) := ⟨⟨by decide +kernel, by decide +kernel⟩, List.mem_of_getElem? (i := 17) (by decide +kernel), List.mem_of_getElem? (i := 720) (by decide +kernel), List.mem_of_getElem? (i := 721) (by decide +kernel)⟩
theorem lw_p26 : lw_okq (⟨"ChoirRoof$Acts", "callFrom", "(IIII)I"⟩, 5) := ⟨⟨by decide +kernel, by decide +kernel⟩, List.mem_of_getElem? (i := 47) (by decide +kernel), List.mem_of_getElem? (i := 773) (by decide +kernel), List.mem_of_getElem? (i := 774) (by decide +kernel)⟩
theorem lw_p27 : lw_okq (⟨"ChoirRoof$Acts", "runBody", "(III)I"⟩, 5) := ⟨⟨by decide +kernel, by decide +kernel⟩, List.mem_of_getElem? (i := 47) (by decide +kernel), List.mem_of_getElem? (i := 779) (by decide +kernel), List.mem_of_getElem? (i := 780) (by decide +kernel)⟩
theorem lw_p28 : lw_okq (⟨"ChoirRoofModel", "clauseHere", "()V"⟩, 23) := ⟨⟨by decide +kernel, by decide +kernel⟩, List.mem_of_getElem? (i := 811) (by decide +kernel), List.mem_of_getElem? (i := 898) (by decide +kernel), List.mem_of_getElem? (i := 899) (by decide +kernel)⟩
theorem lw_p29 : lw_okq (⟨"ChoirRoofModel", "here", "()I"⟩, 23) := ⟨⟨by decide +kernel, by decide +kernel⟩, List.mem_of_getElem? (i := 811) (by decide +kernel), List.mem_of_getElem? (i := 902) (by decide +kernel), List.mem_of_getElem? (i := 903) (by decide +kernel)⟩
theorem lw_p30 : lw_okq (⟨"ChoirRoofModel", "tellsHere", "(ILjava/lang/String;)V"⟩, 23) := ⟨⟨by decide +kernel, by decide +kernel⟩, List.mem_of_getElem? (i := 811) (by decide +kernel), List.mem_of_getElem? (i := 907) (by decide +kernel), List.mem_of_getElem? (i := 908) (by decide +kernel)⟩
theorem lw_p31 : lw_okq (⟨"ChoirRoofModel", "spells", "(Ljava/lang/String;)V"⟩, 23) := ⟨⟨by decide +kernel, by decide +kernel⟩, List.mem_of_getElem? (i := 811) (by decide +kernel), List.mem_of_getElem? (i := 911) (by decide +kernel), List.mem_of_getElem? (i := 912) (by decide +kernel)⟩
def lw_privs_2 : List (MethodName × Nat) := [(⟨"ChoirRoof", "bestNote", "(I)I"⟩, 11), (⟨"ChoirRoof", "measureChords", "()V"⟩, 11), (⟨"ChoirRoof", "chordNote", "(II)I"⟩, 11), (⟨"ChoirRoof", "bestChord", "()I"⟩, 11), (⟨"ChoirRoof", "singChord", "(I)I"⟩, 11), (⟨"ChoirRoof", "spareBits", "(I)I"⟩, 11), (⟨"ChoirRoof", "looseOf", "(I)I"⟩, 11), (⟨"ChoirRoof", "setShift", "()I"⟩, 11), (⟨"ChoirRoof", "sortHanging", "()I"⟩, 11), (⟨"ChoirRoof", "isDustBy", "(I)Z"⟩, 11), (⟨"ChoirRoof$Acts", "callFrom", "(IIII)I"⟩, 5), (⟨"ChoirRoof$Acts", "runBody", "(III)I"⟩, 5), (⟨"ChoirRoofModel", "clauseHere", "()V"⟩, 23), (⟨"ChoirRoofModel", "here", "()I"⟩, 23), (⟨"ChoirRoofModel", "tellsHere", "(ILjava/lang/String;)V"⟩, 23), (⟨"ChoirRoofModel", "spells", "(Ljava/lang/String;)V"⟩, 23)]
theorem lw_r2 : ∀ q ∈ lw_privs_2, lw_okq q := List.forall_mem_cons.mpr ⟨lw_p16, List.forall_mem_cons.mpr ⟨lw_p17, List.forall_mem_cons.mpr ⟨lw_p18, List.forall_mem_cons.mpr ⟨lw_p19, List.forall_mem_cons.mpr ⟨lw_p20, List.forall_mem_cons.mpr ⟨lw_p21, List.forall_mem_cons.mpr ⟨lw_p22, List.forall_mem_cons.mpr ⟨lw_p23, List.forall_mem_cons.mpr ⟨lw_p24, List.forall_mem_cons.mpr ⟨lw_p25, List.forall_mem_cons.mpr ⟨lw_p26, List.forall_mem_cons.mpr ⟨lw_p27, List.forall_mem_cons.mpr ⟨lw_p28, List.forall_mem_cons.mpr ⟨lw_p29, List.forall_mem_cons.mpr ⟨lw_p30, List.forall_mem_cons.mpr ⟨lw_p31, fun _ h => absurd h List.not_mem_nil⟩⟩⟩⟩⟩⟩⟩⟩⟩⟩⟩⟩⟩⟩⟩⟩
theorem lw_p32 : lw_okq (⟨"ChoirRoofModel", "must", "(I)V"⟩, 23) := ⟨⟨by decide +kernel, by decide +kernel⟩, List.mem_of_getElem? (i := 811) (by decide +kernel), List.mem_of_getElem? (i := 917) (by decide +kernel), List.mem_of_getElem? (i := 918) (by decide +kernel)⟩
theorem lw_p33 : lw_okq (⟨"ChoirRoofModel", "figures", "()I"⟩, 23) := ⟨⟨by decide +kernel, by decide +kernel⟩, List.mem_of_getElem? (i := 811) (by decide +kernel), List.mem_of_getElem? (i := 921) (by decide +kernel), List.mem_of_getElem? (i := 922) (by decide +kernel)⟩
theorem lw_p34 : lw_okq (⟨"ChoirRoofModel", "much", "(ILjava/lang/String;)V"⟩, 23) := ⟨⟨by decide +kernel, by decide +kernel⟩, List.mem_of_getElem? (i := 811) (by decide +kernel), List.mem_of_getElem? (i := 927) (by decide +kernel), List.mem_of_getElem? (i := 928) (by decide +kernel)⟩
theorem lw_p35 : lw_okq (⟨"ChoirRoofModel", "some", "()V"⟩, 23) := ⟨⟨by decide +kernel, by decide +kernel⟩, List.mem_of_getElem? (i := 811) (by decide +kernel), List.mem_of_getElem? (i := 931) (by decide +kernel), List.mem_of_getElem? (i := 932) (by decide +kernel)⟩
theorem lw_p36 : lw_okq (⟨"ChoirRoofModel", "every", "()V"⟩, 23) := ⟨⟨by decide +kernel, by decide +kernel⟩, List.mem_of_getElem? (i := 811) (by decide +kernel), List.mem_of_getElem? (i := 935) (by decide +kernel), List.mem_of_getElem? (i := 936) (by decide +kernel)⟩
theorem lw_p37 : lw_okq (⟨"ChoirRoofModel", "factor", "()V"⟩, 23) := ⟨⟨by decide +kernel, by decide +kernel⟩, List.mem_of_getElem? (i := 811) (by decide +kernel), List.mem_of_getElem? (i := 939) (by decide +kernel), List.mem_of_getElem? (i := 940) (by decide +kernel)⟩
theorem lw_p38 : lw_okq (⟨"ChoirRoofModel", "emits", "(I)V"⟩, 23) := ⟨⟨by decide +kernel, by decide +kernel⟩, List.mem_of_getElem? (i := 811) (by decide +kernel), List.mem_of_getElem? (i := 943) (by decide +kernel), List.mem_of_getElem? (i := 944) (by decide +kernel)⟩
theorem lw_p39 : lw_okq (⟨"ChoirRoofModel", "among", "(Ljava/lang/String;)I"⟩, 23) := ⟨⟨by decide +kernel, by decide +kernel⟩, List.mem_of_getElem? (i := 811) (by decide +kernel), List.mem_of_getElem? (i := 948) (by decide +kernel), List.mem_of_getElem? (i := 949) (by decide +kernel)⟩
theorem lw_p40 : lw_okq (⟨"ChoirRoofModel", "isSinger", "(I)Z"⟩, 23) := ⟨⟨by decide +kernel, by decide +kernel⟩, List.mem_of_getElem? (i := 811) (by decide +kernel), List.mem_of_getElem? (i := 962) (by decide +kernel), List.mem_of_getElem? (i := 963) (by decide +kernel)⟩
theorem lw_p41 : lw_okq (⟨"ChoirRoofModel", "doesSing", "(I)Z"⟩, 23) := ⟨⟨by decide +kernel, by decide +kernel⟩, List.mem_of_getElem? (i := 811) (by decide +kernel), List.mem_of_getElem? (i := 966) (by decide +kernel), List.mem_of_getElem? (i := 967) (by decide +kernel)⟩
theorem lw_p42 : lw_okq (⟨"ChoirRoofModel", "forceOf", "(I)I"⟩, 23) := ⟨⟨by decide +kernel, by decide +kernel⟩, List.mem_of_getElem? (i := 811) (by decide +kernel), List.mem_of_getElem? (i := 970) (by decide +kernel), List.mem_of_getElem? (i := 971) (by decide +kernel)⟩
theorem lw_p43 : lw_okq (⟨"ChoirRoofModel", "strengthOf", "(I)I"⟩, 23) := ⟨⟨by decide +kernel, by decide +kernel⟩, List.mem_of_getElem? (i := 811) (by decide +kernel), List.mem_of_getElem? (i := 974) (by decide +kernel), List.mem_of_getElem? (i := 975) (by decide +kernel)⟩
theorem lw_p44 : lw_okq (⟨"ChoirRoofModel", "looks", "(I)I"⟩, 23) := ⟨⟨by decide +kernel, by decide +kernel⟩, List.mem_of_getElem? (i := 811) (by decide +kernel), List.mem_of_getElem? (i := 978) (by decide +kernel), List.mem_of_getElem? (i := 979) (by decide +kernel)⟩
theorem lw_p45 : lw_okq (⟨"ChoirRoofModel", "tellsOf", "(II)I"⟩, 23) := ⟨⟨by decide +kernel, by decide +kernel⟩, List.mem_of_getElem? (i := 811) (by decide +kernel), List.mem_of_getElem? (i := 982) (by decide +kernel), List.mem_of_getElem? (i := 983) (by decide +kernel)⟩
theorem lw_p46 : lw_okq (⟨"ChoirRoofModel", "looksForForces", "()V"⟩, 23) := ⟨⟨by decide +kernel, by decide +kernel⟩, List.mem_of_getElem? (i := 811) (by decide +kernel), List.mem_of_getElem? (i := 986) (by decide +kernel), List.mem_of_getElem? (i := 987) (by decide +kernel)⟩
theorem lw_p47 : lw_okq (⟨"ChoirRoofModel", "bearsOf", "(II)I"⟩, 23) := ⟨⟨by decide +kernel, by decide +kernel⟩, List.mem_of_getElem? (i := 811) (by decide +kernel), List.mem_of_getElem? (i := 990) (by decide +kernel), List.mem_of_getElem? (i := 991) (by decide +kernel)⟩
def lw_privs_3 : List (MethodName × Nat) := [(⟨"ChoirRoofModel", "must", "(I)V"⟩, 23), (⟨"ChoirRoofModel", "figures", "()I"⟩, 23), (⟨"ChoirRoofModel", "much", "(ILjava/lang/String;)V"⟩, 23), (⟨"ChoirRoofModel", "some", "()V"⟩, 23), (⟨"ChoirRoofModel", "every", "()V"⟩, 23), (⟨"ChoirRoofModel", "factor", "()V"⟩, 23), (⟨"ChoirRoofModel", "emits", "(I)V"⟩, 23), (⟨"ChoirRoofModel", "among", "(Ljava/lang/String;)I"⟩, 23), (⟨"ChoirRoofModel", "isSinger", "(I)Z"⟩, 23), (⟨"ChoirRoofModel", "doesSing", "(I)Z"⟩, 23), (⟨"ChoirRoofModel", "forceOf", "(I)I"⟩, 23), (⟨"ChoirRoofModel", "strengthOf", "(I)I"⟩, 23), (⟨"ChoirRoofModel", "looks", "(I)I"⟩, 23), (⟨"ChoirRoofModel", "tellsOf", "(II)I"⟩, 23), (⟨"ChoirRoofModel", "looksForForces", "()V"⟩, 23), (⟨"ChoirRoofModel", "bearsOf", "(II)I"⟩, 23)]
theorem lw_r3 : ∀ q ∈ lw_privs_3, lw_okq q := List.forall_mem_cons.mpr ⟨lw_p32, List.forall_mem_cons.mpr ⟨lw_p33, List.forall_mem_cons.mpr ⟨lw_p34, List.forall_mem_cons.mpr ⟨lw_p35, List.forall_mem_cons.mpr ⟨lw_p36, List.forall_mem_cons.mpr ⟨lw_p37, List.forall_mem_cons.mpr ⟨lw_p38, List.forall_mem_cons.mpr ⟨lw_p39, List.forall_mem_cons.mpr ⟨lw_p40, List.forall_mem_cons.mpr ⟨lw_p41, List.forall_mem_cons.mpr ⟨lw_p42, List.forall_mem_cons.mpr ⟨lw_p43, List.forall_mem_cons.mpr ⟨lw_p44, List.forall_mem_cons.mpr ⟨lw_p45, List.forall_mem_cons.mpr ⟨lw_p46, List.forall_mem_cons.mpr ⟨lw_p47, fun _ h => absurd h List.not_mem_nil⟩⟩⟩⟩⟩⟩⟩⟩⟩⟩⟩⟩⟩⟩⟩⟩
theorem lw_p48 : lw_okq (⟨"ChoirRoofModel", "isOf", "(II)Z"⟩, 23) := ⟨⟨by decide +kernel, by decide +kernel⟩, List.mem_of_getElem? (i := 811) (by decide +kernel), List.mem_of_getElem? (i := 994) (by decide +kernel), List.mem_of_getElem? (i := 995) (by decide +kernel)⟩
theorem lw_p49 : lw_okq (⟨"ChoirRoofModel", "tunesOf", "(II)I"⟩, 23) := ⟨⟨by decide +kernel, by decide +kernel⟩, List.mem_of_getElem? (i := 811) (by decide +kernel), List.mem_of_getElem? (i := 998) (by decide +kernel), List.mem_of_getElem? (i := 999) (by decide +kernel)⟩
theorem lw_p50 : lw_okq (⟨"ChoirRoofModel", "canSing", "(II)Z"⟩, 23) := ⟨⟨by decide +kernel, by decide +kernel⟩, List.mem_of_getElem? (i := 811) (by decide +kernel), List.mem_of_getElem? (i := 1013) (by decide +kernel), List.mem_of_getElem? (i := 1014) (by decide +kernel)⟩
theorem lw_p51 : lw_okq (⟨"ChoirRoofModel", "highOf", "(I)I"⟩, 23) := ⟨⟨by decide +kernel, by decide +kernel⟩, List.mem_of_getElem? (i := 811) (by decide +kernel), List.mem_of_getElem? (i := 1017) (by decide +kernel), List.mem_of_getElem? (i := 1018) (by decide +kernel)⟩
theorem lw_p52 : lw_okq (⟨"ChoirRoofModel", "isStone", "(I)Z"⟩, 23) := ⟨⟨by decide +kernel, by decide +kernel⟩, List.mem_of_getElem? (i := 811) (by decide +kernel), List.mem_of_getElem? (i := 1033) (by decide +kernel), List.mem_of_getElem? (i := 1034) (by decide +kernel)⟩
theorem lw_p53 : lw_okq (⟨"ChoirRoofModel", "allNow", "()I"⟩, 23) := ⟨⟨by decide +kernel, by decide +kernel⟩, List.mem_of_getElem? (i := 811) (by decide +kernel), List.mem_of_getElem? (i := 1037) (by decide +kernel), List.mem_of_getElem? (i := 1038) (by decide +kernel)⟩
theorem lw_p54 : lw_okq (⟨"ChoirRoofModel", "allBy", "(I)I"⟩, 23) := ⟨⟨by decide +kernel, by decide +kernel⟩, List.mem_of_getElem? (i := 811) (by decide +kernel), List.mem_of_getElem? (i := 1041) (by decide +kernel), List.mem_of_getElem? (i := 1042) (by decide +kernel)⟩
theorem lw_p55 : lw_okq (⟨"ChoirRoofModel", "looseBy", "(I)I"⟩, 23) := ⟨⟨by decide +kernel, by decide +kernel⟩, List.mem_of_getElem? (i := 811) (by decide +kernel), List.mem_of_getElem? (i := 1045) (by decide +kernel), List.mem_of_getElem? (i := 1046) (by decide +kernel)⟩
theorem lw_p56 : lw_okq (⟨"ChoirRoofModel", "doesHang", "(I)Z"⟩, 23) := ⟨⟨by decide +kernel, by decide +kernel⟩, List.mem_of_getElem? (i := 811) (by decide +kernel), List.mem_of_getElem? (i := 1049) (by decide +kernel), List.mem_of_getElem? (i := 1050) (by decide +kernel)⟩
theorem lw_p57 : lw_okq (⟨"ChoirRoofModel", "fallenMany", "()I"⟩, 23) := ⟨⟨by decide +kernel, by decide +kernel⟩, List.mem_of_getElem? (i := 811) (by decide +kernel), List.mem_of_getElem? (i := 1061) (by decide +kernel), List.mem_of_getElem? (i := 1062) (by decide +kernel)⟩
theorem lw_p58 : lw_okq (⟨"ChoirRoofModel", "goes", "()I"⟩, 23) := ⟨⟨by decide +kernel, by decide +kernel⟩, List.mem_of_getElem? (i := 811) (by decide +kernel), List.mem_of_getElem? (i := 1070) (by decide +kernel), List.mem_of_getElem? (i := 1071) (by decide +kernel)⟩
theorem lw_p59 : lw_okq (⟨"ChoirRoofModel", "goesBy", "(I)I"⟩, 23) := ⟨⟨by decide +kernel, by decide +kernel⟩, List.mem_of_getElem? (i := 811) (by decide +kernel), List.mem_of_getElem? (i := 1074) (by decide +kernel), List.mem_of_getElem? (i := 1075) (by decide +kernel)⟩
theorem lw_p60 : lw_okq (⟨"ChoirRoofModel", "keeps", "()V"⟩, 23) := ⟨⟨by decide +kernel, by decide +kernel⟩, List.mem_of_getElem? (i := 811) (by decide +kernel), List.mem_of_getElem? (i := 1085) (by decide +kernel), List.mem_of_getElem? (i := 1086) (by decide +kernel)⟩
theorem lw_p61 : lw_okq (⟨"ChoirRoofModel", "goesBack", "()V"⟩, 23) := ⟨⟨by decide +kernel, by decide +kernel⟩, List.mem_of_getElem? (i := 811) (by decide +kernel), List.mem_of_getElem? (i := 1089) (by decide +kernel), List.mem_of_getElem? (i := 1090) (by decide +kernel)⟩
theorem lw_p62 : lw_okq (⟨"ChoirRoofModel", "looksForNote", "(I)V"⟩, 23) := ⟨⟨by decide +kernel, by decide +kernel⟩, List.mem_of_getElem? (i := 811) (by decide +kernel), List.mem_of_getElem? (i := 1101) (by decide +kernel), List.mem_of_getElem? (i := 1102) (by decide +kernel)⟩
theorem lw_p63 : lw_okq (⟨"ChoirRoofModel", "noteAbove", "(II)I"⟩, 23) := ⟨⟨by decide +kernel, by decide +kernel⟩, List.mem_of_getElem? (i := 811) (by decide +kernel), List.mem_of_getElem? (i := 1109) (by decide +kernel), List.mem_of_getElem? (i := 1110) (by decide +kernel)⟩
def lw_privs_4 : List (MethodName × Nat) := [(⟨"ChoirRoofModel", "isOf", "(II)Z"⟩, 23), (⟨"ChoirRoofModel", "tunesOf", "(II)I"⟩, 23), (⟨"ChoirRoofModel", "canSing", "(II)Z"⟩, 23), (⟨"ChoirRoofModel", "highOf", "(I)I"⟩, 23), (⟨"ChoirRoofModel", "isStone", "(I)Z"⟩, 23), (⟨"ChoirRoofModel", "allNow", "()I"⟩, 23), (⟨"ChoirRoofModel", "allBy", "(I)I"⟩, 23), (⟨"ChoirRoofModel", "looseBy", "(I)I"⟩, 23), (⟨"ChoirRoofModel", "doesHang", "(I)Z"⟩, 23), (⟨"ChoirRoofModel", "fallenMany", "()I"⟩, 23), (⟨"ChoirRoofModel", "goes", "()I"⟩, 23), (⟨"ChoirRoofModel", "goesBy", "(I)I"⟩, 23), (⟨"ChoirRoofModel", "keeps", "()V"⟩, 23), (⟨"ChoirRoofModel", "goesBack", "()V"⟩, 23), (⟨"ChoirRoofModel", "looksForNote", "(I)V"⟩, 23), (⟨"ChoirRoofModel", "noteAbove", "(II)I"⟩, 23)]
theorem lw_r4 : ∀ q ∈ lw_privs_4, lw_okq q := List.forall_mem_cons.mpr ⟨lw_p48, List.forall_mem_cons.mpr ⟨lw_p49, List.forall_mem_cons.mpr ⟨lw_p50, List.forall_mem_cons.mpr ⟨lw_p51, List.forall_mem_cons.mpr ⟨lw_p52, List.forall_mem_cons.mpr ⟨lw_p53, List.forall_mem_cons.mpr ⟨lw_p54, List.forall_mem_cons.mpr ⟨lw_p55, List.forall_mem_cons.mpr ⟨lw_p56, List.forall_mem_cons.mpr ⟨lw_p57, List.forall_mem_cons.mpr ⟨lw_p58, List.forall_mem_cons.mpr ⟨lw_p59, List.forall_mem_cons.mpr ⟨lw_p60, List.forall_mem_cons.mpr ⟨lw_p61, List.forall_mem_cons.mpr ⟨lw_p62, List.forall_mem_cons.mpr ⟨lw_p63, fun _ h => absurd h List.not_mem_nil⟩⟩⟩⟩⟩⟩⟩⟩⟩⟩⟩⟩⟩⟩⟩⟩
theorem lw_p64 : lw_okq (⟨"ChoirRoofModel", "chordsFrom", "(I)V"⟩, 23) := ⟨⟨by decide +kernel, by decide +kernel⟩, List.mem_of_getElem? (i := 811) (by decide +kernel), List.mem_of_getElem? (i := 1113) (by decide +kernel), List.mem_of_getElem? (i := 1114) (by decide +kernel)⟩
theorem lw_p65 : lw_okq (⟨"ChoirRoofModel", "looseMany", "(I)I"⟩, 23) := ⟨⟨by decide +kernel, by decide +kernel⟩, List.mem_of_getElem? (i := 811) (by decide +kernel), List.mem_of_getElem? (i := 1126) (by decide +kernel), List.mem_of_getElem? (i := 1127) (by decide +kernel)⟩
theorem lw_p66 : lw_okq (⟨"ChoirRoofModel", "singing", "()I"⟩, 23) := ⟨⟨by decide +kernel, by decide +kernel⟩, List.mem_of_getElem? (i := 811) (by decide +kernel), List.mem_of_getElem? (i := 1134) (by decide +kernel), List.mem_of_getElem? (i := 1135) (by decide +kernel)⟩
theorem lw_p67 : lw_okq (⟨"ChoirRoofModel", "fewestOf", "(I)I"⟩, 23) := ⟨⟨by decide +kernel, by decide +kernel⟩, List.mem_of_getElem? (i := 811) (by decide +kernel), List.mem_of_getElem? (i := 1138) (by decide +kernel), List.mem_of_getElem? (i := 1139) (by decide +kernel)⟩
theorem lw_p68 : lw_okq (⟨"ChoirRoofModel", "goesRound", "()V"⟩, 23) := ⟨⟨by decide +kernel, by decide +kernel⟩, List.mem_of_getElem? (i := 811) (by decide +kernel), List.mem_of_getElem? (i := 1150) (by decide +kernel), List.mem_of_getElem? (i := 1151) (by decide +kernel)⟩
theorem lw_p69 : lw_okq (⟨"ChoirRoofModel", "weightOf", "(I)I"⟩, 23) := ⟨⟨by decide +kernel, by decide +kernel⟩, List.mem_of_getElem? (i := 811) (by decide +kernel), List.mem_of_getElem? (i := 1158) (by decide +kernel), List.mem_of_getElem? (i := 1159) (by decide +kernel)⟩
theorem lw_p70 : lw_okq (⟨"ChoirRoofModel", "hangingWeight", "()I"⟩, 23) := ⟨⟨by decide +kernel, by decide +kernel⟩, List.mem_of_getElem? (i := 811) (by decide +kernel), List.mem_of_getElem? (i := 1171) (by decide +kernel), List.mem_of_getElem? (i := 1172) (by decide +kernel)⟩
theorem lw_p71 : lw_okq (⟨"ChoirRoofModel", "isFlat", "(I)Z"⟩, 23) := ⟨⟨by decide +kernel, by decide +kernel⟩, List.mem_of_getElem? (i := 811) (by decide +kernel), List.mem_of_getElem? (i := 1183) (by decide +kernel), List.mem_of_getElem? (i := 1184) (by decide +kernel)⟩
theorem lw_p72 : lw_okq (⟨"ChoirRoofModel", "isDust", "(I)Z"⟩, 23) := ⟨⟨by decide +kernel, by decide +kernel⟩, List.mem_of_getElem? (i := 811) (by decide +kernel), List.mem_of_getElem? (i := 1187) (by decide +kernel), List.mem_of_getElem? (i := 1188) (by decide +kernel)⟩
theorem lw_p73 : lw_okq (⟨"ChoirRoofModel", "lightest", "(I)I"⟩, 23) := ⟨⟨by decide +kernel, by decide +kernel⟩, List.mem_of_getElem? (i := 811) (by decide +kernel), List.mem_of_getElem? (i := 1195) (by decide +kernel), List.mem_of_getElem? (i := 1196) (by decide +kernel)⟩
theorem lw_p74 : lw_okq (⟨"ChoirRoofModel", "singsActs", "(I)I"⟩, 23) := ⟨⟨by decide +kernel, by decide +kernel⟩, List.mem_of_getElem? (i := 811) (by decide +kernel), List.mem_of_getElem? (i := 1235) (by decide +kernel), List.mem_of_getElem? (i := 1236) (by decide +kernel)⟩
theorem lw_p75 : lw_okq (⟨"ChoirRoofModel", "ranBody", "(I)V"⟩, 23) := ⟨⟨by decide +kernel, by decide +kernel⟩, List.mem_of_getElem? (i := 811) (by decide +kernel), List.mem_of_getElem? (i := 1242) (by decide +kernel), List.mem_of_getElem? (i := 1243) (by decide +kernel)⟩
theorem lw_p76 : lw_okq (⟨"ChoirRoofModel", "plainSings", "(I)I"⟩, 23) := ⟨⟨by decide +kernel, by decide +kernel⟩, List.mem_of_getElem? (i := 811) (by decide +kernel), List.mem_of_getElem? (i := 1246) (by decide +kernel), List.mem_of_getElem? (i := 1247) (by decide +kernel)⟩
theorem lw_p77 : lw_okq (⟨"ChoirRoofModel", "bearsActs", "(I)I"⟩, 23) := ⟨⟨by decide +kernel, by decide +kernel⟩, List.mem_of_getElem? (i := 811) (by decide +kernel), List.mem_of_getElem? (i := 1250) (by decide +kernel), List.mem_of_getElem? (i := 1251) (by decide +kernel)⟩
theorem lw_p78 : lw_okq (⟨"ChoirRoofModel", "plainBears", "(I)I"⟩, 23) := ⟨⟨by decide +kernel, by decide +kernel⟩, List.mem_of_getElem? (i := 811) (by decide +kernel), List.mem_of_getElem? (i := 1254) (by decide +kernel), List.mem_of_getElem? (i := 1255) (by decide +kernel)⟩
theorem lw_p79 : lw_okq (⟨"ChoirRoofModel", "tellsActs", "(I)I"⟩, 23) := ⟨⟨by decide +kernel, by decide +kernel⟩, List.mem_of_getElem? (i := 811) (by decide +kernel), List.mem_of_getElem? (i := 1258) (by decide +kernel), List.mem_of_getElem? (i := 1259) (by decide +kernel)⟩
def lw_privs_5 : List (MethodName × Nat) := [(⟨"ChoirRoofModel", "chordsFrom", "(I)V"⟩, 23), (⟨"ChoirRoofModel", "looseMany", "(I)I"⟩, 23), (⟨"ChoirRoofModel", "singing", "()I"⟩, 23), (⟨"ChoirRoofModel", "fewestOf", "(I)I"⟩, 23), (⟨"ChoirRoofModel", "goesRound", "()V"⟩, 23), (⟨"ChoirRoofModel", "weightOf", "(I)I"⟩, 23), (⟨"ChoirRoofModel", "hangingWeight", "()I"⟩, 23), (⟨"ChoirRoofModel", "isFlat", "(I)Z"⟩, 23), (⟨"ChoirRoofModel", "isDust", "(I)Z"⟩, 23), (⟨"ChoirRoofModel", "lightest", "(I)I"⟩, 23), (⟨"ChoirRoofModel", "singsActs", "(I)I"⟩, 23), (⟨"ChoirRoofModel", "ranBody", "(I)V"⟩, 23), (⟨"ChoirRoofModel", "plainSings", "(I)I"⟩, 23), (⟨"ChoirRoofModel", "bearsActs", "(I)I"⟩, 23), (⟨"ChoirRoofModel", "plainBears", "(I)I"⟩, 23), (⟨"ChoirRoofModel", "tellsActs", "(I)I"⟩, 23)]
theorem lw_r5 : ∀ q ∈ lw_privs_5, lw_okq q := List.forall_mem_cons.mpr ⟨lw_p64, List.forall_mem_cons.mpr ⟨lw_p65, List.forall_mem_cons.mpr ⟨lw_p66, List.forall_mem_cons.mpr ⟨lw_p67, List.forall_mem_cons.mpr ⟨lw_p68, List.forall_mem_cons.mpr ⟨lw_p69, List.forall_mem_cons.mpr ⟨lw_p70, List.forall_mem_cons.mpr ⟨lw_p71, List.forall_mem_cons.mpr ⟨lw_p72, List.forall_mem_cons.mpr ⟨lw_p73, List.forall_mem_cons.mpr ⟨lw_p74, List.forall_mem_cons.mpr ⟨lw_p75, List.forall_mem_cons.mpr ⟨lw_p76, List.forall_mem_cons.mpr ⟨lw_p77, List.forall_mem_cons.mpr ⟨lw_p78, List.forall_mem_cons.mpr ⟨lw_p79, fun _ h => absurd h List.not_mem_nil⟩⟩⟩⟩⟩⟩⟩⟩⟩⟩⟩⟩⟩⟩⟩⟩
theorem lw_p80 : lw_okq (⟨"ChoirRoofModel", "plainTells", "(I)I"⟩, 23) := ⟨⟨by decide +kernel, by decide +kernel⟩, List.mem_of_getElem? (i := 811) (by decide +kernel), List.mem_of_getElem? (i := 1262) (by decide +kernel), List.mem_of_getElem? (i := 1263) (by decide +kernel)⟩
def lw_privs_6 : List (MethodName × Nat) := [(⟨"ChoirRoofModel", "plainTells", "(I)I"⟩, 23)]
theorem lw_r6 : ∀ q ∈ lw_privs_6, lw_okq q := List.forall_mem_cons.mpr ⟨lw_p80, fun _ h => absurd h List.not_mem_nil⟩
def lw_privs : List (MethodName × Nat) := lw_privs_1 ++ (lw_privs_2 ++ (lw_privs_3 ++ (lw_privs_4 ++ (lw_privs_5 ++ (lw_privs_6)))))
def lw_tbl : List Cond := k2_sels lw_privs ++ tables_1
theorem lw_privs_ok : ∀ q ∈ lw_privs, lw_okq q := by
  show ∀ q ∈ lw_privs_1 ++ (lw_privs_2 ++ (lw_privs_3 ++ (lw_privs_4 ++ (lw_privs_5 ++ (lw_privs_6))))), lw_okq q
  exact List.forall_mem_append.mpr ⟨lw_r1, List.forall_mem_append.mpr ⟨lw_r2, List.forall_mem_append.mpr ⟨lw_r3, List.forall_mem_append.mpr ⟨lw_r4, List.forall_mem_append.mpr ⟨lw_r5, lw_r6⟩⟩⟩⟩⟩
/-! ===== BEGIN words of one list among another's, by their places ===== -/
theorem goodIn_r {big : List Cond} (ws : List Cond) (ps : List Nat) (hp : ws = ps.filterMap (fun i => big[i]?)) (h : ws.all goodWord = true) : GoodIn big ws := by
  intro w hw
  have h1 := List.all_eq_true.mp h w hw
  rw [hp] at hw
  obtain ⟨i, -, hi⟩ := List.mem_filterMap.mp hw
  have hm : w ∈ big := by first | exact List.mem_of_getElem? hi | exact List.getElem?_mem hi
  exact ⟨hm, good_of_word h1⟩
theorem goodIn_app {big a b : List Cond} (ha : GoodIn big a) (hb : GoodIn big b) : GoodIn big (a ++ b) := fun w h => (List.mem_append.mp h).elim (ha w) (hb w)
theorem goodIn_ca {big a b : List Cond} {c : Cond} (ha : GoodIn big (c :: a)) (hb : GoodIn big b) : GoodIn big (c :: (a ++ b)) := fun w h => (List.mem_cons.mp h).elim (fun e => ha w (List.mem_cons.mpr (Or.inl e))) (fun h => (List.mem_append.mp h).elim (fun h => ha w (List.mem_cons.mpr (Or.inr h))) (hb w))
theorem goodIn_sub {big ws : List Cond} (hm : ∀ w ∈ ws, w ∈ big) (h : ws.all goodWord = true) : GoodIn big ws := fun w hw => ⟨hm w hw, good_of_word (List.all_eq_true.mp h w hw)⟩
/-! ===== END ===== -/
def RX0 : String := "ChoirRoof$Acts"
def TX0 : u_T := fun k => match k with
  | 0 => ("ChoirRoof$Acts", "number", "I", false)
  | 1 => ("ChoirRoof$Acts", "kind", "I", false)
  | 2 => ("ChoirRoof$Acts", "v", "I", false)
  | 3 => ("ChoirRoof$Acts", "ran", "I", false)
  | _ => ("ChoirRoof$Acts", "kept", "[I", true)
def tyX0 : Nat → FieldType := fun k => match k with
  | 0 => .int
  | 1 => .int
  | 2 => .int
  | 3 => .int
  | _ => .array .int
abbrev wsX00 : List Cond := u_ws RX0 TX0 5
theorem nmX0 : ∀ a, a < 5 → ∀ b, b < 5 → a ≠ b → (TX0 a).2.1 ≠ (TX0 b).2.1 := by decide +kernel
theorem tyX0_ok : ∀ k, k < 5 → parseFieldDescriptor (TX0 k).2.2.1 = some (tyX0 k) := by decide +kernel
abbrev cX0_init : ByteArray := prog_2_method_1_code
def yX0_init : MethodName := ⟨RX0, "<init>", "()V"⟩
abbrev cX0_perform : ByteArray := prog_2_method_2_code
def yX0_perform : MethodName := ⟨RX0, "perform", "(II)I"⟩
abbrev cX0_callFrom : ByteArray := prog_2_method_3_code
def yX0_callFrom : MethodName := ⟨RX0, "callFrom", "(IIII)I"⟩
abbrev cX0_runBody : ByteArray := prog_2_method_4_code
def yX0_runBody : MethodName := ⟨RX0, "runBody", "(III)I"⟩
def RX1 : String := "ChoirRoof$Choir"
def TX1 : u_T := fun k => match k with
  | 0 => ("ChoirRoof$Choir", "singers", "I", false)
  | 1 => ("ChoirRoof$Choir", "stones", "I", false)
  | 2 => ("ChoirRoof$Choir", "beat", "I", false)
  | 3 => ("ChoirRoof$Choir", "held", "LChoirRoof$Setting;", false)
  | 4 => ("ChoirRoof$Choir", "kind", "[I", true)
  | 5 => ("ChoirRoof$Choir", "v", "[I", true)
  | 6 => ("ChoirRoof$Choir", "low", "[I", true)
  | 7 => ("ChoirRoof$Choir", "note", "[I", true)
  | 8 => ("ChoirRoof$Choir", "tired", "[I", true)
  | 9 => ("ChoirRoof$Choir", "rows", "[I", true)
  | 10 => ("ChoirRoof$Choir", "weight", "[I", true)
  | 11 => ("ChoirRoof$Choir", "propped", "[I", true)
  | 12 => ("ChoirRoof$Choir", "fallen", "[I", true)
  | 13 => ("ChoirRoof$Choir", "force", "[I", true)
  | _ => ("ChoirRoof$Choir", "about", "[I", true)
def tyX1 : Nat → FieldType := fun k => match k with
  | 0 => .int
  | 1 => .int
  | 2 => .int
  | 3 => .object "ChoirRoof$Setting"
  | 4 => .array .int
  | 5 => .array .int
  | 6 => .array .int
  | 7 => .array .int
  | 8 => .array .int
  | 9 => .array .int
  | 10 => .array .int
  | 11 => .array .int
  | 12 => .array .int
  | 13 => .array .int
  | _ => .array .int
abbrev wsX10 : List Cond := u_ws RX1 TX1 15
theorem nmX1 : ∀ a, a < 15 → ∀ b, b < 15 → a ≠ b → (TX1 a).2.1 ≠ (TX1 b).2.1 := by decide +kernel
theorem tyX1_ok : ∀ k, k < 15 → parseFieldDescriptor (TX1 k).2.2.1 = some (tyX1 k) := by decide +kernel
abbrev cX1_init : ByteArray := prog_3_method_1_code
def yX1_init : MethodName := ⟨RX1, "<init>", "(LChoirRoof$Setting;)V"⟩
abbrev cX1_become : ByteArray := prog_3_method_2_code
def yX1_become : MethodName := ⟨RX1, "become", "(LChoirRoof$Choir;)V"⟩
abbrev cX1_addSinger : ByteArray := prog_3_method_3_code
def yX1_addSinger : MethodName := ⟨RX1, "addSinger", "(III)I"⟩
abbrev cX1_addStone : ByteArray := prog_3_method_4_code
def yX1_addStone : MethodName := ⟨RX1, "addStone", "(I)I"⟩
abbrev cX1_highOf : ByteArray := prog_3_method_5_code
def yX1_highOf : MethodName := ⟨RX1, "highOf", "(I)I"⟩
abbrev cX1_canSing : ByteArray := prog_3_method_6_code
def yX1_canSing : MethodName := ⟨RX1, "canSing", "(II)Z"⟩
abbrev cX1_singing : ByteArray := prog_3_method_7_code
def yX1_singing : MethodName := ⟨RX1, "singing", "()I"⟩
abbrev cX1_measure : ByteArray := prog_3_method_8_code
def yX1_measure : MethodName := ⟨RX1, "measure", "()V"⟩
abbrev cX1_forceOf : ByteArray := prog_3_method_9_code
def yX1_forceOf : MethodName := ⟨RX1, "forceOf", "(I)I"⟩
abbrev cX1_strengthOf : ByteArray := prog_3_method_10_code
def yX1_strengthOf : MethodName := ⟨RX1, "strengthOf", "(I)I"⟩
abbrev cX1_partners : ByteArray := prog_3_method_11_code
def yX1_partners : MethodName := ⟨RX1, "partners", "(II)I"⟩
abbrev cX1_bearing : ByteArray := prog_3_method_12_code
def yX1_bearing : MethodName := ⟨RX1, "bearing", "(II)I"⟩
abbrev cX1_allOf : ByteArray := prog_3_method_13_code
def yX1_allOf : MethodName := ⟨RX1, "allOf", "(I)I"⟩
abbrev cX1_allNow : ByteArray := prog_3_method_14_code
def yX1_allNow : MethodName := ⟨RX1, "allNow", "()I"⟩
abbrev cX1_hangs : ByteArray := prog_3_method_15_code
def yX1_hangs : MethodName := ⟨RX1, "hangs", "(I)Z"⟩
abbrev cX1_sumHanging : ByteArray := prog_3_method_16_code
def yX1_sumHanging : MethodName := ⟨RX1, "sumHanging", "()I"⟩
abbrev cX1_looseBits : ByteArray := prog_3_method_17_code
def yX1_looseBits : MethodName := ⟨RX1, "looseBits", "(I)I"⟩
abbrev cX1_countFallen : ByteArray := prog_3_method_18_code
def yX1_countFallen : MethodName := ⟨RX1, "countFallen", "()I"⟩
abbrev cX1_sumTired : ByteArray := prog_3_method_19_code
def yX1_sumTired : MethodName := ⟨RX1, "sumTired", "()I"⟩
abbrev cX1_goBeat : ByteArray := prog_3_method_20_code
def yX1_goBeat : MethodName := ⟨RX1, "goBeat", "()I"⟩
abbrev cX1_goRound : ByteArray := prog_3_method_21_code
def yX1_goRound : MethodName := ⟨RX1, "goRound", "()V"⟩
abbrev cX1_keepNotes : ByteArray := prog_3_method_22_code
def yX1_keepNotes : MethodName := ⟨RX1, "keepNotes", "(LChoirRoof$Choir;I)V"⟩
def RX2 : String := "ChoirRoof$Reader"
def TX2 : u_T := fun k => match k with
  | 0 => ("ChoirRoof$Reader", "tape", "[I", false)
  | 1 => ("ChoirRoof$Reader", "size", "I", false)
  | 2 => ("ChoirRoof$Reader", "place", "I", false)
  | _ => ("ChoirRoof$Reader", "into", "LChoirRoof$Setting;", false)
def tyX2 : Nat → FieldType := fun k => match k with
  | 0 => .array .int
  | 1 => .int
  | 2 => .int
  | _ => .object "ChoirRoof$Setting"
abbrev wsX20 : List Cond := u_ws RX2 TX2 4
theorem nmX2 : ∀ a, a < 4 → ∀ b, b < 4 → a ≠ b → (TX2 a).2.1 ≠ (TX2 b).2.1 := by decide +kernel
theorem tyX2_ok : ∀ k, k < 4 → parseFieldDescriptor (TX2 k).2.2.1 = some (tyX2 k) := by decide +kernel
abbrev cX2_init : ByteArray := prog_4_method_1_code
def yX2_init : MethodName := ⟨RX2, "<init>", "()V"⟩
abbrev cX2_read : ByteArray := prog_4_method_2_code
def yX2_read : MethodName := ⟨RX2, "read", "([IILChoirRoof$Setting;)I"⟩
abbrev cX2_peek : ByteArray := prog_4_method_3_code
def yX2_peek : MethodName := ⟨RX2, "peek", "()I"⟩
abbrev cX2_take : ByteArray := prog_4_method_4_code
def yX2_take : MethodName := ⟨RX2, "take", "(C)Z"⟩
abbrev cX2_readClause : ByteArray := prog_4_method_5_code
def yX2_readClause : MethodName := ⟨RX2, "readClause", "()Z"⟩
abbrev cX2_readWord : ByteArray := prog_4_method_6_code
def yX2_readWord : MethodName := ⟨RX2, "readWord", "(Ljava/lang/String;)Z"⟩
abbrev cX2_readRest : ByteArray := prog_4_method_7_code
def yX2_readRest : MethodName := ⟨RX2, "readRest", "(I)Z"⟩
abbrev cX2_readNumber : ByteArray := prog_4_method_8_code
def yX2_readNumber : MethodName := ⟨RX2, "readNumber", "()I"⟩
abbrev cX2_readEither : ByteArray := prog_4_method_9_code
def yX2_readEither : MethodName := ⟨RX2, "readEither", "(I)Z"⟩
abbrev cX2_readBoth : ByteArray := prog_4_method_10_code
def yX2_readBoth : MethodName := ⟨RX2, "readBoth", "(I)Z"⟩
abbrev cX2_readFactor : ByteArray := prog_4_method_11_code
def yX2_readFactor : MethodName := ⟨RX2, "readFactor", "(I)Z"⟩
abbrev cX2_readTest : ByteArray := prog_4_method_12_code
def yX2_readTest : MethodName := ⟨RX2, "readTest", "()Z"⟩
abbrev cX2_indexOfNext : ByteArray := prog_4_method_13_code
def yX2_indexOfNext : MethodName := ⟨RX2, "indexOfNext", "(Ljava/lang/String;)I"⟩
def RX3 : String := "ChoirRoof$Setting"
def TX3 : u_T := fun k => match k with
  | 0 => ("ChoirRoof$Setting", "clauses", "I", false)
  | 1 => ("ChoirRoof$Setting", "used", "I", false)
  | 2 => ("ChoirRoof$Setting", "ease", "I", false)
  | 3 => ("ChoirRoof$Setting", "weary", "I", false)
  | 4 => ("ChoirRoof$Setting", "word", "[I", true)
  | 5 => ("ChoirRoof$Setting", "number", "[I", true)
  | 6 => ("ChoirRoof$Setting", "from", "[I", true)
  | 7 => ("ChoirRoof$Setting", "to", "[I", true)
  | _ => ("ChoirRoof$Setting", "code", "[I", true)
def tyX3 : Nat → FieldType := fun k => match k with
  | 0 => .int
  | 1 => .int
  | 2 => .int
  | 3 => .int
  | 4 => .array .int
  | 5 => .array .int
  | 6 => .array .int
  | 7 => .array .int
  | _ => .array .int
abbrev wsX30 : List Cond := u_ws RX3 TX3 9
theorem nmX3 : ∀ a, a < 9 → ∀ b, b < 9 → a ≠ b → (TX3 a).2.1 ≠ (TX3 b).2.1 := by decide +kernel
theorem tyX3_ok : ∀ k, k < 9 → parseFieldDescriptor (TX3 k).2.2.1 = some (tyX3 k) := by decide +kernel
abbrev cX3_init : ByteArray := prog_5_method_1_code
def yX3_init : MethodName := ⟨RX3, "<init>", "()V"⟩
abbrev cX3_clear : ByteArray := prog_5_method_2_code
def yX3_clear : MethodName := ⟨RX3, "clear", "()V"⟩
abbrev cX3_addToken : ByteArray := prog_5_method_3_code
def yX3_addToken : MethodName := ⟨RX3, "addToken", "(I)V"⟩
abbrev cX3_addClause : ByteArray := prog_5_method_4_code
def yX3_addClause : MethodName := ⟨RX3, "addClause", "(III)V"⟩
abbrev cX3_gainOf : ByteArray := prog_5_method_5_code
def yX3_gainOf : MethodName := ⟨RX3, "gainOf", "([I)I"⟩
abbrev cX3_holds : ByteArray := prog_5_method_6_code
def yX3_holds : MethodName := ⟨RX3, "holds", "(I[I)Z"⟩
def RX4 : String := "ChoirRoof$Sheets"
def TX4 : u_T := fun k => match k with
  | 0 => ("ChoirRoof$Sheets", "signs", "I", false)
  | 1 => ("ChoirRoof$Sheets", "settings", "I", false)
  | 2 => ("ChoirRoof$Sheets", "dusts", "I", false)
  | 3 => ("ChoirRoof$Sheets", "plans", "I", false)
  | 4 => ("ChoirRoof$Sheets", "books", "I", false)
  | 5 => ("ChoirRoof$Sheets", "tape", "[I", true)
  | 6 => ("ChoirRoof$Sheets", "dustBeats", "[I", true)
  | 7 => ("ChoirRoof$Sheets", "dustFallen", "[I", true)
  | 8 => ("ChoirRoof$Sheets", "planSingers", "[I", true)
  | 9 => ("ChoirRoof$Sheets", "planNotes", "[I", true)
  | 10 => ("ChoirRoof$Sheets", "bookSingers", "[I", true)
  | _ => ("ChoirRoof$Sheets", "bookBears", "[I", true)
def tyX4 : Nat → FieldType := fun k => match k with
  | 0 => .int
  | 1 => .int
  | 2 => .int
  | 3 => .int
  | 4 => .int
  | 5 => .array .int
  | 6 => .array .int
  | 7 => .array .int
  | 8 => .array .int
  | 9 => .array .int
  | 10 => .array .int
  | _ => .array .int
abbrev wsX40 : List Cond := u_ws RX4 TX4 12
theorem nmX4 : ∀ a, a < 12 → ∀ b, b < 12 → a ≠ b → (TX4 a).2.1 ≠ (TX4 b).2.1 := by decide +kernel
theorem tyX4_ok : ∀ k, k < 12 → parseFieldDescriptor (TX4 k).2.2.1 = some (tyX4 k) := by decide +kernel
abbrev cX4_init : ByteArray := prog_6_method_1_code
def yX4_init : MethodName := ⟨RX4, "<init>", "()V"⟩
abbrev cX4_become : ByteArray := prog_6_method_2_code
def yX4_become : MethodName := ⟨RX4, "become", "(LChoirRoof$Sheets;)V"⟩
def RX5 : String := "ChoirRoof"
def TX5 : u_T := fun k => match k with
  | 0 => ("ChoirRoof", "settings", "[LChoirRoof$Setting;", true)
  | 1 => ("ChoirRoof", "reader", "LChoirRoof$Reader;", true)
  | 2 => ("ChoirRoof", "acts", "LChoirRoof$Acts;", true)
  | 3 => ("ChoirRoof", "now", "LChoirRoof$Choir;", true)
  | 4 => ("ChoirRoof", "then", "LChoirRoof$Choir;", true)
  | 5 => ("ChoirRoof", "imageChoir", "LChoirRoof$Choir;", true)
  | 6 => ("ChoirRoof", "sheets", "LChoirRoof$Sheets;", true)
  | 7 => ("ChoirRoof", "imageSheets", "LChoirRoof$Sheets;", true)
  | 8 => ("ChoirRoof", "chordForces", "[I", true)
  | 9 => ("ChoirRoof", "sorted", "[I", true)
  | _ => ("ChoirRoof", "imaged", "Z", false)
def tyX5 : Nat → FieldType := fun k => match k with
  | 0 => .array (.object "ChoirRoof$Setting")
  | 1 => .object "ChoirRoof$Reader"
  | 2 => .object "ChoirRoof$Acts"
  | 3 => .object "ChoirRoof$Choir"
  | 4 => .object "ChoirRoof$Choir"
  | 5 => .object "ChoirRoof$Choir"
  | 6 => .object "ChoirRoof$Sheets"
  | 7 => .object "ChoirRoof$Sheets"
  | 8 => .array .int
  | 9 => .array .int
  | _ => .boolean
abbrev wsX50 : List Cond := u_ws RX5 TX5 11
theorem nmX5 : ∀ a, a < 11 → ∀ b, b < 11 → a ≠ b → (TX5 a).2.1 ≠ (TX5 b).2.1 := by decide +kernel
theorem tyX5_ok : ∀ k, k < 11 → parseFieldDescriptor (TX5 k).2.2.1 = some (tyX5 k) := by decide +kernel
abbrev cX5_init : ByteArray := prog_1_method_1_code
def yX5_init : MethodName := ⟨RX5, "<init>", "()V"⟩
abbrev cX5_feed : ByteArray := prog_1_method_2_code
def yX5_feed : MethodName := ⟨RX5, "feed", "(I)I"⟩
abbrev cX5_setting : ByteArray := prog_1_method_3_code
def yX5_setting : MethodName := ⟨RX5, "setting", "()I"⟩
abbrev cX5_singer : ByteArray := prog_1_method_4_code
def yX5_singer : MethodName := ⟨RX5, "singer", "(III)I"⟩
abbrev cX5_of : ByteArray := prog_1_method_5_code
def yX5_of : MethodName := ⟨RX5, "of", "(II)I"⟩
abbrev cX5_row : ByteArray := prog_1_method_6_code
def yX5_row : MethodName := ⟨RX5, "row", "(III)I"⟩
abbrev cX5_sing : ByteArray := prog_1_method_7_code
def yX5_sing : MethodName := ⟨RX5, "sing", "(II)I"⟩
abbrev cX5_tire : ByteArray := prog_1_method_8_code
def yX5_tire : MethodName := ⟨RX5, "tire", "(II)I"⟩
abbrev cX5_stone : ByteArray := prog_1_method_9_code
def yX5_stone : MethodName := ⟨RX5, "stone", "(I)I"⟩
abbrev cX5_at : ByteArray := prog_1_method_10_code
def yX5_at : MethodName := ⟨RX5, "at", "(II)I"⟩
abbrev cX5_prop : ByteArray := prog_1_method_11_code
def yX5_prop : MethodName := ⟨RX5, "prop", "(IZ)I"⟩
abbrev cX5_told : ByteArray := prog_1_method_12_code
def yX5_told : MethodName := ⟨RX5, "told", "(I)I"⟩
abbrev cX5_beat : ByteArray := prog_1_method_13_code
def yX5_beat : MethodName := ⟨RX5, "beat", "()I"⟩
abbrev cX5_on : ByteArray := prog_1_method_14_code
def yX5_on : MethodName := ⟨RX5, "on", "(II)I"⟩
abbrev cX5_steady : ByteArray := prog_1_method_15_code
def yX5_steady : MethodName := ⟨RX5, "steady", "()I"⟩
abbrev cX5_best : ByteArray := prog_1_method_16_code
def yX5_best : MethodName := ⟨RX5, "best", "(II)I"⟩
abbrev cX5_chord : ByteArray := prog_1_method_17_code
def yX5_chord : MethodName := ⟨RX5, "chord", "(I)I"⟩
abbrev cX5_needed : ByteArray := prog_1_method_18_code
def yX5_needed : MethodName := ⟨RX5, "needed", "()I"⟩
abbrev cX5_spare : ByteArray := prog_1_method_19_code
def yX5_spare : MethodName := ⟨RX5, "spare", "()I"⟩
abbrev cX5_shift : ByteArray := prog_1_method_20_code
def yX5_shift : MethodName := ⟨RX5, "shift", "(II)I"⟩
abbrev cX5_ill : ByteArray := prog_1_method_21_code
def yX5_ill : MethodName := ⟨RX5, "ill", "(I)I"⟩
abbrev cX5_canon : ByteArray := prog_1_method_22_code
def yX5_canon : MethodName := ⟨RX5, "canon", "(II)I"⟩
abbrev cX5_props : ByteArray := prog_1_method_23_code
def yX5_props : MethodName := ⟨RX5, "props", "(I)I"⟩
abbrev cX5_critical : ByteArray := prog_1_method_24_code
def yX5_critical : MethodName := ⟨RX5, "critical", "(I)I"⟩
abbrev cX5_load : ByteArray := prog_1_method_25_code
def yX5_load : MethodName := ⟨RX5, "load", "()I"⟩
abbrev cX5_dust : ByteArray := prog_1_method_26_code
def yX5_dust : MethodName := ⟨RX5, "dust", "(II)I"⟩
abbrev cX5_flat : ByteArray := prog_1_method_27_code
def yX5_flat : MethodName := ⟨RX5, "flat", "()I"⟩
abbrev cX5_order : ByteArray := prog_1_method_28_code
def yX5_order : MethodName := ⟨RX5, "order", "(I)I"⟩
abbrev cX5_odds : ByteArray := prog_1_method_29_code
def yX5_odds : MethodName := ⟨RX5, "odds", "(I)J"⟩
abbrev cX5_mean : ByteArray := prog_1_method_30_code
def yX5_mean : MethodName := ⟨RX5, "mean", "(II)J"⟩
abbrev cX5_wage : ByteArray := prog_1_method_31_code
def yX5_wage : MethodName := ⟨RX5, "wage", "(II)J"⟩
abbrev cX5_plan : ByteArray := prog_1_method_32_code
def yX5_plan : MethodName := ⟨RX5, "plan", "(II)I"⟩
abbrev cX5_planned : ByteArray := prog_1_method_33_code
def yX5_planned : MethodName := ⟨RX5, "planned", "(I)I"⟩
abbrev cX5_book : ByteArray := prog_1_method_34_code
def yX5_book : MethodName := ⟨RX5, "book", "(II)I"⟩
abbrev cX5_looked : ByteArray := prog_1_method_35_code
def yX5_looked : MethodName := ⟨RX5, "looked", "()I"⟩
abbrev cX5_act : ByteArray := prog_1_method_36_code
def yX5_act : MethodName := ⟨RX5, "act", "(III)I"⟩
abbrev cX5_trace : ByteArray := prog_1_method_37_code
def yX5_trace : MethodName := ⟨RX5, "trace", "(I)I"⟩
abbrev cX5_as : ByteArray := prog_1_method_38_code
def yX5_as : MethodName := ⟨RX5, "as", "(II)I"⟩
abbrev cX5_image : ByteArray := prog_1_method_39_code
def yX5_image : MethodName := ⟨RX5, "image", "()I"⟩
abbrev cX5_undo : ByteArray := prog_1_method_40_code
def yX5_undo : MethodName := ⟨RX5, "undo", "()I"⟩
abbrev cX5_count : ByteArray := prog_1_method_41_code
def yX5_count : MethodName := ⟨RX5, "count", "(I)I"⟩
abbrev cX5_isSinger : ByteArray := prog_1_method_42_code
def yX5_isSinger : MethodName := ⟨RX5, "isSinger", "(I)Z"⟩
abbrev cX5_isStone : ByteArray := prog_1_method_43_code
def yX5_isStone : MethodName := ⟨RX5, "isStone", "(I)Z"⟩
abbrev cX5_hasBit : ByteArray := prog_1_method_44_code
def yX5_hasBit : MethodName := ⟨RX5, "hasBit", "(II)Z"⟩
abbrev cX5_bestNote : ByteArray := prog_1_method_45_code
def yX5_bestNote : MethodName := ⟨RX5, "bestNote", "(I)I"⟩
abbrev cX5_measureChords : ByteArray := prog_1_method_46_code
def yX5_measureChords : MethodName := ⟨RX5, "measureChords", "()V"⟩
abbrev cX5_chordNote : ByteArray := prog_1_method_47_code
def yX5_chordNote : MethodName := ⟨RX5, "chordNote", "(II)I"⟩
abbrev cX5_bestChord : ByteArray := prog_1_method_48_code
def yX5_bestChord : MethodName := ⟨RX5, "bestChord", "()I"⟩
abbrev cX5_singChord : ByteArray := prog_1_method_49_code
def yX5_singChord : MethodName := ⟨RX5, "singChord", "(I)I"⟩
abbrev cX5_looseOf : ByteArray := prog_1_method_50_code
def yX5_looseOf : MethodName := ⟨RX5, "looseOf", "(I)I"⟩
abbrev cX5_spareBits : ByteArray := prog_1_method_51_code
def yX5_spareBits : MethodName := ⟨RX5, "spareBits", "(I)I"⟩
abbrev cX5_setShift : ByteArray := prog_1_method_52_code
def yX5_setShift : MethodName := ⟨RX5, "setShift", "()I"⟩
abbrev cX5_isDustBy : ByteArray := prog_1_method_53_code
def yX5_isDustBy : MethodName := ⟨RX5, "isDustBy", "(I)Z"⟩
abbrev cX5_sortHanging : ByteArray := prog_1_method_54_code
def yX5_sortHanging : MethodName := ⟨RX5, "sortHanging", "()I"⟩
abbrev cX5_inLowestTerms : ByteArray := prog_1_method_55_code
def yX5_inLowestTerms : MethodName := ⟨RX5, "inLowestTerms", "(III)J"⟩
abbrev cX5_commonDivisor : ByteArray := prog_1_method_56_code
def yX5_commonDivisor : MethodName := ⟨RX5, "commonDivisor", "(II)I"⟩
def RX6 : String := "ChoirRoofModel"
def TX6 : u_T := fun k => match k with
  | 0 => ("ChoirRoofModel", "thrown", "I", false)
  | 1 => ("ChoirRoofModel", "s", "[I", true)
  | 2 => ("ChoirRoofModel", "image", "[I", true)
  | 3 => ("ChoirRoofModel", "frame", "[I", true)
  | 4 => ("ChoirRoofModel", "hasImage", "Z", false)
  | 5 => ("ChoirRoofModel", "act", "I", false)
  | 6 => ("ChoirRoofModel", "spot", "I", false)
  | 7 => ("ChoirRoofModel", "end", "I", false)
  | 8 => ("ChoirRoofModel", "isWrong", "Z", false)
  | 9 => ("ChoirRoofModel", "open", "I", false)
  | 10 => ("ChoirRoofModel", "by", "[I", true)
  | 11 => ("ChoirRoofModel", "truths", "[Z", true)
  | 12 => ("ChoirRoofModel", "forces", "[I", true)
  | 13 => ("ChoirRoofModel", "bestNote", "I", false)
  | 14 => ("ChoirRoofModel", "mostAll", "I", false)
  | 15 => ("ChoirRoofModel", "fives", "[I", true)
  | 16 => ("ChoirRoofModel", "bestChord", "[I", true)
  | 17 => ("ChoirRoofModel", "notes", "[I", true)
  | 18 => ("ChoirRoofModel", "bodies", "[I", true)
  | 19 => ("ChoirRoofModel", "ran", "I", false)
  | 20 => ("ChoirRoofModel", "kind", "I", false)
  | 21 => ("ChoirRoofModel", "number", "I", false)
  | _ => ("ChoirRoofModel", "tellsV", "I", false)
def tyX6 : Nat → FieldType := fun k => match k with
  | 0 => .int
  | 1 => .array .int
  | 2 => .array .int
  | 3 => .array .int
  | 4 => .boolean
  | 5 => .int
  | 6 => .int
  | 7 => .int
  | 8 => .boolean
  | 9 => .int
  | 10 => .array .int
  | 11 => .array .boolean
  | 12 => .array .int
  | 13 => .int
  | 14 => .int
  | 15 => .array .int
  | 16 => .array .int
  | 17 => .array .int
  | 18 => .array .int
  | 19 => .int
  | 20 => .int
  | 21 => .int
  | _ => .int
abbrev wsX60 : List Cond := u_ws RX6 TX6 23
theorem nmX6 : ∀ a, a < 23 → ∀ b, b < 23 → a ≠ b → (TX6 a).2.1 ≠ (TX6 b).2.1 := by decide +kernel
theorem tyX6_ok : ∀ k, k < 23 → parseFieldDescriptor (TX6 k).2.2.1 = some (tyX6 k) := by decide +kernel
abbrev cX6_init : ByteArray := prog_8_method_1_code
def yX6_init : MethodName := ⟨RX6, "<init>", "()V"⟩
abbrev cX6_in : ByteArray := prog_8_method_3_code
def yX6_in : MethodName := ⟨RX6, "in", "(III)Z"⟩
abbrev cX6_isSinger : ByteArray := prog_8_method_4_code
def yX6_isSinger : MethodName := ⟨RX6, "isSinger", "(I)Z"⟩
abbrev cX6_isStone : ByteArray := prog_8_method_5_code
def yX6_isStone : MethodName := ⟨RX6, "isStone", "(I)Z"⟩
abbrev cX6_doesSing : ByteArray := prog_8_method_6_code
def yX6_doesSing : MethodName := ⟨RX6, "doesSing", "(I)Z"⟩
abbrev cX6_keeps : ByteArray := prog_8_method_7_code
def yX6_keeps : MethodName := ⟨RX6, "keeps", "()V"⟩
abbrev cX6_goesBack : ByteArray := prog_8_method_8_code
def yX6_goesBack : MethodName := ⟨RX6, "goesBack", "()V"⟩
abbrev cX6_feed : ByteArray := prog_8_method_9_code
def yX6_feed : MethodName := ⟨RX6, "feed", "(I)I"⟩
abbrev cX6_here : ByteArray := prog_8_method_10_code
def yX6_here : MethodName := ⟨RX6, "here", "()I"⟩
abbrev cX6_must : ByteArray := prog_8_method_11_code
def yX6_must : MethodName := ⟨RX6, "must", "(I)V"⟩
abbrev cX6_spells : ByteArray := prog_8_method_12_code
def yX6_spells : MethodName := ⟨RX6, "spells", "(Ljava/lang/String;)V"⟩
abbrev cX6_figures : ByteArray := prog_8_method_13_code
def yX6_figures : MethodName := ⟨RX6, "figures", "()I"⟩
abbrev cX6_among : ByteArray := prog_8_method_14_code
def yX6_among : MethodName := ⟨RX6, "among", "(Ljava/lang/String;)I"⟩
abbrev cX6_emits : ByteArray := prog_8_method_15_code
def yX6_emits : MethodName := ⟨RX6, "emits", "(I)V"⟩
abbrev cX6_factor : ByteArray := prog_8_method_16_code
def yX6_factor : MethodName := ⟨RX6, "factor", "()V"⟩
abbrev cX6_every : ByteArray := prog_8_method_17_code
def yX6_every : MethodName := ⟨RX6, "every", "()V"⟩
abbrev cX6_some : ByteArray := prog_8_method_18_code
def yX6_some : MethodName := ⟨RX6, "some", "()V"⟩
abbrev cX6_much : ByteArray := prog_8_method_19_code
def yX6_much : MethodName := ⟨RX6, "much", "(ILjava/lang/String;)V"⟩
abbrev cX6_tellsHere : ByteArray := prog_8_method_20_code
def yX6_tellsHere : MethodName := ⟨RX6, "tellsHere", "(ILjava/lang/String;)V"⟩
abbrev cX6_clauseHere : ByteArray := prog_8_method_21_code
def yX6_clauseHere : MethodName := ⟨RX6, "clauseHere", "()V"⟩
abbrev cX6_setting : ByteArray := prog_8_method_22_code
def yX6_setting : MethodName := ⟨RX6, "setting", "()I"⟩
abbrev cX6_tellsOf : ByteArray := prog_8_method_23_code
def yX6_tellsOf : MethodName := ⟨RX6, "tellsOf", "(II)I"⟩
abbrev cX6_looks : ByteArray := prog_8_method_24_code
def yX6_looks : MethodName := ⟨RX6, "looks", "(I)I"⟩
abbrev cX6_strengthOf : ByteArray := prog_8_method_25_code
def yX6_strengthOf : MethodName := ⟨RX6, "strengthOf", "(I)I"⟩
abbrev cX6_forceOf : ByteArray := prog_8_method_26_code
def yX6_forceOf : MethodName := ⟨RX6, "forceOf", "(I)I"⟩
abbrev cX6_isTune : ByteArray := prog_8_method_27_code
def yX6_isTune : MethodName := ⟨RX6, "isTune", "(II)Z"⟩
abbrev cX6_looksForForces : ByteArray := prog_8_method_28_code
def yX6_looksForForces : MethodName := ⟨RX6, "looksForForces", "()V"⟩
abbrev cX6_isOf : ByteArray := prog_8_method_29_code
def yX6_isOf : MethodName := ⟨RX6, "isOf", "(II)Z"⟩
abbrev cX6_tunesOf : ByteArray := prog_8_method_30_code
def yX6_tunesOf : MethodName := ⟨RX6, "tunesOf", "(II)I"⟩
abbrev cX6_bearsOf : ByteArray := prog_8_method_31_code
def yX6_bearsOf : MethodName := ⟨RX6, "bearsOf", "(II)I"⟩
abbrev cX6_allBy : ByteArray := prog_8_method_32_code
def yX6_allBy : MethodName := ⟨RX6, "allBy", "(I)I"⟩
abbrev cX6_singing : ByteArray := prog_8_method_33_code
def yX6_singing : MethodName := ⟨RX6, "singing", "()I"⟩
abbrev cX6_allNow : ByteArray := prog_8_method_34_code
def yX6_allNow : MethodName := ⟨RX6, "allNow", "()I"⟩
abbrev cX6_doesHang : ByteArray := prog_8_method_35_code
def yX6_doesHang : MethodName := ⟨RX6, "doesHang", "(I)Z"⟩
abbrev cX6_looseBy : ByteArray := prog_8_method_36_code
def yX6_looseBy : MethodName := ⟨RX6, "looseBy", "(I)I"⟩
abbrev cX6_fallenMany : ByteArray := prog_8_method_37_code
def yX6_fallenMany : MethodName := ⟨RX6, "fallenMany", "()I"⟩
abbrev cX6_sizeOf : ByteArray := prog_8_method_38_code
def yX6_sizeOf : MethodName := ⟨RX6, "sizeOf", "(I)I"⟩
abbrev cX6_hangingWeight : ByteArray := prog_8_method_39_code
def yX6_hangingWeight : MethodName := ⟨RX6, "hangingWeight", "()I"⟩
abbrev cX6_singer : ByteArray := prog_8_method_40_code
def yX6_singer : MethodName := ⟨RX6, "singer", "(III)I"⟩
abbrev cX6_highOf : ByteArray := prog_8_method_41_code
def yX6_highOf : MethodName := ⟨RX6, "highOf", "(I)I"⟩
abbrev cX6_canSing : ByteArray := prog_8_method_42_code
def yX6_canSing : MethodName := ⟨RX6, "canSing", "(II)Z"⟩
abbrev cX6_of : ByteArray := prog_8_method_43_code
def yX6_of : MethodName := ⟨RX6, "of", "(II)I"⟩
abbrev cX6_row : ByteArray := prog_8_method_44_code
def yX6_row : MethodName := ⟨RX6, "row", "(III)I"⟩
abbrev cX6_sing : ByteArray := prog_8_method_45_code
def yX6_sing : MethodName := ⟨RX6, "sing", "(II)I"⟩
abbrev cX6_tire : ByteArray := prog_8_method_46_code
def yX6_tire : MethodName := ⟨RX6, "tire", "(II)I"⟩
abbrev cX6_stone : ByteArray := prog_8_method_47_code
def yX6_stone : MethodName := ⟨RX6, "stone", "(I)I"⟩
abbrev cX6_at : ByteArray := prog_8_method_48_code
def yX6_at : MethodName := ⟨RX6, "at", "(II)I"⟩
abbrev cX6_prop : ByteArray := prog_8_method_49_code
def yX6_prop : MethodName := ⟨RX6, "prop", "(IZ)I"⟩
abbrev cX6_told : ByteArray := prog_8_method_50_code
def yX6_told : MethodName := ⟨RX6, "told", "(I)I"⟩
abbrev cX6_goesBy : ByteArray := prog_8_method_51_code
def yX6_goesBy : MethodName := ⟨RX6, "goesBy", "(I)I"⟩
abbrev cX6_goes : ByteArray := prog_8_method_52_code
def yX6_goes : MethodName := ⟨RX6, "goes", "()I"⟩
abbrev cX6_beat : ByteArray := prog_8_method_53_code
def yX6_beat : MethodName := ⟨RX6, "beat", "()I"⟩
abbrev cX6_on : ByteArray := prog_8_method_54_code
def yX6_on : MethodName := ⟨RX6, "on", "(II)I"⟩
abbrev cX6_steady : ByteArray := prog_8_method_55_code
def yX6_steady : MethodName := ⟨RX6, "steady", "()I"⟩
abbrev cX6_looksForNote : ByteArray := prog_8_method_56_code
def yX6_looksForNote : MethodName := ⟨RX6, "looksForNote", "(I)V"⟩
abbrev cX6_best : ByteArray := prog_8_method_57_code
def yX6_best : MethodName := ⟨RX6, "best", "(II)I"⟩
abbrev cX6_noteAbove : ByteArray := prog_8_method_58_code
def yX6_noteAbove : MethodName := ⟨RX6, "noteAbove", "(II)I"⟩
abbrev cX6_chordsFrom : ByteArray := prog_8_method_59_code
def yX6_chordsFrom : MethodName := ⟨RX6, "chordsFrom", "(I)V"⟩
abbrev cX6_chord : ByteArray := prog_8_method_60_code
def yX6_chord : MethodName := ⟨RX6, "chord", "(I)I"⟩
abbrev cX6_needed : ByteArray := prog_8_method_61_code
def yX6_needed : MethodName := ⟨RX6, "needed", "()I"⟩
abbrev cX6_looseMany : ByteArray := prog_8_method_62_code
def yX6_looseMany : MethodName := ⟨RX6, "looseMany", "(I)I"⟩
abbrev cX6_spare : ByteArray := prog_8_method_63_code
def yX6_spare : MethodName := ⟨RX6, "spare", "()I"⟩
abbrev cX6_fewestOf : ByteArray := prog_8_method_64_code
def yX6_fewestOf : MethodName := ⟨RX6, "fewestOf", "(I)I"⟩
abbrev cX6_shift : ByteArray := prog_8_method_65_code
def yX6_shift : MethodName := ⟨RX6, "shift", "(II)I"⟩
abbrev cX6_ill : ByteArray := prog_8_method_66_code
def yX6_ill : MethodName := ⟨RX6, "ill", "(I)I"⟩
abbrev cX6_goesRound : ByteArray := prog_8_method_67_code
def yX6_goesRound : MethodName := ⟨RX6, "goesRound", "()V"⟩
abbrev cX6_canon : ByteArray := prog_8_method_68_code
def yX6_canon : MethodName := ⟨RX6, "canon", "(II)I"⟩
abbrev cX6_weightOf : ByteArray := prog_8_method_69_code
def yX6_weightOf : MethodName := ⟨RX6, "weightOf", "(I)I"⟩
abbrev cX6_props : ByteArray := prog_8_method_70_code
def yX6_props : MethodName := ⟨RX6, "props", "(I)I"⟩
abbrev cX6_critical : ByteArray := prog_8_method_71_code
def yX6_critical : MethodName := ⟨RX6, "critical", "(I)I"⟩
abbrev cX6_load : ByteArray := prog_8_method_72_code
def yX6_load : MethodName := ⟨RX6, "load", "()I"⟩
abbrev cX6_dust : ByteArray := prog_8_method_73_code
def yX6_dust : MethodName := ⟨RX6, "dust", "(II)I"⟩
abbrev cX6_isDust : ByteArray := prog_8_method_74_code
def yX6_isDust : MethodName := ⟨RX6, "isDust", "(I)Z"⟩
abbrev cX6_isFlat : ByteArray := prog_8_method_75_code
def yX6_isFlat : MethodName := ⟨RX6, "isFlat", "(I)Z"⟩
abbrev cX6_flat : ByteArray := prog_8_method_76_code
def yX6_flat : MethodName := ⟨RX6, "flat", "()I"⟩
abbrev cX6_lightest : ByteArray := prog_8_method_77_code
def yX6_lightest : MethodName := ⟨RX6, "lightest", "(I)I"⟩
abbrev cX6_order : ByteArray := prog_8_method_78_code
def yX6_order : MethodName := ⟨RX6, "order", "(I)I"⟩
abbrev cX6_lowest : ByteArray := prog_8_method_79_code
def yX6_lowest : MethodName := ⟨RX6, "lowest", "(JJI)J"⟩
abbrev cX6_odds : ByteArray := prog_8_method_80_code
def yX6_odds : MethodName := ⟨RX6, "odds", "(I)J"⟩
abbrev cX6_mean : ByteArray := prog_8_method_81_code
def yX6_mean : MethodName := ⟨RX6, "mean", "(II)J"⟩
abbrev cX6_wage : ByteArray := prog_8_method_82_code
def yX6_wage : MethodName := ⟨RX6, "wage", "(II)J"⟩
abbrev cX6_plan : ByteArray := prog_8_method_83_code
def yX6_plan : MethodName := ⟨RX6, "plan", "(II)I"⟩
abbrev cX6_planned : ByteArray := prog_8_method_84_code
def yX6_planned : MethodName := ⟨RX6, "planned", "(I)I"⟩
abbrev cX6_book : ByteArray := prog_8_method_85_code
def yX6_book : MethodName := ⟨RX6, "book", "(II)I"⟩
abbrev cX6_looked : ByteArray := prog_8_method_86_code
def yX6_looked : MethodName := ⟨RX6, "looked", "()I"⟩
abbrev cX6_ranBody : ByteArray := prog_8_method_87_code
def yX6_ranBody : MethodName := ⟨RX6, "ranBody", "(I)V"⟩
abbrev cX6_isUnder : ByteArray := prog_8_method_88_code
def yX6_isUnder : MethodName := ⟨RX6, "isUnder", "(II)Z"⟩
abbrev cX6_plainSings : ByteArray := prog_8_method_89_code
def yX6_plainSings : MethodName := ⟨RX6, "plainSings", "(I)I"⟩
abbrev cX6_singsActs : ByteArray := prog_8_method_90_code
def yX6_singsActs : MethodName := ⟨RX6, "singsActs", "(I)I"⟩
abbrev cX6_plainBears : ByteArray := prog_8_method_91_code
def yX6_plainBears : MethodName := ⟨RX6, "plainBears", "(I)I"⟩
abbrev cX6_bearsActs : ByteArray := prog_8_method_92_code
def yX6_bearsActs : MethodName := ⟨RX6, "bearsActs", "(I)I"⟩
abbrev cX6_plainTells : ByteArray := prog_8_method_93_code
def yX6_plainTells : MethodName := ⟨RX6, "plainTells", "(I)I"⟩
abbrev cX6_tellsActs : ByteArray := prog_8_method_94_code
def yX6_tellsActs : MethodName := ⟨RX6, "tellsActs", "(I)I"⟩
abbrev cX6_act : ByteArray := prog_8_method_95_code
def yX6_act : MethodName := ⟨RX6, "act", "(III)I"⟩
abbrev cX6_trace : ByteArray := prog_8_method_96_code
def yX6_trace : MethodName := ⟨RX6, "trace", "(I)I"⟩
abbrev cX6_as : ByteArray := prog_8_method_97_code
def yX6_as : MethodName := ⟨RX6, "as", "(II)I"⟩
abbrev cX6_image : ByteArray := prog_8_method_98_code
def yX6_image : MethodName := ⟨RX6, "image", "()I"⟩
abbrev cX6_undo : ByteArray := prog_8_method_99_code
def yX6_undo : MethodName := ⟨RX6, "undo", "()I"⟩
abbrev cX6_count : ByteArray := prog_8_method_100_code
def yX6_count : MethodName := ⟨RX6, "count", "(I)I"⟩
def RJ11 : String := "java/lang/Character"
def TJ11 : u_T := fun k => match k with
  | _ => ("", "", "", false)
def tyJ11 : Nat → FieldType := fun k => match k with
  | _ => .int
abbrev wsJ110 : List Cond := u_ws RJ11 TJ11 0
theorem nmJ11 : ∀ a, a < 0 → ∀ b, b < 0 → a ≠ b → (TJ11 a).2.1 ≠ (TJ11 b).2.1 := by decide +kernel
theorem tyJ11_ok : ∀ k, k < 0 → parseFieldDescriptor (TJ11 k).2.2.1 = some (tyJ11 k) := by decide +kernel
abbrev cJ11_isValidCodePoint_9a6ad : ByteArray := prog_9_method_11_code
def yJ11_isValidCodePoint_9a6ad : MethodName := ⟨RJ11, "isValidCodePoint", "(I)Z"⟩
abbrev cJ11_highSurrogate_5068e : ByteArray := prog_9_method_28_code
def yJ11_highSurrogate_5068e : MethodName := ⟨RJ11, "highSurrogate", "(I)C"⟩
abbrev cJ11_lowSurrogate_5068e : ByteArray := prog_9_method_29_code
def yJ11_lowSurrogate_5068e : MethodName := ⟨RJ11, "lowSurrogate", "(I)C"⟩
def RJ6 : String := "java/lang/Integer"
def TJ6 : u_T := fun k => match k with
  | _ => ("", "", "", false)
def tyJ6 : Nat → FieldType := fun k => match k with
  | _ => .int
abbrev wsJ60 : List Cond := u_ws RJ6 TJ6 0
theorem nmJ6 : ∀ a, a < 0 → ∀ b, b < 0 → a ≠ b → (TJ6 a).2.1 ≠ (TJ6 b).2.1 := by decide +kernel
theorem tyJ6_ok : ∀ k, k < 0 → parseFieldDescriptor (TJ6 k).2.2.1 = some (tyJ6 k) := by decide +kernel
abbrev cJ6_compare_7cf53 : ByteArray := prog_10_method_40_code
def yJ6_compare_7cf53 : MethodName := ⟨RJ6, "compare", "(II)I"⟩
abbrev cJ6_bitCount_0f7a4 : ByteArray := prog_10_method_49_code
def yJ6_bitCount_0f7a4 : MethodName := ⟨RJ6, "bitCount", "(I)I"⟩
def RJ9 : String := "java/lang/Math"
def TJ9 : u_T := fun k => match k with
  | _ => ("", "", "", false)
def tyJ9 : Nat → FieldType := fun k => match k with
  | _ => .int
abbrev wsJ90 : List Cond := u_ws RJ9 TJ9 0
theorem nmJ9 : ∀ a, a < 0 → ∀ b, b < 0 → a ≠ b → (TJ9 a).2.1 ≠ (TJ9 b).2.1 := by decide +kernel
theorem tyJ9_ok : ∀ k, k < 0 → parseFieldDescriptor (TJ9 k).2.2.1 = some (tyJ9 k) := by decide +kernel
abbrev cJ9_abs_0f7a4 : ByteArray := prog_11_method_59_code
def yJ9_abs_0f7a4 : MethodName := ⟨RJ9, "abs", "(I)I"⟩
abbrev cJ9_max_7cf53 : ByteArray := prog_11_method_65_code
def yJ9_max_7cf53 : MethodName := ⟨RJ9, "max", "(II)I"⟩
abbrev cJ9_min_7cf53 : ByteArray := prog_11_method_69_code
def yJ9_min_7cf53 : MethodName := ⟨RJ9, "min", "(II)I"⟩
def RJ0 : String := "java/lang/String"
def TJ0 : u_T := fun k => match k with
  | _ => ("", "", "", false)
def tyJ0 : Nat → FieldType := fun k => match k with
  | _ => .int
abbrev wsJ00 : List Cond := u_ws RJ0 TJ0 0
theorem nmJ0 : ∀ a, a < 0 → ∀ b, b < 0 → a ≠ b → (TJ0 a).2.1 ≠ (TJ0 b).2.1 := by decide +kernel
theorem tyJ0_ok : ∀ k, k < 0 → parseFieldDescriptor (TJ0 k).2.2.1 = some (tyJ0 k) := by decide +kernel
abbrev cJ0_length_8abf5 : ByteArray := prog_12_method_54_code
def yJ0_length_8abf5 : MethodName := ⟨RJ0, "length", "()I"⟩
abbrev cJ0_charAt_5068e : ByteArray := prog_12_method_56_code
def yJ0_charAt_5068e : MethodName := ⟨RJ0, "charAt", "(I)C"⟩
abbrev cJ0_indexOf_0f7a4 : ByteArray := prog_12_method_79_code
def yJ0_indexOf_0f7a4 : MethodName := ⟨RJ0, "indexOf", "(I)I"⟩
abbrev cJ0_indexOf_7cf53 : ByteArray := prog_12_method_80_code
def yJ0_indexOf_7cf53 : MethodName := ⟨RJ0, "indexOf", "(II)I"⟩
abbrev cJ0_coder_7d493 : ByteArray := prog_12_method_152_code
def yJ0_coder_7d493 : MethodName := ⟨RJ0, "coder", "()B"⟩
abbrev cJ0_isLatin1_aae02 : ByteArray := prog_12_method_154_code
def yJ0_isLatin1_aae02 : MethodName := ⟨RJ0, "isLatin1", "()Z"⟩
abbrev cJ0_checkIndex_df160 : ByteArray := prog_12_method_155_code
def yJ0_checkIndex_df160 : MethodName := ⟨RJ0, "checkIndex", "(II)V"⟩
abbrev cJ0_checkBoundsBeginEnd_23922 : ByteArray := prog_12_method_158_code
def yJ0_checkBoundsBeginEnd_23922 : MethodName := ⟨RJ0, "checkBoundsBeginEnd", "(III)V"⟩
def RJ1 : String := "java/lang/StringLatin1"
def TJ1 : u_T := fun k => match k with
  | _ => ("", "", "", false)
def tyJ1 : Nat → FieldType := fun k => match k with
  | _ => .int
abbrev wsJ10 : List Cond := u_ws RJ1 TJ1 0
theorem nmJ1 : ∀ a, a < 0 → ∀ b, b < 0 → a ≠ b → (TJ1 a).2.1 ≠ (TJ1 b).2.1 := by decide +kernel
theorem tyJ1_ok : ∀ k, k < 0 → parseFieldDescriptor (TJ1 k).2.2.1 = some (tyJ1 k) := by decide +kernel
abbrev cJ1_charAt_3b067 : ByteArray := prog_13_method_2_code
def yJ1_charAt_3b067 : MethodName := ⟨RJ1, "charAt", "([BI)C"⟩
abbrev cJ1_canEncode_9a6ad : ByteArray := prog_13_method_4_code
def yJ1_canEncode_9a6ad : MethodName := ⟨RJ1, "canEncode", "(I)Z"⟩
abbrev cJ1_indexOf_4cfef : ByteArray := prog_13_method_22_code
def yJ1_indexOf_4cfef : MethodName := ⟨RJ1, "indexOf", "([BIII)I"⟩
abbrev cJ1_indexOfChar_4cfef : ByteArray := prog_13_method_23_code
def yJ1_indexOfChar_4cfef : MethodName := ⟨RJ1, "indexOfChar", "([BIII)I"⟩
def RJ2 : String := "java/lang/StringUTF16"
def TJ2 : u_T := fun k => match k with
  | _ => ("", "", "", false)
def tyJ2 : Nat → FieldType := fun k => match k with
  | _ => .int
abbrev wsJ20 : List Cond := u_ws RJ2 TJ2 0
theorem nmJ2 : ∀ a, a < 0 → ∀ b, b < 0 → a ≠ b → (TJ2 a).2.1 ≠ (TJ2 b).2.1 := by decide +kernel
theorem tyJ2_ok : ∀ k, k < 0 → parseFieldDescriptor (TJ2 k).2.2.1 = some (tyJ2 k) := by decide +kernel
abbrev cJ2_getChar_3b067 : ByteArray := prog_14_method_5_code
def yJ2_getChar_3b067 : MethodName := ⟨RJ2, "getChar", "([BI)C"⟩
abbrev cJ2_length_9d52b : ByteArray := prog_14_method_6_code
def yJ2_length_9d52b : MethodName := ⟨RJ2, "length", "([B)I"⟩
abbrev cJ2_indexOf_4cfef : ByteArray := prog_14_method_40_code
def yJ2_indexOf_4cfef : MethodName := ⟨RJ2, "indexOf", "([BIII)I"⟩
abbrev cJ2_indexOfChar_4cfef : ByteArray := prog_14_method_47_code
def yJ2_indexOfChar_4cfef : MethodName := ⟨RJ2, "indexOfChar", "([BIII)I"⟩
abbrev cJ2_indexOfCharUnsafe_4cfef : ByteArray := prog_14_method_48_code
def yJ2_indexOfCharUnsafe_4cfef : MethodName := ⟨RJ2, "indexOfCharUnsafe", "([BIII)I"⟩
abbrev cJ2_indexOfSupplementary_4cfef : ByteArray := prog_14_method_49_code
def yJ2_indexOfSupplementary_4cfef : MethodName := ⟨RJ2, "indexOfSupplementary", "([BIII)I"⟩
abbrev cJ2_charAt_3b067 : ByteArray := prog_14_method_83_code
def yJ2_charAt_3b067 : MethodName := ⟨RJ2, "charAt", "([BI)C"⟩
abbrev cJ2_checkIndex_2214a : ByteArray := prog_14_method_91_code
def yJ2_checkIndex_2214a : MethodName := ⟨RJ2, "checkIndex", "(I[B)V"⟩
abbrev cJ2_checkBoundsBeginEnd_d044e : ByteArray := prog_14_method_93_code
def yJ2_checkBoundsBeginEnd_d044e : MethodName := ⟨RJ2, "checkBoundsBeginEnd", "(II[B)V"⟩
def RJ10 : String := "java/lang/System"
def TJ10 : u_T := fun k => match k with
  | _ => ("", "", "", false)
def tyJ10 : Nat → FieldType := fun k => match k with
  | _ => .int
abbrev wsJ100 : List Cond := u_ws RJ10 TJ10 0
theorem nmJ10 : ∀ a, a < 0 → ∀ b, b < 0 → a ≠ b → (TJ10 a).2.1 ≠ (TJ10 b).2.1 := by decide +kernel
theorem tyJ10_ok : ∀ k, k < 0 → parseFieldDescriptor (TJ10 k).2.2.1 = some (tyJ10 k) := by decide +kernel
def RJ3 : String := "jdk/internal/util/Preconditions"
def TJ3 : u_T := fun k => match k with
  | _ => ("", "", "", false)
def tyJ3 : Nat → FieldType := fun k => match k with
  | _ => .int
abbrev wsJ30 : List Cond := u_ws RJ3 TJ3 0
theorem nmJ3 : ∀ a, a < 0 → ∀ b, b < 0 → a ≠ b → (TJ3 a).2.1 ≠ (TJ3 b).2.1 := by decide +kernel
theorem tyJ3_ok : ∀ k, k < 0 → parseFieldDescriptor (TJ3 k).2.2.1 = some (tyJ3 k) := by decide +kernel
abbrev cJ3_checkIndex_8e157 : ByteArray := prog_16_method_11_code
def yJ3_checkIndex_8e157 : MethodName := ⟨RJ3, "checkIndex", "(IILjava/util/function/BiFunction;)I"⟩
abbrev cJ3_checkFromToIndex_8c36e : ByteArray := prog_16_method_12_code
def yJ3_checkFromToIndex_8c36e : MethodName := ⟨RJ3, "checkFromToIndex", "(IIILjava/util/function/BiFunction;)I"⟩
def RL : String := "ChoirRoofLaw"
abbrev cL_law : ByteArray := code
def yL_law : MethodName := ⟨RL, "law", "([I)Z"⟩
