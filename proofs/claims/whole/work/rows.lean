section
-- ===== PART A: goes FIRST, ahead of the names: the tables' words, and 'selects' of the private methods out of them =====
/-- a private method of a class that the tables say can be made, by its rows of tables_1 -/
def lw_okq (q : MethodName × Nat) : Prop := (q.1.cls ≠ "java/lang/invoke/MethodHandle" ∧ q.1.cls ≠ "java/lang/invoke/VarHandle") ∧ Cond.instantiable q.1.cls q.2 ∈ tables_1 ∧ Cond.privateMethod q.1 ∈ tables_1 ∧ Cond.instanceMethod q.1 ∈ tables_1
theorem lw_p0 : lw_okq (⟨"MayMust$Tokens", "cut", "(LMayMust$Text;I)I"⟩, 5) := ⟨⟨by decide +kernel, by decide +kernel⟩, List.mem_of_getElem? (i := 68) (by decide +kernel), List.mem_of_getElem? (i := 272) (by decide +kernel), List.mem_of_getElem? (i := 273) (by decide +kernel)⟩
theorem lw_p1 : lw_okq (⟨"MayMust$Tokens", "cutNumber", "(LMayMust$Text;I)I"⟩, 5) := ⟨⟨by decide +kernel, by decide +kernel⟩, List.mem_of_getElem? (i := 68) (by decide +kernel), List.mem_of_getElem? (i := 279) (by decide +kernel), List.mem_of_getElem? (i := 280) (by decide +kernel)⟩
theorem lw_p2 : lw_okq (⟨"MayMust$Tokens", "keep", "(III)V"⟩, 5) := ⟨⟨by decide +kernel, by decide +kernel⟩, List.mem_of_getElem? (i := 68) (by decide +kernel), List.mem_of_getElem? (i := 286) (by decide +kernel), List.mem_of_getElem? (i := 287) (by decide +kernel)⟩
theorem lw_p3 : lw_okq (⟨"MayMust$Tokens", "cutWord", "(LMayMust$Text;I)I"⟩, 5) := ⟨⟨by decide +kernel, by decide +kernel⟩, List.mem_of_getElem? (i := 68) (by decide +kernel), List.mem_of_getElem? (i := 293) (by decide +kernel), List.mem_of_getElem? (i := 294) (by decide +kernel)⟩
theorem lw_p4 : lw_okq (⟨"MayMust$Reader", "readHead", "(LMayMust$Plan;)Z"⟩, 1) := ⟨⟨by decide +kernel, by decide +kernel⟩, List.mem_of_getElem? (i := 62) (by decide +kernel), List.mem_of_getElem? (i := 414) (by decide +kernel), List.mem_of_getElem? (i := 415) (by decide +kernel)⟩
theorem lw_p5 : lw_okq (⟨"MayMust$Reader", "readItem", "(LMayMust$Plan;)Z"⟩, 1) := ⟨⟨by decide +kernel, by decide +kernel⟩, List.mem_of_getElem? (i := 62) (by decide +kernel), List.mem_of_getElem? (i := 452) (by decide +kernel), List.mem_of_getElem? (i := 453) (by decide +kernel)⟩
theorem lw_p6 : lw_okq (⟨"MayMust$Reader", "readBoths", "(LMayMust$Saying;I)Z"⟩, 1) := ⟨⟨by decide +kernel, by decide +kernel⟩, List.mem_of_getElem? (i := 62) (by decide +kernel), List.mem_of_getElem? (i := 487) (by decide +kernel), List.mem_of_getElem? (i := 488) (by decide +kernel)⟩
theorem lw_p7 : lw_okq (⟨"MayMust$Reader", "readBoth", "(LMayMust$Saying;I)Z"⟩, 1) := ⟨⟨by decide +kernel, by decide +kernel⟩, List.mem_of_getElem? (i := 62) (by decide +kernel), List.mem_of_getElem? (i := 491) (by decide +kernel), List.mem_of_getElem? (i := 492) (by decide +kernel)⟩
theorem lw_p8 : lw_okq (⟨"MayMust$Reader", "readUnit", "(LMayMust$Saying;I)Z"⟩, 1) := ⟨⟨by decide +kernel, by decide +kernel⟩, List.mem_of_getElem? (i := 62) (by decide +kernel), List.mem_of_getElem? (i := 495) (by decide +kernel), List.mem_of_getElem? (i := 496) (by decide +kernel)⟩
theorem lw_p9 : lw_okq (⟨"MayMust$Reader", "readBit", "(LMayMust$Saying;)Z"⟩, 1) := ⟨⟨by decide +kernel, by decide +kernel⟩, List.mem_of_getElem? (i := 62) (by decide +kernel), List.mem_of_getElem? (i := 499) (by decide +kernel), List.mem_of_getElem? (i := 500) (by decide +kernel)⟩
theorem lw_p10 : lw_okq (⟨"MayMust$Reader", "readNot", "(LMayMust$Saying;I)Z"⟩, 1) := ⟨⟨by decide +kernel, by decide +kernel⟩, List.mem_of_getElem? (i := 62) (by decide +kernel), List.mem_of_getElem? (i := 508) (by decide +kernel), List.mem_of_getElem? (i := 509) (by decide +kernel)⟩
theorem lw_p11 : lw_okq (⟨"MayMust$Reader", "readArrow", "(LMayMust$Saying;III)Z"⟩, 1) := ⟨⟨by decide +kernel, by decide +kernel⟩, List.mem_of_getElem? (i := 62) (by decide +kernel), List.mem_of_getElem? (i := 512) (by decide +kernel), List.mem_of_getElem? (i := 513) (by decide +kernel)⟩
theorem lw_p12 : lw_okq (⟨"MayMust", "noArrow", "(IIII)Z"⟩, 10) := ⟨⟨by decide +kernel, by decide +kernel⟩, List.mem_of_getElem? (i := 23) (by decide +kernel), List.mem_of_getElem? (i := 547) (by decide +kernel), List.mem_of_getElem? (i := 548) (by decide +kernel)⟩
theorem lw_p13 : lw_okq (⟨"MayMust", "noState", "(II)Z"⟩, 10) := ⟨⟨by decide +kernel, by decide +kernel⟩, List.mem_of_getElem? (i := 23) (by decide +kernel), List.mem_of_getElem? (i := 551) (by decide +kernel), List.mem_of_getElem? (i := 552) (by decide +kernel)⟩
theorem lw_p14 : lw_okq (⟨"MayMust$Rounds", "playOne", "(LMayMust$Plan;LMayMust$Plan;I)Z"⟩, 4) := ⟨⟨by decide +kernel, by decide +kernel⟩, List.mem_of_getElem? (i := 120) (by decide +kernel), List.mem_of_getElem? (i := 596) (by decide +kernel), List.mem_of_getElem? (i := 597) (by decide +kernel)⟩
theorem lw_p15 : lw_okq (⟨"MayMust$Rounds", "hasToGo", "(LMayMust$Plan;LMayMust$Plan;II)Z"⟩, 4) := ⟨⟨by decide +kernel, by decide +kernel⟩, List.mem_of_getElem? (i := 120) (by decide +kernel), List.mem_of_getElem? (i := 608) (by decide +kernel), List.mem_of_getElem? (i := 609) (by decide +kernel)⟩
def lw_privs_1 : List (MethodName × Nat) := [(⟨"MayMust$Tokens", "cut", "(LMayMust$Text;I)I"⟩, 5), (⟨"MayMust$Tokens", "cutNumber", "(LMayMust$Text;I)I"⟩, 5), (⟨"MayMust$Tokens", "keep", "(III)V"⟩, 5), (⟨"MayMust$Tokens", "cutWord", "(LMayMust$Text;I)I"⟩, 5), (⟨"MayMust$Reader", "readHead", "(LMayMust$Plan;)Z"⟩, 1), (⟨"MayMust$Reader", "readItem", "(LMayMust$Plan;)Z"⟩, 1), (⟨"MayMust$Reader", "readBoths", "(LMayMust$Saying;I)Z"⟩, 1), (⟨"MayMust$Reader", "readBoth", "(LMayMust$Saying;I)Z"⟩, 1), (⟨"MayMust$Reader", "readUnit", "(LMayMust$Saying;I)Z"⟩, 1), (⟨"MayMust$Reader", "readBit", "(LMayMust$Saying;)Z"⟩, 1), (⟨"MayMust$Reader", "readNot", "(LMayMust$Saying;I)Z"⟩, 1), (⟨"MayMust$Reader", "readArrow", "(LMayMust$Saying;III)Z"⟩, 1), (⟨"MayMust", "noArrow", "(IIII)Z"⟩, 10), (⟨"MayMust", "noState", "(II)Z"⟩, 10), (⟨"MayMust$Rounds", "playOne", "(LMayMust$Plan;LMayMust$Plan;I)Z"⟩, 4), (⟨"MayMust$Rounds", "hasToGo", "(LMayMust$Plan;LMayMust$Plan;II)Z"⟩, 4)]
theorem lw_r1 : ∀ q ∈ lw_privs_1, lw_okq q := List.forall_mem_cons.mpr ⟨lw_p0, List.forall_mem_cons.mpr ⟨lw_p1, List.forall_mem_cons.mpr ⟨lw_p2, List.forall_mem_cons.mpr ⟨lw_p3, List.forall_mem_cons.mpr ⟨lw_p4, List.forall_mem_cons.mpr ⟨lw_p5, List.forall_mem_cons.mpr ⟨lw_p6, List.forall_mem_cons.mpr ⟨lw_p7, List.forall_mem_cons.mpr ⟨lw_p8, List.forall_mem_cons.mpr ⟨lw_p9, List.forall_mem_cons.mpr ⟨lw_p10, List.forall_mem_cons.mpr ⟨lw_p11, List.forall_mem_cons.mpr ⟨lw_p12, List.forall_mem_cons.mpr ⟨lw_p13, List.forall_mem_cons.mpr ⟨lw_p14, List.forall_mem_cons.mpr ⟨lw_p15, fun _ h => absurd h List.not_mem_nil⟩⟩⟩⟩⟩⟩⟩⟩⟩⟩⟩⟩⟩⟩⟩⟩
theorem lw_p16 : lw_okq (⟨"MayMust$Rounds", "sideOf", "(LMayMust$Plan;LMayMust$Plan;III)I"⟩, 4) := ⟨⟨by decide +kernel, by decide +kernel⟩, List.mem_of_getElem? (i := 120) (by decide +kernel), List.mem_of_getElem? (i := 612) (by decide +kernel), List.mem_of_getElem? (i := 613) (by decide +kernel)⟩
theorem lw_p17 : lw_okq (⟨"MayMust$Rounds", "dropThoseOf", "(I)V"⟩, 4) := ⟨⟨by decide +kernel, by decide +kernel⟩, List.mem_of_getElem? (i := 120) (by decide +kernel), List.mem_of_getElem? (i := 629) (by decide +kernel), List.mem_of_getElem? (i := 630) (by decide +kernel)⟩
theorem lw_p18 : lw_okq (⟨"MayMust$Shrinker", "findLeast", "(LMayMust$Plan;LMayMust$Rounds;)V"⟩, 1) := ⟨⟨by decide +kernel, by decide +kernel⟩, List.mem_of_getElem? (i := 152) (by decide +kernel), List.mem_of_getElem? (i := 665) (by decide +kernel), List.mem_of_getElem? (i := 666) (by decide +kernel)⟩
theorem lw_p19 : lw_okq (⟨"MayMust$Shrinker", "reachedIn", "(LMayMust$Plan;)I"⟩, 1) := ⟨⟨by decide +kernel, by decide +kernel⟩, List.mem_of_getElem? (i := 152) (by decide +kernel), List.mem_of_getElem? (i := 675) (by decide +kernel), List.mem_of_getElem? (i := 676) (by decide +kernel)⟩
theorem lw_p20 : lw_okq (⟨"MayMust$Shrinker", "nextOf", "(LMayMust$Plan;I)I"⟩, 1) := ⟨⟨by decide +kernel, by decide +kernel⟩, List.mem_of_getElem? (i := 152) (by decide +kernel), List.mem_of_getElem? (i := 680) (by decide +kernel), List.mem_of_getElem? (i := 681) (by decide +kernel)⟩
theorem lw_p21 : lw_okq (⟨"MayMust$Shrinker", "carryArrows", "(LMayMust$Plan;IILMayMust$Plan;)V"⟩, 1) := ⟨⟨by decide +kernel, by decide +kernel⟩, List.mem_of_getElem? (i := 152) (by decide +kernel), List.mem_of_getElem? (i := 687) (by decide +kernel), List.mem_of_getElem? (i := 688) (by decide +kernel)⟩
theorem lw_p22 : lw_okq (⟨"MayMust$Joiner", "dropClashes", "(LMayMust$Plan;LMayMust$Plan;)V"⟩, 4) := ⟨⟨by decide +kernel, by decide +kernel⟩, List.mem_of_getElem? (i := 162) (by decide +kernel), List.mem_of_getElem? (i := 710) (by decide +kernel), List.mem_of_getElem? (i := 711) (by decide +kernel)⟩
theorem lw_p23 : lw_okq (⟨"MayMust$Joiner", "dropSome", "(LMayMust$Plan;LMayMust$Plan;)Z"⟩, 4) := ⟨⟨by decide +kernel, by decide +kernel⟩, List.mem_of_getElem? (i := 162) (by decide +kernel), List.mem_of_getElem? (i := 714) (by decide +kernel), List.mem_of_getElem? (i := 715) (by decide +kernel)⟩
theorem lw_p24 : lw_okq (⟨"MayMust$Joiner", "clashes", "(LMayMust$Plan;LMayMust$Plan;II)Z"⟩, 4) := ⟨⟨by decide +kernel, by decide +kernel⟩, List.mem_of_getElem? (i := 162) (by decide +kernel), List.mem_of_getElem? (i := 719) (by decide +kernel), List.mem_of_getElem? (i := 720) (by decide +kernel)⟩
theorem lw_p25 : lw_okq (⟨"MayMust$Joiner", "numberOf", "(II)I"⟩, 4) := ⟨⟨by decide +kernel, by decide +kernel⟩, List.mem_of_getElem? (i := 162) (by decide +kernel), List.mem_of_getElem? (i := 729) (by decide +kernel), List.mem_of_getElem? (i := 730) (by decide +kernel)⟩
theorem lw_p26 : lw_okq (⟨"MayMust$Joiner", "spread", "(LMayMust$Plan;LMayMust$Plan;ZILMayMust$Plan;)Z"⟩, 4) := ⟨⟨by decide +kernel, by decide +kernel⟩, List.mem_of_getElem? (i := 162) (by decide +kernel), List.mem_of_getElem? (i := 734) (by decide +kernel), List.mem_of_getElem? (i := 735) (by decide +kernel)⟩
theorem lw_p27 : lw_okq (⟨"MayMust$Saying", "valuesOf", "(ILMayMust$Plan;)I"⟩, 5) := ⟨⟨by decide +kernel, by decide +kernel⟩, List.mem_of_getElem? (i := 94) (by decide +kernel), List.mem_of_getElem? (i := 754) (by decide +kernel), List.mem_of_getElem? (i := 755) (by decide +kernel)⟩
theorem lw_p28 : lw_okq (⟨"MayMust$Saying", "pop", "()I"⟩, 5) := ⟨⟨by decide +kernel, by decide +kernel⟩, List.mem_of_getElem? (i := 94) (by decide +kernel), List.mem_of_getElem? (i := 761) (by decide +kernel), List.mem_of_getElem? (i := 762) (by decide +kernel)⟩
theorem lw_p29 : lw_okq (⟨"MayMust$Saying", "push", "(I)V"⟩, 5) := ⟨⟨by decide +kernel, by decide +kernel⟩, List.mem_of_getElem? (i := 94) (by decide +kernel), List.mem_of_getElem? (i := 780) (by decide +kernel), List.mem_of_getElem? (i := 781) (by decide +kernel)⟩
theorem lw_p30 : lw_okq (⟨"MayMust$Walker", "nextBy", "(I)I"⟩, 3) := ⟨⟨by decide +kernel, by decide +kernel⟩, List.mem_of_getElem? (i := 183) (by decide +kernel), List.mem_of_getElem? (i := 809) (by decide +kernel), List.mem_of_getElem? (i := 810) (by decide +kernel)⟩
theorem lw_p31 : lw_okq (⟨"MayMust$Walker", "isInAll", "(I)Z"⟩, 3) := ⟨⟨by decide +kernel, by decide +kernel⟩, List.mem_of_getElem? (i := 183) (by decide +kernel), List.mem_of_getElem? (i := 832) (by decide +kernel), List.mem_of_getElem? (i := 833) (by decide +kernel)⟩
def lw_privs_2 : List (MethodName × Nat) := [(⟨"MayMust$Rounds", "sideOf", "(LMayMust$Plan;LMayMust$Plan;III)I"⟩, 4), (⟨"MayMust$Rounds", "dropThoseOf", "(I)V"⟩, 4), (⟨"MayMust$Shrinker", "findLeast", "(LMayMust$Plan;LMayMust$Rounds;)V"⟩, 1), (⟨"MayMust$Shrinker", "reachedIn", "(LMayMust$Plan;)I"⟩, 1), (⟨"MayMust$Shrinker", "nextOf", "(LMayMust$Plan;I)I"⟩, 1), (⟨"MayMust$Shrinker", "carryArrows", "(LMayMust$Plan;IILMayMust$Plan;)V"⟩, 1), (⟨"MayMust$Joiner", "dropClashes", "(LMayMust$Plan;LMayMust$Plan;)V"⟩, 4), (⟨"MayMust$Joiner", "dropSome", "(LMayMust$Plan;LMayMust$Plan;)Z"⟩, 4), (⟨"MayMust$Joiner", "clashes", "(LMayMust$Plan;LMayMust$Plan;II)Z"⟩, 4), (⟨"MayMust$Joiner", "numberOf", "(II)I"⟩, 4), (⟨"MayMust$Joiner", "spread", "(LMayMust$Plan;LMayMust$Plan;ZILMayMust$Plan;)Z"⟩, 4), (⟨"MayMust$Saying", "valuesOf", "(ILMayMust$Plan;)I"⟩, 5), (⟨"MayMust$Saying", "pop", "()I"⟩, 5), (⟨"MayMust$Saying", "push", "(I)V"⟩, 5), (⟨"MayMust$Walker", "nextBy", "(I)I"⟩, 3), (⟨"MayMust$Walker", "isInAll", "(I)Z"⟩, 3)]
theorem lw_r2 : ∀ q ∈ lw_privs_2, lw_okq q := List.forall_mem_cons.mpr ⟨lw_p16, List.forall_mem_cons.mpr ⟨lw_p17, List.forall_mem_cons.mpr ⟨lw_p18, List.forall_mem_cons.mpr ⟨lw_p19, List.forall_mem_cons.mpr ⟨lw_p20, List.forall_mem_cons.mpr ⟨lw_p21, List.forall_mem_cons.mpr ⟨lw_p22, List.forall_mem_cons.mpr ⟨lw_p23, List.forall_mem_cons.mpr ⟨lw_p24, List.forall_mem_cons.mpr ⟨lw_p25, List.forall_mem_cons.mpr ⟨lw_p26, List.forall_mem_cons.mpr ⟨lw_p27, List.forall_mem_cons.mpr ⟨lw_p28, List.forall_mem_cons.mpr ⟨lw_p29, List.forall_mem_cons.mpr ⟨lw_p30, List.forall_mem_cons.mpr ⟨lw_p31, fun _ h => absurd h List.not_mem_nil⟩⟩⟩⟩⟩⟩⟩⟩⟩⟩⟩⟩⟩⟩⟩⟩
theorem lw_p32 : lw_okq (⟨"MayMust", "statesOfAll", "()I"⟩, 10) := ⟨⟨by decide +kernel, by decide +kernel⟩, List.mem_of_getElem? (i := 23) (by decide +kernel), List.mem_of_getElem? (i := 845) (by decide +kernel), List.mem_of_getElem? (i := 846) (by decide +kernel)⟩
theorem lw_p33 : lw_okq (⟨"MayMustModel", "begins", "()V"⟩, 25) := ⟨⟨by decide +kernel, by decide +kernel⟩, List.mem_of_getElem? (i := 850) (by decide +kernel), List.mem_of_getElem? (i := 951) (by decide +kernel), List.mem_of_getElem? (i := 952) (by decide +kernel)⟩
theorem lw_p34 : lw_okq (⟨"MayMustModel", "advances", "()V"⟩, 25) := ⟨⟨by decide +kernel, by decide +kernel⟩, List.mem_of_getElem? (i := 850) (by decide +kernel), List.mem_of_getElem? (i := 955) (by decide +kernel), List.mem_of_getElem? (i := 956) (by decide +kernel)⟩
theorem lw_p35 : lw_okq (⟨"MayMustModel", "byteAt", "(I)I"⟩, 25) := ⟨⟨by decide +kernel, by decide +kernel⟩, List.mem_of_getElem? (i := 850) (by decide +kernel), List.mem_of_getElem? (i := 959) (by decide +kernel), List.mem_of_getElem? (i := 960) (by decide +kernel)⟩
theorem lw_p36 : lw_okq (⟨"MayMustModel", "words", "(I)V"⟩, 25) := ⟨⟨by decide +kernel, by decide +kernel⟩, List.mem_of_getElem? (i := 850) (by decide +kernel), List.mem_of_getElem? (i := 963) (by decide +kernel), List.mem_of_getElem? (i := 964) (by decide +kernel)⟩
theorem lw_p37 : lw_okq (⟨"MayMustModel", "isWord", "(IIII)Z"⟩, 25) := ⟨⟨by decide +kernel, by decide +kernel⟩, List.mem_of_getElem? (i := 850) (by decide +kernel), List.mem_of_getElem? (i := 967) (by decide +kernel), List.mem_of_getElem? (i := 968) (by decide +kernel)⟩
theorem lw_p38 : lw_okq (⟨"MayMustModel", "takes", "(Z)I"⟩, 25) := ⟨⟨by decide +kernel, by decide +kernel⟩, List.mem_of_getElem? (i := 850) (by decide +kernel), List.mem_of_getElem? (i := 971) (by decide +kernel), List.mem_of_getElem? (i := 972) (by decide +kernel)⟩
theorem lw_p39 : lw_okq (⟨"MayMustModel", "isWell", "()Z"⟩, 25) := ⟨⟨by decide +kernel, by decide +kernel⟩, List.mem_of_getElem? (i := 850) (by decide +kernel), List.mem_of_getElem? (i := 975) (by decide +kernel), List.mem_of_getElem? (i := 976) (by decide +kernel)⟩
theorem lw_p40 : lw_okq (⟨"MayMustModel", "isSign", "(I)Z"⟩, 25) := ⟨⟨by decide +kernel, by decide +kernel⟩, List.mem_of_getElem? (i := 850) (by decide +kernel), List.mem_of_getElem? (i := 979) (by decide +kernel), List.mem_of_getElem? (i := 980) (by decide +kernel)⟩
theorem lw_p41 : lw_okq (⟨"MayMustModel", "empties", "(II)V"⟩, 25) := ⟨⟨by decide +kernel, by decide +kernel⟩, List.mem_of_getElem? (i := 850) (by decide +kernel), List.mem_of_getElem? (i := 983) (by decide +kernel), List.mem_of_getElem? (i := 984) (by decide +kernel)⟩
theorem lw_p42 : lw_okq (⟨"MayMustModel", "copies", "(II)V"⟩, 25) := ⟨⟨by decide +kernel, by decide +kernel⟩, List.mem_of_getElem? (i := 850) (by decide +kernel), List.mem_of_getElem? (i := 990) (by decide +kernel), List.mem_of_getElem? (i := 991) (by decide +kernel)⟩
theorem lw_p43 : lw_okq (⟨"MayMustModel", "wantsUnit", "(Z)Z"⟩, 25) := ⟨⟨by decide +kernel, by decide +kernel⟩, List.mem_of_getElem? (i := 850) (by decide +kernel), List.mem_of_getElem? (i := 998) (by decide +kernel), List.mem_of_getElem? (i := 999) (by decide +kernel)⟩
theorem lw_p44 : lw_okq (⟨"MayMustModel", "unit", "()V"⟩, 25) := ⟨⟨by decide +kernel, by decide +kernel⟩, List.mem_of_getElem? (i := 850) (by decide +kernel), List.mem_of_getElem? (i := 1002) (by decide +kernel), List.mem_of_getElem? (i := 1003) (by decide +kernel)⟩
theorem lw_p45 : lw_okq (⟨"MayMustModel", "puts", "(I)V"⟩, 25) := ⟨⟨by decide +kernel, by decide +kernel⟩, List.mem_of_getElem? (i := 850) (by decide +kernel), List.mem_of_getElem? (i := 1006) (by decide +kernel), List.mem_of_getElem? (i := 1007) (by decide +kernel)⟩
theorem lw_p46 : lw_okq (⟨"MayMustModel", "settles", "()V"⟩, 25) := ⟨⟨by decide +kernel, by decide +kernel⟩, List.mem_of_getElem? (i := 850) (by decide +kernel), List.mem_of_getElem? (i := 1010) (by decide +kernel), List.mem_of_getElem? (i := 1011) (by decide +kernel)⟩
theorem lw_p47 : lw_okq (⟨"MayMustModel", "bracket", "()I"⟩, 25) := ⟨⟨by decide +kernel, by decide +kernel⟩, List.mem_of_getElem? (i := 850) (by decide +kernel), List.mem_of_getElem? (i := 1014) (by decide +kernel), List.mem_of_getElem? (i := 1015) (by decide +kernel)⟩
def lw_privs_3 : List (MethodName × Nat) := [(⟨"MayMust", "statesOfAll", "()I"⟩, 10), (⟨"MayMustModel", "begins", "()V"⟩, 25), (⟨"MayMustModel", "advances", "()V"⟩, 25), (⟨"MayMustModel", "byteAt", "(I)I"⟩, 25), (⟨"MayMustModel", "words", "(I)V"⟩, 25), (⟨"MayMustModel", "isWord", "(IIII)Z"⟩, 25), (⟨"MayMustModel", "takes", "(Z)I"⟩, 25), (⟨"MayMustModel", "isWell", "()Z"⟩, 25), (⟨"MayMustModel", "isSign", "(I)Z"⟩, 25), (⟨"MayMustModel", "empties", "(II)V"⟩, 25), (⟨"MayMustModel", "copies", "(II)V"⟩, 25), (⟨"MayMustModel", "wantsUnit", "(Z)Z"⟩, 25), (⟨"MayMustModel", "unit", "()V"⟩, 25), (⟨"MayMustModel", "puts", "(I)V"⟩, 25), (⟨"MayMustModel", "settles", "()V"⟩, 25), (⟨"MayMustModel", "bracket", "()I"⟩, 25)]
theorem lw_r3 : ∀ q ∈ lw_privs_3, lw_okq q := List.forall_mem_cons.mpr ⟨lw_p32, List.forall_mem_cons.mpr ⟨lw_p33, List.forall_mem_cons.mpr ⟨lw_p34, List.forall_mem_cons.mpr ⟨lw_p35, List.forall_mem_cons.mpr ⟨lw_p36, List.forall_mem_cons.mpr ⟨lw_p37, List.forall_mem_cons.mpr ⟨lw_p38, List.forall_mem_cons.mpr ⟨lw_p39, List.forall_mem_cons.mpr ⟨lw_p40, List.forall_mem_cons.mpr ⟨lw_p41, List.forall_mem_cons.mpr ⟨lw_p42, List.forall_mem_cons.mpr ⟨lw_p43, List.forall_mem_cons.mpr ⟨lw_p44, List.forall_mem_cons.mpr ⟨lw_p45, List.forall_mem_cons.mpr ⟨lw_p46, List.forall_mem_cons.mpr ⟨lw_p47, fun _ h => absurd h List.not_mem_nil⟩⟩⟩⟩⟩⟩⟩⟩⟩⟩⟩⟩⟩⟩⟩⟩
theorem lw_p48 : lw_okq (⟨"MayMustModel", "many", "(II)I"⟩, 25) := ⟨⟨by decide +kernel, by decide +kernel⟩, List.mem_of_getElem? (i := 850) (by decide +kernel), List.mem_of_getElem? (i := 1022) (by decide +kernel), List.mem_of_getElem? (i := 1023) (by decide +kernel)⟩
theorem lw_p49 : lw_okq (⟨"MayMustModel", "isState", "(II)Z"⟩, 25) := ⟨⟨by decide +kernel, by decide +kernel⟩, List.mem_of_getElem? (i := 850) (by decide +kernel), List.mem_of_getElem? (i := 1030) (by decide +kernel), List.mem_of_getElem? (i := 1031) (by decide +kernel)⟩
theorem lw_p50 : lw_okq (⟨"MayMustModel", "of", "(IIII)I"⟩, 25) := ⟨⟨by decide +kernel, by decide +kernel⟩, List.mem_of_getElem? (i := 850) (by decide +kernel), List.mem_of_getElem? (i := 1034) (by decide +kernel), List.mem_of_getElem? (i := 1035) (by decide +kernel)⟩
theorem lw_p51 : lw_okq (⟨"MayMustModel", "goes", "(II)V"⟩, 25) := ⟨⟨by decide +kernel, by decide +kernel⟩, List.mem_of_getElem? (i := 850) (by decide +kernel), List.mem_of_getElem? (i := 1046) (by decide +kernel), List.mem_of_getElem? (i := 1047) (by decide +kernel)⟩
theorem lw_p52 : lw_okq (⟨"MayMustModel", "why", "(IIIIII)I"⟩, 25) := ⟨⟨by decide +kernel, by decide +kernel⟩, List.mem_of_getElem? (i := 850) (by decide +kernel), List.mem_of_getElem? (i := 1050) (by decide +kernel), List.mem_of_getElem? (i := 1051) (by decide +kernel)⟩
theorem lw_p53 : lw_okq (⟨"MayMustModel", "isThere", "(III)Z"⟩, 25) := ⟨⟨by decide +kernel, by decide +kernel⟩, List.mem_of_getElem? (i := 850) (by decide +kernel), List.mem_of_getElem? (i := 1054) (by decide +kernel), List.mem_of_getElem? (i := 1055) (by decide +kernel)⟩
theorem lw_p54 : lw_okq (⟨"MayMustModel", "smalls", "(I)V"⟩, 25) := ⟨⟨by decide +kernel, by decide +kernel⟩, List.mem_of_getElem? (i := 850) (by decide +kernel), List.mem_of_getElem? (i := 1070) (by decide +kernel), List.mem_of_getElem? (i := 1071) (by decide +kernel)⟩
theorem lw_p55 : lw_okq (⟨"MayMustModel", "clash", "(II)V"⟩, 25) := ⟨⟨by decide +kernel, by decide +kernel⟩, List.mem_of_getElem? (i := 850) (by decide +kernel), List.mem_of_getElem? (i := 1078) (by decide +kernel), List.mem_of_getElem? (i := 1079) (by decide +kernel)⟩
theorem lw_p56 : lw_okq (⟨"MayMustModel", "isClash", "(IIIII)Z"⟩, 25) := ⟨⟨by decide +kernel, by decide +kernel⟩, List.mem_of_getElem? (i := 850) (by decide +kernel), List.mem_of_getElem? (i := 1082) (by decide +kernel), List.mem_of_getElem? (i := 1083) (by decide +kernel)⟩
theorem lw_p57 : lw_okq (⟨"MayMustModel", "values", "(I)V"⟩, 25) := ⟨⟨by decide +kernel, by decide +kernel⟩, List.mem_of_getElem? (i := 850) (by decide +kernel), List.mem_of_getElem? (i := 1090) (by decide +kernel), List.mem_of_getElem? (i := 1091) (by decide +kernel)⟩
theorem lw_p58 : lw_okq (⟨"MayMustModel", "goingTo", "(IIIZI)I"⟩, 25) := ⟨⟨by decide +kernel, by decide +kernel⟩, List.mem_of_getElem? (i := 850) (by decide +kernel), List.mem_of_getElem? (i := 1094) (by decide +kernel), List.mem_of_getElem? (i := 1095) (by decide +kernel)⟩
theorem lw_p59 : lw_okq (⟨"MayMustModel", "onward", "(I)I"⟩, 25) := ⟨⟨by decide +kernel, by decide +kernel⟩, List.mem_of_getElem? (i := 850) (by decide +kernel), List.mem_of_getElem? (i := 1110) (by decide +kernel), List.mem_of_getElem? (i := 1111) (by decide +kernel)⟩
theorem lw_p60 : lw_okq (⟨"MayMustModel", "isSure", "(I)Z"⟩, 25) := ⟨⟨by decide +kernel, by decide +kernel⟩, List.mem_of_getElem? (i := 850) (by decide +kernel), List.mem_of_getElem? (i := 1121) (by decide +kernel), List.mem_of_getElem? (i := 1122) (by decide +kernel)⟩
def lw_privs_4 : List (MethodName × Nat) := [(⟨"MayMustModel", "many", "(II)I"⟩, 25), (⟨"MayMustModel", "isState", "(II)Z"⟩, 25), (⟨"MayMustModel", "of", "(IIII)I"⟩, 25), (⟨"MayMustModel", "goes", "(II)V"⟩, 25), (⟨"MayMustModel", "why", "(IIIIII)I"⟩, 25), (⟨"MayMustModel", "isThere", "(III)Z"⟩, 25), (⟨"MayMustModel", "smalls", "(I)V"⟩, 25), (⟨"MayMustModel", "clash", "(II)V"⟩, 25), (⟨"MayMustModel", "isClash", "(IIIII)Z"⟩, 25), (⟨"MayMustModel", "values", "(I)V"⟩, 25), (⟨"MayMustModel", "goingTo", "(IIIZI)I"⟩, 25), (⟨"MayMustModel", "onward", "(I)I"⟩, 25), (⟨"MayMustModel", "isSure", "(I)Z"⟩, 25)]
theorem lw_r4 : ∀ q ∈ lw_privs_4, lw_okq q := List.forall_mem_cons.mpr ⟨lw_p48, List.forall_mem_cons.mpr ⟨lw_p49, List.forall_mem_cons.mpr ⟨lw_p50, List.forall_mem_cons.mpr ⟨lw_p51, List.forall_mem_cons.mpr ⟨lw_p52, List.forall_mem_cons.mpr ⟨lw_p53, List.forall_mem_cons.mpr ⟨lw_p54, List.forall_mem_cons.mpr ⟨lw_p55, List.forall_mem_cons.mpr ⟨lw_p56, List.forall_mem_cons.mpr ⟨lw_p57, List.forall_mem_cons.mpr ⟨lw_p58, List.forall_mem_cons.mpr ⟨lw_p59, List.forall_mem_cons.mpr ⟨lw_p60, fun _ h => absurd h List.not_mem_nil⟩⟩⟩⟩⟩⟩⟩⟩⟩⟩⟩⟩⟩
def lw_privs : List (MethodName × Nat) := lw_privs_1 ++ (lw_privs_2 ++ (lw_privs_3 ++ (lw_privs_4)))
def lw_tbl : List Cond := k2_sels lw_privs ++ tables_1
theorem lw_privs_ok : ∀ q ∈ lw_privs, lw_okq q := by
  show ∀ q ∈ lw_privs_1 ++ (lw_privs_2 ++ (lw_privs_3 ++ (lw_privs_4))), lw_okq q
  exact List.forall_mem_append.mpr ⟨lw_r1, List.forall_mem_append.mpr ⟨lw_r2, List.forall_mem_append.mpr ⟨lw_r3, lw_r4⟩⟩⟩
end
section
def RX0 : String := "MayMust$Joiner"
def TX0 : u_T := fun k => match k with
  | 0 => ("MayMust$Joiner", "pairs", "LMayMust$Pairs;", true)
  | 1 => ("MayMust$Joiner", "numbers", "[I", true)
  | 2 => ("MayMust$Joiner", "order", "[I", true)
  | _ => ("MayMust$Joiner", "size", "I", false)
def tyX0 : Nat → FieldType := fun k => match k with
  | 0 => .object "MayMust$Pairs"
  | 1 => .array .int
  | 2 => .array .int
  | _ => .int
abbrev wsX00 : List Cond := u_ws RX0 TX0 4
theorem nmX0 : ∀ a, a < 4 → ∀ b, b < 4 → a ≠ b → (TX0 a).2.1 ≠ (TX0 b).2.1 := by decide +kernel
theorem tyX0_ok : ∀ k, k < 4 → parseFieldDescriptor (TX0 k).2.2.1 = some (tyX0 k) := by decide +kernel
def RX1 : String := "MayMust$Pairs"
def TX1 : u_T := fun k => match k with
  | 0 => ("MayMust$Pairs", "ofLeft", "[I", true)
  | _ => ("MayMust$Pairs", "ofRight", "[I", true)
def tyX1 : Nat → FieldType := fun k => match k with
  | 0 => .array .int
  | _ => .array .int
abbrev wsX10 : List Cond := u_ws RX1 TX1 2
theorem nmX1 : ∀ a, a < 2 → ∀ b, b < 2 → a ≠ b → (TX1 a).2.1 ≠ (TX1 b).2.1 := by decide +kernel
theorem tyX1_ok : ∀ k, k < 2 → parseFieldDescriptor (TX1 k).2.2.1 = some (tyX1 k) := by decide +kernel
def RX2 : String := "MayMust$Plan"
def TX2 : u_T := fun k => match k with
  | 0 => ("MayMust$Plan", "size", "I", false)
  | 1 => ("MayMust$Plan", "any", "[I", true)
  | _ => ("MayMust$Plan", "must", "[I", true)
def tyX2 : Nat → FieldType := fun k => match k with
  | 0 => .int
  | 1 => .array .int
  | _ => .array .int
abbrev wsX20 : List Cond := u_ws RX2 TX2 3
theorem nmX2 : ∀ a, a < 3 → ∀ b, b < 3 → a ≠ b → (TX2 a).2.1 ≠ (TX2 b).2.1 := by decide +kernel
theorem tyX2_ok : ∀ k, k < 3 → parseFieldDescriptor (TX2 k).2.2.1 = some (tyX2 k) := by decide +kernel
def RX3 : String := "MayMust$Reader"
def TX3 : u_T := fun k => match k with
  | _ => ("MayMust$Reader", "tokens", "LMayMust$Tokens;", true)
def tyX3 : Nat → FieldType := fun k => match k with
  | _ => .object "MayMust$Tokens"
abbrev wsX30 : List Cond := u_ws RX3 TX3 1
theorem nmX3 : ∀ a, a < 1 → ∀ b, b < 1 → a ≠ b → (TX3 a).2.1 ≠ (TX3 b).2.1 := by decide +kernel
theorem tyX3_ok : ∀ k, k < 1 → parseFieldDescriptor (TX3 k).2.2.1 = some (tyX3 k) := by decide +kernel
def RX4 : String := "MayMust$Rounds"
def TX4 : u_T := fun k => match k with
  | 0 => ("MayMust$Rounds", "pairs", "LMayMust$Pairs;", true)
  | 1 => ("MayMust$Rounds", "went", "[I", true)
  | 2 => ("MayMust$Rounds", "whyLetter", "I", false)
  | _ => ("MayMust$Rounds", "whySide", "I", false)
def tyX4 : Nat → FieldType := fun k => match k with
  | 0 => .object "MayMust$Pairs"
  | 1 => .array .int
  | 2 => .int
  | _ => .int
abbrev wsX40 : List Cond := u_ws RX4 TX4 4
theorem nmX4 : ∀ a, a < 4 → ∀ b, b < 4 → a ≠ b → (TX4 a).2.1 ≠ (TX4 b).2.1 := by decide +kernel
theorem tyX4_ok : ∀ k, k < 4 → parseFieldDescriptor (TX4 k).2.2.1 = some (tyX4 k) := by decide +kernel
def RX5 : String := "MayMust$Saying"
def TX5 : u_T := fun k => match k with
  | 0 => ("MayMust$Saying", "steps", "[I", true)
  | 1 => ("MayMust$Saying", "size", "I", false)
  | 2 => ("MayMust$Saying", "bits", "I", false)
  | 3 => ("MayMust$Saying", "stack", "[I", true)
  | _ => ("MayMust$Saying", "height", "I", false)
def tyX5 : Nat → FieldType := fun k => match k with
  | 0 => .array .int
  | 1 => .int
  | 2 => .int
  | 3 => .array .int
  | _ => .int
abbrev wsX50 : List Cond := u_ws RX5 TX5 5
theorem nmX5 : ∀ a, a < 5 → ∀ b, b < 5 → a ≠ b → (TX5 a).2.1 ≠ (TX5 b).2.1 := by decide +kernel
theorem tyX5_ok : ∀ k, k < 5 → parseFieldDescriptor (TX5 k).2.2.1 = some (tyX5 k) := by decide +kernel
def RX6 : String := "MayMust$Shrinker"
def TX6 : u_T := fun k => match k with
  | _ => ("MayMust$Shrinker", "least", "[I", true)
def tyX6 : Nat → FieldType := fun k => match k with
  | _ => .array .int
abbrev wsX60 : List Cond := u_ws RX6 TX6 1
theorem nmX6 : ∀ a, a < 1 → ∀ b, b < 1 → a ≠ b → (TX6 a).2.1 ≠ (TX6 b).2.1 := by decide +kernel
theorem tyX6_ok : ∀ k, k < 1 → parseFieldDescriptor (TX6 k).2.2.1 = some (tyX6 k) := by decide +kernel
def RX7 : String := "MayMust$Text"
def TX7 : u_T := fun k => match k with
  | 0 => ("MayMust$Text", "bytes", "[I", true)
  | _ => ("MayMust$Text", "size", "I", false)
def tyX7 : Nat → FieldType := fun k => match k with
  | 0 => .array .int
  | _ => .int
abbrev wsX70 : List Cond := u_ws RX7 TX7 2
theorem nmX7 : ∀ a, a < 2 → ∀ b, b < 2 → a ≠ b → (TX7 a).2.1 ≠ (TX7 b).2.1 := by decide +kernel
theorem tyX7_ok : ∀ k, k < 2 → parseFieldDescriptor (TX7 k).2.2.1 = some (tyX7 k) := by decide +kernel
def RX8 : String := "MayMust$Tokens"
def TX8 : u_T := fun k => match k with
  | 0 => ("MayMust$Tokens", "kinds", "[I", true)
  | 1 => ("MayMust$Tokens", "places", "[I", true)
  | 2 => ("MayMust$Tokens", "worths", "[I", true)
  | 3 => ("MayMust$Tokens", "size", "I", false)
  | _ => ("MayMust$Tokens", "here", "I", false)
def tyX8 : Nat → FieldType := fun k => match k with
  | 0 => .array .int
  | 1 => .array .int
  | 2 => .array .int
  | 3 => .int
  | _ => .int
abbrev wsX80 : List Cond := u_ws RX8 TX8 5
theorem nmX8 : ∀ a, a < 5 → ∀ b, b < 5 → a ≠ b → (TX8 a).2.1 ≠ (TX8 b).2.1 := by decide +kernel
theorem tyX8_ok : ∀ k, k < 5 → parseFieldDescriptor (TX8 k).2.2.1 = some (tyX8 k) := by decide +kernel
def RX9 : String := "MayMust$Walker"
def TX9 : u_T := fun k => match k with
  | 0 => ("MayMust$Walker", "ground", "LMayMust$Plan;", true)
  | 1 => ("MayMust$Walker", "where", "I", false)
  | _ => ("MayMust$Walker", "gone", "I", false)
def tyX9 : Nat → FieldType := fun k => match k with
  | 0 => .object "MayMust$Plan"
  | 1 => .int
  | _ => .int
abbrev wsX90 : List Cond := u_ws RX9 TX9 3
theorem nmX9 : ∀ a, a < 3 → ∀ b, b < 3 → a ≠ b → (TX9 a).2.1 ≠ (TX9 b).2.1 := by decide +kernel
theorem tyX9_ok : ∀ k, k < 3 → parseFieldDescriptor (TX9 k).2.2.1 = some (tyX9 k) := by decide +kernel
def RX10 : String := "MayMust"
def TX10 : u_T := fun k => match k with
  | 0 => ("MayMust", "plans", "[LMayMust$Plan;", true)
  | 1 => ("MayMust", "draft", "LMayMust$Plan;", true)
  | 2 => ("MayMust", "text", "LMayMust$Text;", true)
  | 3 => ("MayMust", "reader", "LMayMust$Reader;", true)
  | 4 => ("MayMust", "saying", "LMayMust$Saying;", true)
  | 5 => ("MayMust", "draftSaying", "LMayMust$Saying;", true)
  | 6 => ("MayMust", "rounds", "LMayMust$Rounds;", true)
  | 7 => ("MayMust", "shrinker", "LMayMust$Shrinker;", true)
  | 8 => ("MayMust", "joiner", "LMayMust$Joiner;", true)
  | _ => ("MayMust", "walker", "LMayMust$Walker;", true)
def tyX10 : Nat → FieldType := fun k => match k with
  | 0 => .array (.object "MayMust$Plan")
  | 1 => .object "MayMust$Plan"
  | 2 => .object "MayMust$Text"
  | 3 => .object "MayMust$Reader"
  | 4 => .object "MayMust$Saying"
  | 5 => .object "MayMust$Saying"
  | 6 => .object "MayMust$Rounds"
  | 7 => .object "MayMust$Shrinker"
  | 8 => .object "MayMust$Joiner"
  | _ => .object "MayMust$Walker"
abbrev wsX100 : List Cond := u_ws RX10 TX10 10
theorem nmX10 : ∀ a, a < 10 → ∀ b, b < 10 → a ≠ b → (TX10 a).2.1 ≠ (TX10 b).2.1 := by decide +kernel
theorem tyX10_ok : ∀ k, k < 10 → parseFieldDescriptor (TX10 k).2.2.1 = some (tyX10 k) := by decide +kernel
def RX11 : String := "MayMustModel"
def TX11 : u_T := fun k => match k with
  | 0 => ("MayMustModel", "thrown", "I", false)
  | 1 => ("MayMustModel", "arrow", "[I", true)
  | 2 => ("MayMustModel", "size", "[I", true)
  | 3 => ("MayMustModel", "text", "[I", true)
  | 4 => ("MayMustModel", "typed", "I", false)
  | 5 => ("MayMustModel", "next", "I", false)
  | 6 => ("MayMustModel", "token", "I", false)
  | 7 => ("MayMustModel", "place", "I", false)
  | 8 => ("MayMustModel", "value", "I", false)
  | 9 => ("MayMustModel", "fault", "I", false)
  | 10 => ("MayMustModel", "post", "[I", true)
  | 11 => ("MayMustModel", "draft", "[I", true)
  | 12 => ("MayMustModel", "posts", "I", false)
  | 13 => ("MayMustModel", "draftMany", "I", false)
  | 14 => ("MayMustModel", "plains", "I", false)
  | 15 => ("MayMustModel", "draftPlains", "I", false)
  | 16 => ("MayMustModel", "signs", "[I", true)
  | 17 => ("MayMustModel", "signMany", "I", false)
  | 18 => ("MayMustModel", "open", "I", false)
  | 19 => ("MayMustModel", "stack", "[I", true)
  | 20 => ("MayMustModel", "went", "[I", true)
  | 21 => ("MayMustModel", "queue", "[I", true)
  | 22 => ("MayMustModel", "number", "[I", true)
  | 23 => ("MayMustModel", "could", "I", false)
  | _ => ("MayMustModel", "gone", "I", false)
def tyX11 : Nat → FieldType := fun k => match k with
  | 0 => .int
  | 1 => .array .int
  | 2 => .array .int
  | 3 => .array .int
  | 4 => .int
  | 5 => .int
  | 6 => .int
  | 7 => .int
  | 8 => .int
  | 9 => .int
  | 10 => .array .int
  | 11 => .array .int
  | 12 => .int
  | 13 => .int
  | 14 => .int
  | 15 => .int
  | 16 => .array .int
  | 17 => .int
  | 18 => .int
  | 19 => .array .int
  | 20 => .array .int
  | 21 => .array .int
  | 22 => .array .int
  | 23 => .int
  | _ => .int
abbrev wsX110 : List Cond := u_ws RX11 TX11 25
theorem nmX11 : ∀ a, a < 25 → ∀ b, b < 25 → a ≠ b → (TX11 a).2.1 ≠ (TX11 b).2.1 := by decide +kernel
theorem tyX11_ok : ∀ k, k < 25 → parseFieldDescriptor (TX11 k).2.2.1 = some (tyX11 k) := by decide +kernel
abbrev vwCl : List vw_C := [(RX0, TX0, 4), (RX1, TX1, 2), (RX2, TX2, 3), (RX3, TX3, 1), (RX4, TX4, 4), (RX5, TX5, 5), (RX6, TX6, 1), (RX7, TX7, 2), (RX8, TX8, 5), (RX9, TX9, 3), (RX10, TX10, 10), (RX11, TX11, 25)]
/-- the String constants: pool number, text, cell -/
def xa_strs : List (Nat × String × Nat) := [(81, "states", 1), (87, "may", 2), (89, "must", 3), (64, ";|&!()<>[]", 4)]
/-- where the words of the classes' fields stand -/
def xa_clsp : List (List Nat) := [[234, 236, 238, 240], [194, 196], [101, 103, 105], [151], [203, 205, 207, 209], [169, 171, 173, 175, 177], [219], [117, 119], [139, 141, 143, 145, 147], [254, 256, 258], [271, 273, 275, 277, 279, 281, 283, 285, 287, 289], [941, 943, 945, 947, 949, 951, 953, 955, 957, 959, 961, 963, 965, 967, 969, 971, 973, 975, 977, 979, 981, 983, 985, 987, 989]]
end
section
/-! ===== a small machine: its cells, its instructions, its runs (the machine itself is held against it in the parts behind) ===== -/
/-- a cell: an array (kind 0: int, made; 1: the bytes of a String constant; 2: the script), its length, its contents; or an object (number of its class, fields); 50: the array of plans; 60: a String constant -/
abbrev xa_C : Type := (Nat × Nat × (Nat → Int32)) ⊕ (Nat × List Value)
abbrev xa_H : Type := List xa_C
/-- pc, instruction, length, numbers that belong to it, its constant -/
abbrev xa_I : Type := Nat × Jvm.ClassFile.Instr × Nat × List Nat × Int32
/-- pc, locals (a float: unknown), stack, cells -/
abbrev xa_S : Type := Nat × List Value × List Value × xa_H
abbrev xa_R : Type := Option Value × xa_H
/-- a call: which method, its arguments, where it goes on -/
abbrev xa_K : Type := Nat × List Value × (Nat × List Value × List Value)
abbrev xa_O : Type := Option (xa_S ⊕ (xa_R ⊕ xa_K))
abbrev xa_M : Type := MethodName × ByteArray × Nat × Option FieldType × List xa_I
def xa_nx (pc : Nat) (ls st : List Value) (h : xa_H) : xa_O := some (.inl (pc, ls, st, h))
def xa_free (ls : List Value) (k : Nat) : Bool := match k with
  | 0 => Nat.blt 0 ls.length
  | j + 1 => Nat.blt (j + 1) ls.length && (match ls[j]? with
    | some (.long _) => false
    | _ => true)
def xa_c1 (v : Value) : Bool := match v with
  | .int _ => true
  | .ref _ => true
  | _ => false
/-- what only the stack sees -/
def xa_alu (i : Jvm.ClassFile.Instr) (a : List Nat) (cv : Int32) (st : List Value) : Option (List Value) := match i with
  | .iconst _ => some (.int cv :: st)
  | .bipush _ => some (.int cv :: st)
  | .sipush _ => some (.int cv :: st)
  | .ldc_w _ => some (.int cv :: st)
  | .ldc2_w _ => some (.long (Int64.ofNat (a.headD 0)) :: st)
  | .iadd => (match st with
    | .int y :: .int x :: r => some (.int (x + y) :: r)
    | _ => none)
  | .isub => (match st with
    | .int y :: .int x :: r => some (.int (x - y) :: r)
    | _ => none)
  | .imul => (match st with
    | .int y :: .int x :: r => some (.int (x * y) :: r)
    | _ => none)
  | .iand => (match st with
    | .int y :: .int x :: r => some (.int (x &&& y) :: r)
    | _ => none)
  | .ior => (match st with
    | .int y :: .int x :: r => some (.int (x ||| y) :: r)
    | _ => none)
  | .ixor => (match st with
    | .int y :: .int x :: r => some (.int (x ^^^ y) :: r)
    | _ => none)
  | .ishl => (match st with
    | .int y :: .int x :: r => some (.int (x <<< (y &&& 31)) :: r)
    | _ => none)
  | .ishr => (match st with
    | .int y :: .int x :: r => some (.int (x >>> (y &&& 31)) :: r)
    | _ => none)
  | .iushr => (match st with
    | .int y :: .int x :: r => some (.int (x.toUInt32 >>> (y.toUInt32 &&& Int32.toUInt32 31)).toInt32 :: r)
    | _ => none)
  | .idiv => (match st with
    | .int y :: .int x :: r => if y = 0 then none else some (.int (x / y) :: r)
    | _ => none)
  | .irem => (match st with
    | .int y :: .int x :: r => if y = 0 then none else some (.int (x - x / y * y) :: r)
    | _ => none)
  | .i2l => (match st with
    | .int x :: r => some (.long x.toInt64 :: r)
    | _ => none)
  | .l2i => (match st with
    | .long x :: r => some (.int x.toInt32 :: r)
    | _ => none)
  | .i2b => (match st with
    | .int x :: r => some (.int x.toInt8.toInt32 :: r)
    | _ => none)
  | .i2c => (match st with
    | .int x :: r => some (.int (x.toUInt32 % 65536).toInt32 :: r)
    | _ => none)
  | .land => (match st with
    | .long y :: .long x :: r => some (.long (x &&& y) :: r)
    | _ => none)
  | .lor => (match st with
    | .long y :: .long x :: r => some (.long (x ||| y) :: r)
    | _ => none)
  | .lshl => (match st with
    | .int y :: .long x :: r => some (.long (x <<< (y.toInt64 &&& 63)) :: r)
    | _ => none)
  | .lshr => (match st with
    | .int y :: .long x :: r => some (.long (x >>> (y.toInt64 &&& 63)) :: r)
    | _ => none)
  | .lushr => (match st with
    | .int y :: .long x :: r => some (.long (x.toUInt64 >>> (y.toInt64.toUInt64 &&& Int64.toUInt64 63)).toInt64 :: r)
    | _ => none)
  | .dup => (match st with
    | v :: r => if xa_c1 v = true then some (v :: v :: r) else none
    | _ => none)
  | .pop => (match st with
    | v :: r => if xa_c1 v = true then some r else none
    | _ => none)
  | .dup2 => (match st with
    | v :: w :: r => if xa_c1 v = true ∧ xa_c1 w = true then some (v :: w :: v :: w :: r) else none
    | _ => none)
  | _ => none
def xa_ldi (pc : Nat) (k : Nat) (ls st : List Value) (h : xa_H) : xa_O := match ls[k]? with
  | some (.int x) => xa_nx pc ls (.int x :: st) h
  | _ => none
def xa_ldl (pc : Nat) (k : Nat) (ls st : List Value) (h : xa_H) : xa_O := match ls[k]? with
  | some (.long x) => xa_nx pc ls (.long x :: st) h
  | _ => none
def xa_lda (pc : Nat) (k : Nat) (ls st : List Value) (h : xa_H) : xa_O := match ls[k]? with
  | some (.ref x) => xa_nx pc ls (.ref x :: st) h
  | _ => none
def xa_sti (pc : Nat) (k : Nat) (ls st : List Value) (h : xa_H) : xa_O := match st with
  | .int x :: r => if xa_free ls k = true then xa_nx pc (ls.set k (.int x)) r h else none
  | _ => none
def xa_sta (pc : Nat) (k : Nat) (ls st : List Value) (h : xa_H) : xa_O := match st with
  | .ref x :: r => if xa_free ls k = true then xa_nx pc (ls.set k (.ref x)) r h else none
  | _ => none
def xa_inc (pc : Nat) (k : Nat) (cv : Int32) (ls st : List Value) (h : xa_H) : xa_O := match ls[k]? with
  | some (.int x) => if xa_free ls k = true then xa_nx pc (ls.set k (.int (x + cv))) st h else none
  | _ => none
def xa_cmp (c : Jvm.ClassFile.Cond) (x y : Int32) : Bool := match c with
  | .eq => decide (x = y)
  | .ne => decide (¬ x = y)
  | .lt => decide (x < y)
  | .ge => decide (y ≤ x)
  | .gt => decide (y < x)
  | .le => decide (x ≤ y)
def xa_if1 (c : Jvm.ClassFile.Cond) (pc tgt : Nat) (ls st : List Value) (h : xa_H) : xa_O := match st with
  | .int x :: r => xa_nx (if xa_cmp c x 0 = true then tgt else pc) ls r h
  | _ => none
def xa_if2 (c : Jvm.ClassFile.Cond) (pc tgt : Nat) (ls st : List Value) (h : xa_H) : xa_O := match st with
  | .int y :: .int x :: r => xa_nx (if xa_cmp c x y = true then tgt else pc) ls r h
  | _ => none
def xa_sw (ts : List Nat) (ls st : List Value) (h : xa_H) : xa_O := match st with
  | .int x :: r => if x.toInt < 0 ∨ (ts.length : Int) - 2 < x.toInt then xa_nx (ts.getD 0 0) ls r h else xa_nx (ts.getD (x.toInt.toNat + 1) 0) ls r h
  | _ => none
def xa_getf (pc ci k : Nat) (ls st : List Value) (h : xa_H) : xa_O := match st with
  | .ref o :: r => (match h[o]? with
    | some (.inr (c, fs)) => if c = ci then (match fs[k]? with
      | some v => xa_nx pc ls (v :: r) h
      | none => none) else none
    | _ => none)
  | _ => none
def xa_kd (kd : Nat) (v : Value) : Bool := match v with
  | .int _ => Nat.beq kd 0
  | .ref _ => Nat.beq kd 1
  | _ => false
def xa_putf (pc ci k kd : Nat) (ls st : List Value) (h : xa_H) : xa_O := match st with
  | v :: .ref o :: r => (match h[o]? with
    | some (.inr (c, fs)) => if c = ci ∧ k < fs.length ∧ xa_kd kd v = true then xa_nx pc ls r (h.set o (.inr (c, fs.set k v))) else none
    | _ => none)
  | _ => none
def xa_iald (pc : Nat) (ls st : List Value) (h : xa_H) : xa_O := match st with
  | .int i :: .ref o :: r => (match h[o]? with
    | some (.inl (kd, n, f)) => if (kd = 0 ∨ kd = 2) ∧ ¬ (i < 0 ∨ n ≤ i.toNatClampNeg) then xa_nx pc ls (.int (f i.toNatClampNeg) :: r) h else none
    | _ => none)
  | _ => none
def xa_bald (pc : Nat) (ls st : List Value) (h : xa_H) : xa_O := match st with
  | .int i :: .ref o :: r => (match h[o]? with
    | some (.inl (kd, n, f)) => if kd = 1 ∧ ¬ (i < 0 ∨ n ≤ i.toNatClampNeg) then xa_nx pc ls (.int (f i.toNatClampNeg) :: r) h else none
    | _ => none)
  | _ => none
def xa_iast (pc : Nat) (ls st : List Value) (h : xa_H) : xa_O := match st with
  | .int x :: .int i :: .ref o :: r => (match h[o]? with
    | some (.inl (kd, n, f)) => if kd = 0 ∧ ¬ (i < 0 ∨ n ≤ i.toNatClampNeg) then xa_nx pc ls r (h.set o (.inl (kd, n, upd f i.toNatClampNeg x))) else none
    | _ => none)
  | _ => none
def xa_alen (pc : Nat) (ls st : List Value) (h : xa_H) : xa_O := match st with
  | .ref o :: r => (match h[o]? with
    | some (.inl (_, n, _)) => xa_nx pc ls (.int (nI n) :: r) h
    | _ => none)
  | _ => none
def xa_newa (pc : Nat) (ls st : List Value) (h : xa_H) : xa_O := match st with
  | .int n :: r => if ¬ n < 0 ∧ n.toNatClampNeg ≤ 1000 then xa_nx pc ls (.ref h.length :: r) (h ++ [.inl (0, n.toNatClampNeg, fun _ => 0)]) else none
  | _ => none
def xa_newq (pc : Nat) (ls st : List Value) (h : xa_H) : xa_O := match st with
  | .int n :: r => if ¬ n < 0 ∧ n.toNatClampNeg ≤ 1000 then xa_nx pc ls (.ref h.length :: r) (h ++ [.inr (50, List.replicate n.toNatClampNeg .null)]) else none
  | _ => none
def xa_aald (pc : Nat) (ls st : List Value) (h : xa_H) : xa_O := match st with
  | .int i :: .ref o :: r => (match h[o]? with
    | some (.inr (c, fs)) => if c = 50 ∧ ¬ i < 0 then (match fs[i.toNatClampNeg]? with
      | some (.ref q) => xa_nx pc ls (.ref q :: r) h
      | _ => none) else none
    | _ => none)
  | _ => none
def xa_aast (pc : Nat) (ls st : List Value) (h : xa_H) : xa_O := match st with
  | .ref v :: .int i :: .ref o :: r => (match h[o]?, h[v]? with
    | some (.inr (c, fs)), some (.inr (c2, _)) => if (c = 50 ∧ c2 = 2) ∧ ¬ i < 0 ∧ i.toNatClampNeg < fs.length then xa_nx pc ls r (h.set o (.inr (c, fs.set i.toNatClampNeg (.ref v)))) else none
    | _, _ => none)
  | _ => none
/-- the fields of a new object, by its class -/
def xa_df (ci : Nat) : List Value := match ci with
  | 0 => [.null, .null, .null, .int 0]
  | 1 => [.null, .null]
  | 2 => [.int 0, .null, .null]
  | 3 => [.null]
  | 4 => [.null, .null, .int 0, .int 0]
  | 5 => [.null, .int 0, .int 0, .null, .int 0]
  | 6 => [.null]
  | 7 => [.null, .int 0]
  | 8 => [.null, .null, .null, .int 0, .int 0]
  | 9 => [.null, .int 0, .int 0]
  | 10 => [.null, .null, .null, .null, .null, .null, .null, .null, .null, .null]
  | 11 => [.int 0, .null, .null, .null, .int 0, .int 0, .int 0, .int 0, .int 0, .int 0, .null, .null, .int 0, .int 0, .int 0, .int 0, .null, .int 0, .int 0, .null, .null, .null, .null, .int 0, .int 0]
  | _ => []
def xa_new (pc ci : Nat) (ls st : List Value) (h : xa_H) : xa_O := xa_nx pc ls (.ref h.length :: st) (h ++ [.inr (ci, xa_df ci)])
def xa_gets (pc which : Nat) (ls st : List Value) (h : xa_H) : xa_O := match which with
  | 0 => xa_nx pc ls (.int 1 :: st) h
  | _ => xa_nx pc ls (.retAddr 0 :: st) h
def xa_ldc (pc which : Nat) (cv : Int32) (ls st : List Value) (h : xa_H) : xa_O := match which with
  | 0 => xa_nx pc ls (.int cv :: st) h
  | k + 1 => xa_nx pc ls (.ref (k + 1) :: st) h
def xa_room (r : List Value) : Bool := Nat.ble (r.map fun v => v.category).sum 8
def xa_call (pc mi n : Nat) (ls st : List Value) : xa_O := if Nat.ble n st.length = true ∧ xa_room (st.drop n) = true then some (.inr (.inr (mi, (st.take n).reverse, (pc, ls, st.drop n)))) else none
def xa_vcall (pc mi n ci : Nat) (ls st : List Value) (h : xa_H) : xa_O := match st[n]? with
  | some (.ref o) => (match h[o]? with
    | some (.inr (c, _)) => if c = ci then xa_call pc mi (n + 1) ls st else none
    | _ => none)
  | _ => none
def xa_icall (pc mi n : Nat) (ls st : List Value) : xa_O := match st[n]? with
  | some (.ref _) => xa_call pc mi (n + 1) ls st
  | _ => none
def xa_oinit (pc : Nat) (ls st : List Value) (h : xa_H) : xa_O := match st with
  | .ref _ :: r => if xa_room r = true then xa_nx pc ls r h else none
  | _ => none
def xa_copy (pc : Nat) (ls st : List Value) (h : xa_H) : xa_O := match st with
  | .int n :: .int dp :: .ref a :: .int sp :: .ref b :: r => (match h[b]?, h[a]? with
    | some (.inl (k0, n0, f)), some (.inl (k1, n1, g)) => if (k0 = 0 ∧ k1 = 0) ∧ (¬ sp < 0 ∧ ¬ dp < 0 ∧ ¬ n < 0) ∧ sp.toNatClampNeg + n.toNatClampNeg ≤ n0 ∧ dp.toNatClampNeg + n.toNatClampNeg ≤ n1 ∧ xa_room r = true then xa_nx pc ls r (h.set a (.inl (k1, n1, va_cpy f g sp.toNatClampNeg dp.toNatClampNeg n.toNatClampNeg))) else none
    | _, _ => none)
  | _ => none
def xa_max (pc : Nat) (ls st : List Value) (h : xa_H) : xa_O := match st with
  | .int y :: .int x :: r => if xa_room r = true then xa_nx pc ls (.int (if x < y then y else x) :: r) h else none
  | _ => none
def xa_min (pc : Nat) (ls st : List Value) (h : xa_H) : xa_O := match st with
  | .int y :: .int x :: r => if xa_room r = true then xa_nx pc ls (.int (if y < x then y else x) :: r) h else none
  | _ => none
/-- which ints a method may answer: 0 any, 1 booleans, 2 chars, 3 bytes -/
def xa_rok (k : Nat) (v : Int32) : Prop := match k with
  | 0 => True
  | 1 => v = 0 ∨ v = 1
  | 2 => (v.toUInt32 % 65536).toInt32 = v
  | _ => v.toInt8.toInt32 = v
/-- the step of one instruction; an answer of a kind is looked at where it is used -/
def xa_step (i : Jvm.ClassFile.Instr) (len : Nat) (a : List Nat) (cv : Int32) (pc : Nat) (ls st : List Value) (h : xa_H) : xa_O := match i with
  | .iload _ => xa_ldi (pc + len) (a.getD 0 0) ls st h
  | .iload_n _ => xa_ldi (pc + len) (a.getD 0 0) ls st h
  | .lload_n _ => xa_ldl (pc + len) (a.getD 0 0) ls st h
  | .aload _ => xa_lda (pc + len) (a.getD 0 0) ls st h
  | .aload_n _ => xa_lda (pc + len) (a.getD 0 0) ls st h
  | .istore _ => xa_sti (pc + len) (a.getD 0 0) ls st h
  | .istore_n _ => xa_sti (pc + len) (a.getD 0 0) ls st h
  | .astore_n _ => xa_sta (pc + len) (a.getD 0 0) ls st h
  | .iinc _ _ => xa_inc (pc + len) (a.getD 0 0) cv ls st h
  | .goto _ => xa_nx (a.getD 0 0) ls st h
  | .ifCond c _ => xa_if1 c (pc + len) (a.getD 0 0) ls st h
  | .if_icmp c _ => xa_if2 c (pc + len) (a.getD 0 0) ls st h
  | .tableswitch _ _ _ _ => xa_sw a ls st h
  | .getfield _ => xa_getf (pc + len) (a.getD 0 0) (a.getD 1 0) ls st h
  | .putfield _ => xa_putf (pc + len) (a.getD 0 0) (a.getD 1 0) (a.getD 2 0) ls st h
  | .iaload => xa_iald (pc + len) ls st h
  | .baload => xa_bald (pc + len) ls st h
  | .iastore => xa_iast (pc + len) ls st h
  | .arraylength => xa_alen (pc + len) ls st h
  | .newarray _ => xa_newa (pc + len) ls st h
  | .anewarray _ => xa_newq (pc + len) ls st h
  | .aaload => xa_aald (pc + len) ls st h
  | .aastore => xa_aast (pc + len) ls st h
  | .new _ => xa_new (pc + len) (a.getD 0 0) ls st h
  | .getstatic _ => xa_gets (pc + len) (a.getD 0 0) ls st h
  | .ldc _ => xa_ldc (pc + len) (a.getD 0 0) cv ls st h
  | .invokestatic _ => (match a.getD 0 0 with
    | 2 => xa_copy (pc + len) ls st h
    | 3 => xa_max (pc + len) ls st h
    | 4 => xa_min (pc + len) ls st h
    | _ => xa_call (pc + len) (a.getD 1 0) (a.getD 2 0) ls st)
  | .invokevirtual _ => xa_vcall (pc + len) (a.getD 1 0) (a.getD 2 0) (a.getD 3 0) ls st h
  | .invokespecial _ => (match a.getD 0 0 with
    | 9 => xa_oinit (pc + len) ls st h
    | _ => xa_icall (pc + len) (a.getD 1 0) (a.getD 2 0) ls st)
  | .ireturn => (match st with
    | [.int v] => some (.inr (.inl (some (.int v), h)))
    | _ => none)
  | .return_ => (match st with
    | [] => some (.inr (.inl (none, h)))
    | _ => none)
  | i => (match xa_alu i a cv st with
    | some st' => xa_nx (pc + len) ls st' h
    | none => none)
def xa_lk (tb : List xa_I) (pc : Nat) : Option (Jvm.ClassFile.Instr × Nat × List Nat × Int32) := match tb with
  | [] => none
  | e :: es => bif Nat.beq e.1 pc then some e.2 else xa_lk es pc
/-- which answers a return allows: by the instruction's number -/
def xa_fine (i : Jvm.ClassFile.Instr) (a : List Nat) (r : Option Value) : Prop := match i, r with
  | .ireturn, some (.int v) => xa_rok (a.getD 0 0) v
  | _, _ => True
/-- n instructions lead from a state to an answer; calls by a relation -/
def xa_ev (C : Nat → List Value → xa_H → Option Value → xa_H → Prop) (tb : List xa_I) : Nat → xa_S → xa_R → Prop
  | 0, _, _ => False
  | n + 1, (pc, ls, st, h), q => match xa_lk tb pc with
    | none => False
    | some (i, len, a, cv) => match xa_step i len a cv pc ls st h with
      | none => False
      | some (.inl s') => xa_ev C tb n s' q
      | some (.inr (.inl r)) => xa_fine i a r.1 ∧ q = r
      | some (.inr (.inr (mi, as, (pc', ls', st')))) => ∃ (r : Option Value) (h' : xa_H), C mi as h r h' ∧ xa_ev C tb n (pc', ls', r.toList ++ st', h') q
/-- the slots of an argument -/
def xa_ar (v : Value) : List Value := match v with
  | .long x => [.long x, .float 0]
  | v => [v]
/-- a method's locals at its entry -/
def xa_en (as : List Value) (n : Nat) : List Value := as.flatMap xa_ar ++ List.replicate (n - (as.flatMap xa_ar).length) (.float 0)
def xa_kn (v : Value) : Bool := match v with
  | .float _ => false
  | .double _ => false
  | _ => true
def xa_rn (ms : List xa_M) : Nat → Nat → List Value → xa_H → Option Value → xa_H → Prop
  | 0 => fun _ _ _ _ _ => False
  | d + 1 => fun mi as h r h' => ∃ (M : xa_M) (n : Nat), ms[mi]? = some M ∧ ((xa_en as M.2.2.1).length = M.2.2.1 ∧ as.all xa_kn = true) ∧ xa_ev (xa_rn ms d) M.2.2.2.2 n (0, xa_en as M.2.2.1, [], h) (r, h')
end
section
/-! ===== how the small machine's states stand for the machine's ===== -/
def xa_v (tr : Nat → Nat) (fmt : Value) (v : Value) : Value := match v with
  | .ref k => .ref (tr k)
  | .retAddr _ => fmt
  | v => v
def xa_L (tr : Nat → Nat) (fmt : Value) (nL : Nat) (ls : List Value) (rl : Array Slot) : Prop := ls.length = nL ∧ rl.size = nL ∧ lv_wf rl ∧ ∀ (k : Nat) (v : Value), ls[k]? = some v → xa_kn v = true → rl[k]? = some (.val (xa_v tr fmt v))
/-- the listed locals, as the kit's rows take them -/
def xa_pl (tr : Nat → Nat) (fmt : Value) (ls : List Value) : List (Nat × Value) := (List.range ls.length).filterMap fun k => match ls[k]? with
  | some v => if xa_kn v = true then some (k, xa_v tr fmt v) else none
  | none => none
theorem xa_pl_mem {tr : Nat → Nat} {fmt : Value} {ls : List Value} {q : Nat × Value} : q ∈ xa_pl tr fmt ls ↔ ∃ v, ls[q.1]? = some v ∧ xa_kn v = true ∧ q.2 = xa_v tr fmt v := by
  unfold xa_pl
  rw [List.mem_filterMap]
  constructor
  · rintro ⟨k, hk, he⟩
    cases hv : ls[k]? with
    | none => simp [hv] at he
    | some v =>
      by_cases hn : xa_kn v = true
      · simp [hv, hn] at he
        subst he
        exact ⟨v, hv, hn, rfl⟩
      · simp [hv, hn] at he
  · rintro ⟨v, hv, hn, he⟩
    refine ⟨q.1, ?_, ?_⟩
    · exact List.mem_range.mpr (List.getElem?_eq_some_iff.mp hv).1
    · simp [hv, hn, ← he]
theorem xa_L.has {tr : Nat → Nat} {fmt : Value} {nL : Nat} {ls : List Value} {rl : Array Slot} (h : xa_L tr fmt nL ls rl) : lv_has rl nL (xa_pl tr fmt ls) := by
  refine ⟨h.2.1, h.2.2.1, fun q hq => ?_⟩
  obtain ⟨v, h1, h2, h3⟩ := xa_pl_mem.mp hq
  rw [h3]
  exact h.2.2.2 _ _ h1 h2
theorem xa_cat {tr : Nat → Nat} {fmt : Value} (hf : fmt.category = 1) (v : Value) : (xa_v tr fmt v).category = v.category := by
  cases v <;> first | rfl | exact hf
theorem xa_cats {tr : Nat → Nat} {fmt : Value} (hf : fmt.category = 1) (r : List Value) : ((r.map (xa_v tr fmt)).map fun v => v.category).sum = (r.map fun v => v.category).sum := by
  rw [List.map_map]
  congr 1
  apply List.map_congr_left
  intro v _
  exact xa_cat hf v
theorem xa_L.store {tr : Nat → Nat} {fmt : Value} {nL : Nat} {ls : List Value} {rl rl' : Array Slot} {i : Nat} {v : Value} (hf : fmt.category = 1) (h : xa_L tr fmt nL ls rl) (hfr : xa_free ls i = true) (h' : lv_has rl' nL ((i, xa_v tr fmt v) :: (xa_pl tr fmt ls).filter (fun q => !(q.1 == i) && !(q.1 + 1 == i && q.2.category == 2)))) : xa_L tr fmt nL (ls.set i v) rl' := by
  refine ⟨by rw [List.length_set]; exact h.1, h'.1, h'.2.1, fun k w hk hn => ?_⟩
  by_cases hki : k = i
  · subst hki
    have hlt : k < ls.length := by
      have := (List.getElem?_eq_some_iff.mp hk).1
      rwa [List.length_set] at this
    rw [List.getElem?_set_self hlt] at hk
    cases hk
    exact h'.2.2 (k, xa_v tr fmt v) List.mem_cons_self
  · rw [List.getElem?_set_ne (fun e => hki e.symm)] at hk
    refine h'.2.2 (k, xa_v tr fmt w) (List.mem_cons_of_mem _ (List.mem_filter.mpr ⟨xa_pl_mem.mpr ⟨w, hk, hn, rfl⟩, ?_⟩))
    simp only [Bool.and_eq_true, Bool.not_eq_true', beq_eq_false_iff_ne, ne_eq, Bool.and_eq_false_iff]
    refine ⟨hki, ?_⟩
    by_cases hk1 : k + 1 = i
    · right
      intro hc
      subst hk1
      rw [xa_cat hf] at hc
      unfold xa_free at hfr
      simp only [Bool.and_eq_true, hk] at hfr
      cases w <;> simp [Value.category] at hc
      · simp at hfr
      · simp [xa_kn] at hn
    · exact Or.inl hk1
theorem xa_free_lt {ls : List Value} {i : Nat} (h : xa_free ls i = true) : i < ls.length := by
  cases i with
  | zero => exact Nat.le_of_ble_eq_true h
  | succ j =>
    unfold xa_free at h
    simp only [Bool.and_eq_true] at h
    exact Nat.le_of_ble_eq_true h.1
/-- refs of the plans' array -/
def xa_rf (tr : Nat → Nat) (fs : List Value) : Nat → Option Nat := fun j => match fs[j]? with
  | some (.ref k) => some (tr k)
  | _ => none
/-- what a cell is on the machine's heap -/
def xa_cell (D : va_G) (cI cP : ClassId) (tr : Nat → Nat) (fmt : Value) (A : Nat → Prop) (U : State) (H : Heap) (k : Nat) (c : xa_C) : Prop := match c with
  | .inl (kd, n, f) => (kd = 0 ∧ A (tr k) ∧ H[tr k]? = some (vp_cell cI (n, .inl f))) ∨ (kd = 1 ∧ va_T .byte (tr k) n (fun j => .int (f j)) A U H) ∨ (kd = 2 ∧ va_T .int (tr k) n (fun j => .int (f j)) A U H)
  | .inr (ci, fs) => (ci = 50 ∧ A (tr k) ∧ H[tr k]? = some (vp_cell cP (fs.length, .inr (.inr (.inr (.inr (xa_rf tr fs))))))) ∨ (ci = 60 ∧ va_O "java/lang/String" (tr k) A U H ∧ (∀ v, fs[0]? = some v → va_OF "java/lang/String" "value" "[B" (xa_v tr fmt v) (tr k) A U H) ∧ ∀ v, fs[1]? = some v → va_OF "java/lang/String" "coder" "B" (xa_v tr fmt v) (tr k) A U H) ∨ (ci < 12 ∧ A (tr k) ∧ va_at D vwCl (tr k, .inr (ci, fs.map (xa_v tr fmt))) H)
def xa_HR (D : va_G) (cI cP : ClassId) (tr : Nat → Nat) (fmt : Value) (A : Nat → Prop) (U : State) (h : xa_H) (H : Heap) : Prop := H.size = tr h.length ∧ 9 ≤ h.length ∧ ∀ (k : Nat) (c : xa_C), h[k]? = some c → xa_cell D cI cP tr fmt A U H k c
/-- where the cells lie: the first nine are old, the others one behind the other from b0 on -/
def xa_tr (tr : Nat → Nat) (b0 : Nat) : Prop := (∀ k, 9 ≤ k → tr k = b0 + (k - 9)) ∧ ∀ k, k < 9 → tr k < b0
theorem xa_tr.inj {tr : Nat → Nat} {b0 j k : Nat} (h : xa_tr tr b0) (hk : b0 ≤ tr k) (e : tr j = tr k) : j = k := by
  have hk9 : 9 ≤ k := by
    rcases Nat.lt_or_ge k 9 with q | q
    · have := h.2 k q; omega
    · exact q
  have hj9 : 9 ≤ j := by
    rcases Nat.lt_or_ge j 9 with q | q
    · have := h.2 j q; omega
    · exact q
  rw [h.1 j hj9, h.1 k hk9] at e
  omega
section XA1
variable {D : va_G} {cI cP : ClassId} {tr : Nat → Nat} {fmt : Value} {b0 : Nat} {U : State} {h : xa_H} {H H1 : Heap}
theorem xa_cell.lt {A : Nat → Prop} {k : Nat} {c : xa_C} (hc : xa_cell D cI cP tr fmt A U H k c) : tr k < H.size := by
  obtain ⟨kd, n, f⟩ | ⟨ci, fs⟩ := c
  · rcases hc with ⟨-, -, h⟩ | ⟨-, ⟨_, h, -⟩⟩ | ⟨-, ⟨_, h, -⟩⟩
    · exact (Array.getElem?_eq_some_iff.mp h).1
    · exact (Array.getElem?_eq_some_iff.mp h).1
    · exact (Array.getElem?_eq_some_iff.mp h).1
  · rcases hc with ⟨-, -, h⟩ | ⟨-, ⟨_, h, -⟩, -⟩ | ⟨-, -, h⟩
    · exact (Array.getElem?_eq_some_iff.mp h).1
    · exact (Array.getElem?_eq_some_iff.mp h).1
    · exact h.lt
theorem xa_cell.kept {A : Nat → Prop} {k : Nat} {c : xa_C} (hc : xa_cell D cI cP tr fmt A U H k c) (hq : H1[tr k]? = H[tr k]?) (ho : ∀ a : Nat, a < H.size → ¬ A a → H1[a]? = H[a]?) : xa_cell D cI cP tr fmt A U H1 k c := by
  obtain ⟨kd, n, f⟩ | ⟨ci, fs⟩ := c
  · rcases hc with ⟨h1, h2, h⟩ | ⟨h1, h⟩ | ⟨h1, h⟩
    · exact Or.inl ⟨h1, h2, hq.trans h⟩
    · exact Or.inr (Or.inl ⟨h1, h.kept ho⟩)
    · exact Or.inr (Or.inr ⟨h1, h.kept ho⟩)
  · rcases hc with ⟨h1, h2, h⟩ | ⟨h1, h2, h3, h4⟩ | ⟨h1, h2, h⟩
    · exact Or.inl ⟨h1, h2, hq.trans h⟩
    · exact Or.inr (Or.inl ⟨h1, h2.kept ho, fun v hv => (h3 v hv).kept ho, fun v hv => (h4 v hv).kept ho⟩)
    · exact Or.inr (Or.inr ⟨h1, h2, h.kept hq⟩)
theorem xa_cell.moved {A : Nat → Prop} {u : State} {k : Nat} {c : xa_C} (hvm : u.vm.Alike U.vm) (hc : xa_cell D cI cP tr fmt A u H k c) : xa_cell D cI cP tr fmt A U H k c := by
  obtain ⟨kd, n, f⟩ | ⟨ci, fs⟩ := c
  · rcases hc with h | ⟨h1, h⟩ | ⟨h1, h⟩
    · exact Or.inl h
    · exact Or.inr (Or.inl ⟨h1, va_T.moved hvm h⟩)
    · exact Or.inr (Or.inr ⟨h1, va_T.moved hvm h⟩)
  · rcases hc with h | ⟨h1, h2, h3, h4⟩ | h
    · exact Or.inl h
    · exact Or.inr (Or.inl ⟨h1, va_O.moved hvm h2, fun v hv => va_OF.moved hvm (h3 v hv), fun v hv => va_OF.moved hvm (h4 v hv)⟩)
    · exact Or.inr (Or.inr h)
theorem xa_HR.moved {A : Nat → Prop} {u : State} (hvm : u.vm.Alike U.vm) (hR : xa_HR D cI cP tr fmt A u h H) : xa_HR D cI cP tr fmt A U h H := ⟨hR.1, hR.2.1, fun k c hk => (hR.2.2 k c hk).moved hvm⟩
theorem xa_HR.set (hT : xa_tr tr b0) (hR : xa_HR D cI cP tr fmt (fun q => b0 ≤ q) U h H) {k : Nat} {c : xa_C} (hA : b0 ≤ tr k) (z : H1.size = H.size) (oq : ∀ q : Nat, q ≠ tr k → H1[q]? = H[q]?) (hc : xa_cell D cI cP tr fmt (fun q => b0 ≤ q) U H1 k c) : xa_HR D cI cP tr fmt (fun q => b0 ≤ q) U (h.set k c) H1 := by
  refine ⟨by rw [z, List.length_set]; exact hR.1, by rw [List.length_set]; exact hR.2.1, fun j c' hj => ?_⟩
  by_cases e : j = k
  · subst e
    have hlt : j < h.length := by
      have := (List.getElem?_eq_some_iff.mp hj).1
      rwa [List.length_set] at this
    rw [List.getElem?_set_self hlt] at hj
    cases hj
    exact hc
  · rw [List.getElem?_set_ne (fun q => e q.symm)] at hj
    exact (hR.2.2 j c' hj).kept (oq _ (fun q => e (hT.inj hA q))) (fun a _ ha => oq a (fun q => ha (by rw [q]; exact hA)))
theorem xa_HR.push (hT : xa_tr tr b0) (hR : xa_HR D cI cP tr fmt (fun q => b0 ≤ q) U h H) {c : xa_C} (z : H1.size = H.size + 1) (oq : ∀ q : Nat, q < H.size → H1[q]? = H[q]?) (hc : xa_cell D cI cP tr fmt (fun q => b0 ≤ q) U H1 h.length c) : xa_HR D cI cP tr fmt (fun q => b0 ≤ q) U (h ++ [c]) H1 := by
  refine ⟨?_, by rw [List.length_append]; have := hR.2.1; omega, fun j c' hj => ?_⟩
  · rw [z, hR.1, List.length_append, List.length_singleton, hT.1 _ hR.2.1, hT.1 _ (by have := hR.2.1; omega)]
    have := hR.2.1
    omega
  · by_cases e : j < h.length
    · rw [List.getElem?_append_left e] at hj
      have hc' := hR.2.2 j c' hj
      exact hc'.kept (oq _ hc'.lt) (fun a ha _ => oq a ha)
    · rw [List.getElem?_append_right (by omega)] at hj
      have hz : j - h.length < 1 := (List.getElem?_eq_some_iff.mp hj).1
      have hz0 : j - h.length = 0 := by omega
      rw [hz0] at hj
      cases hj
      have : j = h.length := by omega
      subst this
      exact hc
theorem xa_HR.top (hT : xa_tr tr b0) (hR : xa_HR D cI cP tr fmt (fun q => b0 ≤ q) U h H) : b0 ≤ tr h.length := by
  rw [hT.1 _ hR.2.1]
  omega
end XA1
/-- slots of a cell, of all cells -/
def xa_s1 (c : xa_C) : Nat := match c with
  | .inl (_, n, _) => n
  | .inr (_, fs) => fs.length
def xa_sl (h : xa_H) : Nat := (h.map xa_s1).sum
theorem xa_sl_app (h : xa_H) (c : xa_C) : xa_sl (h ++ [c]) = xa_sl h + xa_s1 c := by
  simp [xa_sl]
theorem xa_sl_set {h : xa_H} {k : Nat} {c c' : xa_C} (hk : h[k]? = some c) (he : xa_s1 c' = xa_s1 c) : xa_sl (h.set k c') = xa_sl h := by
  induction h generalizing k with
  | nil => simp at hk
  | cons a as ih =>
    cases k with
    | zero =>
      simp at hk
      subst hk
      simp [xa_sl, he]
    | succ k =>
      simp at hk
      have := ih hk
      simp [xa_sl] at this ⊢
      omega
end
section
/-! ===== which words hold, and which entries of a table are right ===== -/
def xa_gw : List Cond := lw_tbl.filter goodWord
/-- a word stands at a place of the tables -/
def xa_in (k : Nat) (w : Cond) : Bool := decide (lw_tbl[k]? = some w) && goodWord w
theorem xa_in_gw {k : Nat} {w : Cond} (h : xa_in k w = true) : w ∈ xa_gw := by
  unfold xa_in at h
  simp only [Bool.and_eq_true, decide_eq_true_eq] at h
  exact List.mem_filter.mpr ⟨List.mem_of_getElem? h.1, h.2⟩
theorem xa_gw_good : GoodIn xa_gw xa_gw := fun w hw => ⟨hw, good_of_word (List.mem_filter.mp hw).2⟩
def xa_nest : List Cond := lw_tbl.filter fun w => match w with
  | .methodLinkNest _ _ _ _ => true
  | _ => false
/-- the stack's instructions -/
def xa_okA (own : String) (i : Jvm.ClassFile.Instr) (len : Nat) (a : List Nat) (cv : Int32) : Bool := match i with
  | .iconst n => decide (len = 1 ∧ Int32.ofInt n = cv)
  | .bipush n => decide (len = 2 ∧ (Int8.ofInt n).toInt32 = cv)
  | .sipush n => decide (len = 3 ∧ (Int16.ofInt n).toInt32 = cv)
  | .ldc_w k => decide (len = 3) && xa_in (a.getD 5 0) (.constant own k cv)
  | .ldc2_w k => decide (len = 3) && xa_in (a.getD 5 0) (.constantLong own k (Int64.ofNat (a.headD 0)))
  | _ => decide (len = 1)
section XA2
variable {p : Program} {l : Launch} {e : Env} {R : Room} {s : State} {m : MethodId} {args : Array Value} {below : List Frame} {meth : Method} {c : Code} {H : Heap} {locs : List Loc} {cells slots : Nat} {Q : State → Prop} {cc : ByteArray} {own : String} {tr : Nat → Nat} {fmt : Value} {pc len : Nat} {a : List Nat} {cv : Int32} {rl : Array Slot} {st st' : List Value} {i : Jvm.ClassFile.Instr}
theorem xa_c1_cat {v : Value} (h : xa_c1 v = true) : (xa_v tr fmt v).category = 1 := by
  cases v <;> first | rfl | (simp [xa_c1] at h)
set_option maxHeartbeats 4000000 in
theorem xs_alu (hx : p.tables.exec = Jvm.exec) (hb : c.code = cc) (hown : s.vm.findClass own = some m.cls) (hts : ∀ w ∈ xa_gw, w.before args s = true) (hok : xa_okA own i len a cv = true) (hdg : decode cc pc = .ok (i, len)) (hs : xa_alu i a cv st = some st')
    (kk : W p l e R s m args below meth c H locs cells slots Q (F0 m (pc + len) rl (st'.map (xa_v tr fmt)))) : W p l e R s m args below meth c H locs cells slots Q (F0 m pc rl (st.map (xa_v tr fmt))) := by
  cases i with
  | iconst n =>
    obtain ⟨rfl, h2⟩ : len = 1 ∧ Int32.ofInt n = cv := by simpa [xa_okA] using hok
    cases hs
    exact lv_iconst hx hb hdg h2 kk
  | bipush n =>
    obtain ⟨rfl, h2⟩ : len = 2 ∧ (Int8.ofInt n).toInt32 = cv := by simpa [xa_okA] using hok
    cases hs
    exact lv_bipush hx hb hdg h2 kk
  | sipush n =>
    obtain ⟨rfl, h2⟩ : len = 3 ∧ (Int16.ofInt n).toInt32 = cv := by simpa [xa_okA] using hok
    cases hs
    exact lv_sipush hx hb hdg h2 kk
  | ldc_w k =>
    obtain ⟨rfl, h2⟩ : len = 3 ∧ xa_in (a.getD 5 0) (.constant own k cv) = true := by simpa [xa_okA] using hok
    cases hs
    exact lv_ldcw hx hb hown (hts _ (xa_in_gw h2)) hdg kk
  | ldc2_w k =>
    obtain ⟨rfl, h2⟩ : len = 3 ∧ xa_in (a.getD 5 0) (.constantLong own k (Int64.ofNat (a.headD 0))) = true := by simpa [xa_okA] using hok
    cases hs
    exact lv_ldc2 hx hb hown (hts _ (xa_in_gw h2)) hdg kk
  | iadd =>
    obtain rfl : len = 1 := by simpa [xa_okA] using hok
    simp only [xa_alu] at hs
    split at hs
    · cases hs
      exact lv_iadd hx hb hdg kk
    · cases hs
  | isub =>
    obtain rfl : len = 1 := by simpa [xa_okA] using hok
    simp only [xa_alu] at hs
    split at hs
    · cases hs
      exact lv_isub hx hb hdg kk
    · cases hs
  | imul =>
    obtain rfl : len = 1 := by simpa [xa_okA] using hok
    simp only [xa_alu] at hs
    split at hs
    · cases hs
      exact lv_imul hx hb hdg kk
    · cases hs
  | iand =>
    obtain rfl : len = 1 := by simpa [xa_okA] using hok
    simp only [xa_alu] at hs
    split at hs
    · cases hs
      exact lv_iand hx hb hdg kk
    · cases hs
  | ior =>
    obtain rfl : len = 1 := by simpa [xa_okA] using hok
    simp only [xa_alu] at hs
    split at hs
    · cases hs
      exact lv_ior hx hb hdg kk
    · cases hs
  | ixor =>
    obtain rfl : len = 1 := by simpa [xa_okA] using hok
    simp only [xa_alu] at hs
    split at hs
    · cases hs
      exact lv_ixor hx hb hdg kk
    · cases hs
  | ishl =>
    obtain rfl : len = 1 := by simpa [xa_okA] using hok
    simp only [xa_alu] at hs
    split at hs
    · cases hs
      exact lv_ishl hx hb hdg kk
    · cases hs
  | ishr =>
    obtain rfl : len = 1 := by simpa [xa_okA] using hok
    simp only [xa_alu] at hs
    split at hs
    · cases hs
      exact lv_ishr hx hb hdg kk
    · cases hs
  | land =>
    obtain rfl : len = 1 := by simpa [xa_okA] using hok
    simp only [xa_alu] at hs
    split at hs
    · cases hs
      exact lv_land hx hb hdg kk
    · cases hs
  | lor =>
    obtain rfl : len = 1 := by simpa [xa_okA] using hok
    simp only [xa_alu] at hs
    split at hs
    · cases hs
      exact lv_lor hx hb hdg kk
    · cases hs
  | iushr =>
    obtain rfl : len = 1 := by simpa [xa_okA] using hok
    simp only [xa_alu] at hs
    split at hs
    · cases hs
      exact lv_iushr hx hb hdg rfl kk
    · cases hs
  | i2l =>
    obtain rfl : len = 1 := by simpa [xa_okA] using hok
    simp only [xa_alu] at hs
    split at hs
    · cases hs
      exact lv_i2l hx hb hdg rfl kk
    · cases hs
  | l2i =>
    obtain rfl : len = 1 := by simpa [xa_okA] using hok
    simp only [xa_alu] at hs
    split at hs
    · cases hs
      exact lv_l2i hx hb hdg rfl kk
    · cases hs
  | i2b =>
    obtain rfl : len = 1 := by simpa [xa_okA] using hok
    simp only [xa_alu] at hs
    split at hs
    · cases hs
      exact lv_i2b hx hb hdg rfl kk
    · cases hs
  | i2c =>
    obtain rfl : len = 1 := by simpa [xa_okA] using hok
    simp only [xa_alu] at hs
    split at hs
    · cases hs
      exact lv_i2c hx hb hdg rfl kk
    · cases hs
  | lshl =>
    obtain rfl : len = 1 := by simpa [xa_okA] using hok
    simp only [xa_alu] at hs
    split at hs
    · cases hs
      exact lv_lshl hx hb hdg rfl kk
    · cases hs
  | lshr =>
    obtain rfl : len = 1 := by simpa [xa_okA] using hok
    simp only [xa_alu] at hs
    split at hs
    · cases hs
      exact lv_lshr hx hb hdg rfl kk
    · cases hs
  | lushr =>
    obtain rfl : len = 1 := by simpa [xa_okA] using hok
    simp only [xa_alu] at hs
    split at hs
    · cases hs
      exact lv_lushr hx hb hdg rfl kk
    · cases hs
  | idiv =>
    obtain rfl : len = 1 := by simpa [xa_okA] using hok
    simp only [xa_alu] at hs
    split at hs
    · split at hs
      · cases hs
      · cases hs
        exact lv_idiv hx hb hdg (by assumption) kk
    · cases hs
  | irem =>
    obtain rfl : len = 1 := by simpa [xa_okA] using hok
    simp only [xa_alu] at hs
    split at hs
    · split at hs
      · cases hs
      · cases hs
        exact lv_irem hx hb hdg (by assumption) kk
    · cases hs
  | dup =>
    obtain rfl : len = 1 := by simpa [xa_okA] using hok
    simp only [xa_alu] at hs
    split at hs
    · split at hs
      · rename_i hc
        cases hs
        exact lv_dup hx hb hdg (xa_c1_cat hc) kk
      · cases hs
    · cases hs
  | pop =>
    obtain rfl : len = 1 := by simpa [xa_okA] using hok
    simp only [xa_alu] at hs
    split at hs
    · split at hs
      · rename_i hc
        cases hs
        exact lv_pop hx hb hdg (xa_c1_cat hc) kk
      · cases hs
    · cases hs
  | dup2 =>
    obtain rfl : len = 1 := by simpa [xa_okA] using hok
    simp only [xa_alu] at hs
    split at hs
    · split at hs
      · rename_i hc
        cases hs
        exact lv_dup2_11 hx hb hdg (xa_c1_cat hc.1) (xa_c1_cat hc.2) kk
      · cases hs
    · cases hs
  | _ => simp [xa_alu] at hs
end XA2
end
section
/-! ===== what holds of a state throughout; the rows of the single instructions ===== -/
def xa_Inv (D : va_G) (cI cP : ClassId) (tr : Nat → Nat) (fmt : Value) (A : Nat → Prop) (U : State) : Prop :=
  va_K D vwCl [(cI, .int), (cP, .object "MayMust$Plan")] U ∧ (∀ w ∈ xa_nest, va_Nw w U) ∧ va_AO "MayMust$Plan" U ∧ va_Z "java/lang/String" "COMPACT_STRINGS" "Z" (.int 1) A U U.heap ∧ va_Z "jdk/internal/util/Preconditions" "SIOOBE_FORMATTER" "Ljava/util/function/BiFunction;" fmt A U U.heap ∧ ∀ q ∈ xa_strs, vk_R "MayMust$Tokens" q.1 q.2.1 (tr q.2.2) U
theorem xa_nest_form {w : Cond} (h : w ∈ xa_nest) : ∃ a i x b, w = .methodLinkNest a i x b := by
  have h1 := (List.mem_filter.mp h).2
  cases w <;> first | exact ⟨_, _, _, _, rfl⟩ | (simp at h1)
theorem xa_Inv.to {D : va_G} {cI cP : ClassId} {tr : Nat → Nat} {fmt : Value} {A : Nat → Prop} {s U : State} (hW : s.WarmedH U.vm) (hh : ∀ a : Nat, a < s.heap.size → ¬ A a → U.heap[a]? = s.heap[a]?) (h : xa_Inv D cI cP tr fmt A s) : xa_Inv D cI cP tr fmt A U := by
  obtain ⟨h1, h2, h3, h4, h5, h6⟩ := h
  refine ⟨va_K.moved hW.alike h1, fun w hw => ?_, va_AO.moved hW.alike h3, (va_Z.moved hW.alike h4).kept hh, (va_Z.moved hW.alike h5).kept hh, fun q hq => vk_R.warm hW (h6 q hq)⟩
  obtain ⟨a, i, x, b, rfl⟩ := xa_nest_form hw
  exact va_Nw.warmM hW (h2 _ hw)
theorem xa_Inv.same {D : va_G} {cI cP : ClassId} {tr : Nat → Nat} {fmt : Value} {A : Nat → Prop} {s U : State} (hv : U.vm = s.vm) (hh : U.heap = s.heap) (h : xa_Inv D cI cP tr fmt A s) : xa_Inv D cI cP tr fmt A U := by
  obtain ⟨h1, h2, h3, h4, h5, h6⟩ := h
  have hal : s.vm.Alike U.vm := by rw [hv]; exact Vm.Alike.refl _
  refine ⟨va_K.moved hal h1, fun w hw => ?_, va_AO.moved hal h3, by rw [hh]; exact va_Z.moved hal h4, by rw [hh]; exact va_Z.moved hal h5, fun q hq => vk_R.same hv (h6 q hq)⟩
  obtain ⟨a, i, x, b, rfl⟩ := xa_nest_form hw
  exact va_Nw.same rfl hv.symm (h2 _ hw)
/-- the machine at a state of the small machine comes to Q -/
def xa_WW (p : Program) (l : Launch) (e : Env) (R : Room) (s : State) (m : MethodId) (args : Array Value) (below : List Frame) (meth : Method) (c : Code) (Q : State → Prop) (D : va_G) (cI cP : ClassId) (tr : Nat → Nat) (fmt : Value) (b0 nL n0 s0 : Nat) (σ : xa_S) : Prop :=
  ∀ (rl : Array Slot) (H : Heap) (locs : List Loc) (cells slots : Nat), xa_L tr fmt nL σ.2.1 rl → xa_HR D cI cP tr fmt (fun q => b0 ≤ q) s σ.2.2.2 H → va_S (fun q => b0 ≤ q) s.heap H locs → n0 + cells = σ.2.2.2.length → s0 + slots = xa_sl σ.2.2.2 → W p l e R s m args below meth c H locs cells slots Q (F0 m σ.1 rl (σ.2.2.1.map (xa_v tr fmt)))
def xa_isref (ty : FieldType) : Bool := match ty with
  | .object _ => true
  | .array _ => true
  | _ => false
/-- a callee's parameters -/
def xa_okM (M : xa_M) (n : Nat) : Bool := decide (M.1.cls ≠ "java/lang/invoke/MethodHandle" ∧ M.1.cls ≠ "java/lang/invoke/VarHandle" ∧ (parseMethodDescriptor M.1.desc).map (fun d => d.parameters.length) = some n) && Nat.ble M.2.2.1 40 && plainName M.1.cls
/-- an entry of a table is right -/
def xa_okB (ms : List xa_M) (y : MethodName) (ret : Option FieldType) (pc : Nat) (i : Jvm.ClassFile.Instr) (len : Nat) (a : List Nat) (cv : Int32) : Bool := match i with
  | .iload k => decide (len = 2 ∧ a.getD 0 0 = k)
  | .iload_n k => decide (len = 1 ∧ (k : Nat) = a.getD 0 0)
  | .lload_n k => decide (len = 1 ∧ (k : Nat) = a.getD 0 0)
  | .aload k => decide (len = 2 ∧ a.getD 0 0 = k)
  | .aload_n k => decide (len = 1 ∧ (k : Nat) = a.getD 0 0)
  | .istore k => decide (len = 2 ∧ a.getD 0 0 = k)
  | .istore_n k => decide (len = 1 ∧ (k : Nat) = a.getD 0 0)
  | .astore_n k => decide (len = 1 ∧ (k : Nat) = a.getD 0 0)
  | .iinc k n => decide (len = 3 ∧ a.getD 0 0 = k ∧ Int32.ofInt n = cv)
  | .goto off => decide (len = 3 ∧ (pc : Int) + off = ((a.getD 0 0 : Nat) : Int))
  | .ifCond _ off => decide (len = 3 ∧ (pc : Int) + off = ((a.getD 0 0 : Nat) : Int))
  | .if_icmp _ off => decide (len = 3 ∧ (pc : Int) + off = ((a.getD 0 0 : Nat) : Int))
  | .tableswitch d lo hi offs => decide (lo = 0 ∧ hi = (a.length : Int) - 2 ∧ (pc : Int) + d = ((a.getD 0 0 : Nat) : Int)) && (List.range (a.length - 1)).all (fun j => match offs[j]? with
    | some off => decide ((pc : Int) + off = ((a.getD (j + 1) 0 : Nat) : Int))
    | none => false)
  | .getfield k => decide (len = 3) && (match a.getD 0 0 with
    | 60 => (match a.getD 1 0 with
      | 0 => xa_in (a.getD 5 0) (.fieldLink y.cls k "java/lang/String" "value" "[B")
      | 1 => xa_in (a.getD 5 0) (.fieldLink y.cls k "java/lang/String" "coder" "B")
      | _ => false)
    | ci => decide (ci < 12) && (match vwCl[ci]? with
      | some q => decide (a.getD 1 0 < q.2.2) && xa_in (a.getD 5 0) (.fieldLink y.cls k (q.2.1 (a.getD 1 0)).1 (q.2.1 (a.getD 1 0)).2.1 (q.2.1 (a.getD 1 0)).2.2.1)
      | none => false))
  | .putfield k => decide (len = 3 ∧ a.getD 0 0 < 12) && (match vwCl[a.getD 0 0]? with
      | some q => decide (a.getD 1 0 < q.2.2) && xa_in (a.getD 5 0) (.fieldLink y.cls k (q.2.1 (a.getD 1 0)).1 (q.2.1 (a.getD 1 0)).2.1 (q.2.1 (a.getD 1 0)).2.2.1) && (match parseFieldDescriptor (q.2.1 (a.getD 1 0)).2.2.1 with
        | some ty => (match a.getD 2 0 with
          | 0 => decide (ty = .int)
          | _ => xa_isref ty)
        | none => false) && (if (q.2.1 (a.getD 1 0)).2.2.2 = true then decide (y.name = "<init>" ∧ (q.2.1 (a.getD 1 0)).1 = y.cls) else true)
      | none => false)
  | .newarray t => decide (len = 2 ∧ t = .int) && xa_in (a.getD 5 0) (.arrayClass .int)
  | .anewarray k => decide (len = 3) && xa_in (a.getD 5 0) (.classLink y.cls k "MayMust$Plan")
  | .new k => decide (len = 3) && (match vwCl[a.getD 0 0]? with
      | some q => xa_in (a.getD 5 0) (.classLink y.cls k q.1) && xa_in (a.getD 6 0) (.instantiable q.1 q.2.2) && xa_in (a.getD 7 0) (.initialized q.1) && decide ((xa_df (a.getD 0 0)).length = q.2.2) && (List.range q.2.2).all (fun j => match parseFieldDescriptor (q.2.1 j).2.2.1 with
        | some ty => decide (defaultValue ty = vp_V (xa_df (a.getD 0 0)) j)
        | none => false)
      | none => false)
  | .getstatic k => decide (len = 3) && (match a.getD 0 0 with
    | 0 => xa_in (a.getD 5 0) (.fieldLink y.cls k "java/lang/String" "COMPACT_STRINGS" "Z")
    | _ => xa_in (a.getD 5 0) (.fieldLink y.cls k "jdk/internal/util/Preconditions" "SIOOBE_FORMATTER" "Ljava/util/function/BiFunction;"))
  | .ldc k => decide (len = 2) && (match a.getD 0 0 with
    | 0 => xa_in (a.getD 5 0) (.constant y.cls k cv)
    | j + 1 => decide (y.cls = "MayMust$Tokens") && xa_strs.any (fun q => decide (q.1 = k ∧ q.2.2 = j + 1)))
  | .invokestatic k => decide (len = 3) && (match a.getD 0 0 with
    | 2 => xa_in (a.getD 5 0) (.methodLink y.cls k arraycopyName) && xa_in (a.getD 6 0) (.native arraycopyName) && xa_in (a.getD 7 0) (.static arraycopyName) && xa_in (a.getD 8 0) (.initialized "java/lang/System")
    | 3 => xa_in (a.getD 5 0) (.methodLink y.cls k Lib.Math.max.name) && xa_in (a.getD 6 0) (.static Lib.Math.max.name) && xa_in (a.getD 7 0) (.initialized "java/lang/Math") && xa_in (a.getD 8 0) (.code Lib.Math.max.name Lib.Math.max.code 2 (some .int))
    | 4 => xa_in (a.getD 5 0) (.methodLink y.cls k Lib.Math.min.name) && xa_in (a.getD 6 0) (.static Lib.Math.min.name) && xa_in (a.getD 7 0) (.initialized "java/lang/Math") && xa_in (a.getD 8 0) (.code Lib.Math.min.name Lib.Math.min.code 2 (some .int))
    | 0 => (match ms[a.getD 1 0]? with
      | some M => xa_okM M (a.getD 2 0) && xa_in (a.getD 5 0) (.methodLink y.cls k M.1) && xa_in (a.getD 6 0) (.static M.1)
      | none => false)
    | 1 => (match ms[a.getD 1 0]? with
      | some M => xa_okM M (a.getD 2 0) && decide (lw_tbl[a.getD 9 0]? = some (Cond.methodLinkNest y.cls k M.1 "MayMust")) && xa_in (a.getD 5 0) (.static M.1)
      | none => false)
    | _ => false)
  | .invokevirtual k => decide (len = 3) && (match ms[a.getD 1 0]? with
      | some M => xa_okM M (a.getD 2 0) && xa_in (a.getD 5 0) (.methodLink y.cls k M.1) && xa_in (a.getD 6 0) (.instanceMethod M.1) && xa_in (a.getD 7 0) (.selects M.1.cls M.1 M.1) && (match a.getD 3 0 with
        | 60 => decide (M.1.cls = "java/lang/String")
        | ci => decide (ci < 12) && (match vwCl[ci]? with
          | some q => decide (q.1 = M.1.cls)
          | none => false))
      | none => false)
  | .invokespecial k => decide (len = 3) && (match a.getD 0 0 with
    | 9 => xa_in (a.getD 5 0) (.methodLink y.cls k objectInit) && xa_in (a.getD 6 0) (.instanceMethod objectInit) && xa_in (a.getD 7 0) (.code objectInit ⟨#[0xb1]⟩ 1 none)
    | 0 => (match ms[a.getD 1 0]? with
      | some M => xa_okM M (a.getD 2 0) && xa_in (a.getD 5 0) (.methodLink y.cls k M.1) && xa_in (a.getD 6 0) (.instanceMethod M.1) && decide (M.1.name = "<init>" ∧ M.2.2.2.1 = none)
      | none => false)
    | 1 => (match ms[a.getD 1 0]? with
      | some M => xa_okM M (a.getD 2 0) && decide (lw_tbl[a.getD 9 0]? = some (Cond.methodLinkNest y.cls k M.1 "MayMust")) && xa_in (a.getD 5 0) (.instanceMethod M.1) && decide (M.1.name = "<init>" ∧ M.2.2.2.1 = none)
      | none => false)
    | _ => false)
  | .ireturn => decide (len = 1) && (match a.getD 0 0 with
    | 0 => decide (ret = some .int)
    | 1 => decide (ret = some .boolean)
    | 2 => decide (ret = some .char)
    | _ => decide (ret = some .byte))
  | .return_ => decide (len = 1 ∧ ret = none)
  | .iaload => decide (len = 1)
  | .baload => decide (len = 1)
  | .iastore => decide (len = 1)
  | .arraylength => decide (len = 1)
  | .aaload => decide (len = 1)
  | .aastore => decide (len = 1)
  | i => xa_okA y.cls i len a cv
/-- a callee's own words, by the places that its table's first row tells -/
def xa_okC (M : xa_M) : Bool := match M.2.2.2.2 with
  | e :: _ => xa_in (e.2.2.2.1.getD 0 0) (.code M.1 M.2.1 M.2.2.1 M.2.2.2.1) && xa_in (e.2.2.2.1.getD 1 0) (.initialized M.1.cls)
  | [] => false
theorem xa_nest_of {k : Nat} {o : String} {j : Nat} {y : MethodName} {b : String} (h : lw_tbl[k]? = some (Cond.methodLinkNest o j y b)) : Cond.methodLinkNest o j y b ∈ xa_nest := List.mem_filter.mpr ⟨List.mem_of_getElem? h, rfl⟩
section XA3
variable {p : Program} {l : Launch} {e : Env} {R : Room} {s : State} {m : MethodId} {args : Array Value} {below : List Frame} {meth : Method} {c : Code} {Q : State → Prop} {D : va_G} {cI cP : ClassId} {tr : Nat → Nat} {fmt : Value} {b0 nL n0 s0 : Nat} {cc : ByteArray} {own : String} {pc k tgt : Nat} {ls st : List Value} {h : xa_H} {σ : xa_S}
theorem xs_ldi {n2 : Nat} (row : ∀ {rl : Array Slot} {H : Heap} {locs : List Loc} {cells slots : Nat} {x : Int32} {rest : List Value}, rl[k]? = some (.val (.int x)) → W p l e R s m args below meth c H locs cells slots Q (F0 m n2 rl (.int x :: rest)) → W p l e R s m args below meth c H locs cells slots Q (F0 m pc rl rest)) (hs : xa_ldi n2 k ls st h = some (.inl σ)) (kk : xa_WW p l e R s m args below meth c Q D cI cP tr fmt b0 nL n0 s0 σ) : xa_WW p l e R s m args below meth c Q D cI cP tr fmt b0 nL n0 s0 (pc, ls, st, h) := by
  intro rl H locs cells slots hl hR hS hc1 hc2
  unfold xa_ldi at hs
  split at hs
  · rename_i x hx
    cases hs
    exact row (hl.2.2.2 k _ hx rfl) (kk rl H locs cells slots hl hR hS hc1 hc2)
  · cases hs
theorem xs_ldl {n2 : Nat} (row : ∀ {rl : Array Slot} {H : Heap} {locs : List Loc} {cells slots : Nat} {x : Int64} {rest : List Value}, rl[k]? = some (.val (.long x)) → W p l e R s m args below meth c H locs cells slots Q (F0 m n2 rl (.long x :: rest)) → W p l e R s m args below meth c H locs cells slots Q (F0 m pc rl rest)) (hs : xa_ldl n2 k ls st h = some (.inl σ)) (kk : xa_WW p l e R s m args below meth c Q D cI cP tr fmt b0 nL n0 s0 σ) : xa_WW p l e R s m args below meth c Q D cI cP tr fmt b0 nL n0 s0 (pc, ls, st, h) := by
  intro rl H locs cells slots hl hR hS hc1 hc2
  unfold xa_ldl at hs
  split at hs
  · rename_i x hx
    cases hs
    exact row (hl.2.2.2 k _ hx rfl) (kk rl H locs cells slots hl hR hS hc1 hc2)
  · cases hs
theorem xs_lda {n2 : Nat} (row : ∀ {rl : Array Slot} {H : Heap} {locs : List Loc} {cells slots : Nat} {x : Nat} {rest : List Value}, rl[k]? = some (.val (.ref x)) → W p l e R s m args below meth c H locs cells slots Q (F0 m n2 rl (.ref x :: rest)) → W p l e R s m args below meth c H locs cells slots Q (F0 m pc rl rest)) (hs : xa_lda n2 k ls st h = some (.inl σ)) (kk : xa_WW p l e R s m args below meth c Q D cI cP tr fmt b0 nL n0 s0 σ) : xa_WW p l e R s m args below meth c Q D cI cP tr fmt b0 nL n0 s0 (pc, ls, st, h) := by
  intro rl H locs cells slots hl hR hS hc1 hc2
  unfold xa_lda at hs
  split at hs
  · rename_i x hx
    cases hs
    exact row (hl.2.2.2 k _ hx rfl) (kk rl H locs cells slots hl hR hS hc1 hc2)
  · cases hs
theorem xs_sti {n2 : Nat} (hf : fmt.category = 1) (row : ∀ {rl : Array Slot} {H : Heap} {locs : List Loc} {cells slots : Nat} {x : Int32} {rest : List Value} {lv : List (Nat × Value)}, lv_has rl nL lv → k < nL → (∀ ls' : Array Slot, lv_has ls' nL ((k, Value.int x) :: lv.filter (fun q => !(q.1 == k) && !(q.1 + 1 == k && q.2.category == 2))) → W p l e R s m args below meth c H locs cells slots Q (F0 m n2 ls' rest)) → W p l e R s m args below meth c H locs cells slots Q (F0 m pc rl (.int x :: rest))) (hs : xa_sti n2 k ls st h = some (.inl σ)) (kk : xa_WW p l e R s m args below meth c Q D cI cP tr fmt b0 nL n0 s0 σ) : xa_WW p l e R s m args below meth c Q D cI cP tr fmt b0 nL n0 s0 (pc, ls, st, h) := by
  intro rl H locs cells slots hl hR hS hc1 hc2
  unfold xa_sti at hs
  split at hs
  · split at hs
    · rename_i x r hfr
      cases hs
      refine row hl.has (by rw [← hl.1]; exact xa_free_lt hfr) (fun ls' h' => kk ls' H locs cells slots (hl.store hf hfr (v := .int x) h') hR hS hc1 hc2)
    · cases hs
  · cases hs
theorem xs_sta {n2 : Nat} (hf : fmt.category = 1) (row : ∀ {rl : Array Slot} {H : Heap} {locs : List Loc} {cells slots : Nat} {x : Nat} {rest : List Value} {lv : List (Nat × Value)}, lv_has rl nL lv → k < nL → (∀ ls' : Array Slot, lv_has ls' nL ((k, Value.ref x) :: lv.filter (fun q => !(q.1 == k) && !(q.1 + 1 == k && q.2.category == 2))) → W p l e R s m args below meth c H locs cells slots Q (F0 m n2 ls' rest)) → W p l e R s m args below meth c H locs cells slots Q (F0 m pc rl (.ref x :: rest))) (hs : xa_sta n2 k ls st h = some (.inl σ)) (kk : xa_WW p l e R s m args below meth c Q D cI cP tr fmt b0 nL n0 s0 σ) : xa_WW p l e R s m args below meth c Q D cI cP tr fmt b0 nL n0 s0 (pc, ls, st, h) := by
  intro rl H locs cells slots hl hR hS hc1 hc2
  unfold xa_sta at hs
  split at hs
  · split at hs
    · rename_i x r hfr
      cases hs
      refine row hl.has (by rw [← hl.1]; exact xa_free_lt hfr) (fun ls' h' => kk ls' H locs cells slots (hl.store hf hfr (v := .ref x) h') hR hS hc1 hc2)
    · cases hs
  · cases hs
theorem xs_inc {n2 : Nat} {cv : Int32} {n : Int} (hf : fmt.category = 1) (hx : p.tables.exec = Jvm.exec) (hb : c.code = cc) (hn2 : n2 = pc + 3) (hn : Int32.ofInt n = cv) (hdg : decode cc pc = .ok (.iinc k n, 3)) (hs : xa_inc n2 k cv ls st h = some (.inl σ)) (kk : xa_WW p l e R s m args below meth c Q D cI cP tr fmt b0 nL n0 s0 σ) : xa_WW p l e R s m args below meth c Q D cI cP tr fmt b0 nL n0 s0 (pc, ls, st, h) := by
  intro rl H locs cells slots hl hR hS hc1 hc2
  subst hn2
  unfold xa_inc at hs
  split at hs
  · rename_i x hx1
    split at hs
    · rename_i hfr
      cases hs
      have hm : (k, Value.int x) ∈ xa_pl tr fmt ls := xa_pl_mem.mpr ⟨_, hx1, rfl, rfl⟩
      obtain ⟨j, hj⟩ := List.getElem?_of_mem hm
      exact lv_iinc (v := x + cv) hx hb hdg hl.has hj (by rw [hn]) (by rw [← hl.1]; exact xa_free_lt hfr) rfl (fun ls' h' => kk ls' H locs cells slots (hl.store hf hfr (v := .int (x + cv)) h') hR hS hc1 hc2)
    · cases hs
  · cases hs
theorem xs_if1 {cd : Jvm.ClassFile.Cond} {off : Int} (hx : p.tables.exec = Jvm.exec) (hb : c.code = cc) (hdg : decode cc pc = .ok (.ifCond cd off, 3)) (ht : (pc : Int) + off = (tgt : Int)) (hs : xa_if1 cd (pc + 3) tgt ls st h = some (.inl σ)) (kk : xa_WW p l e R s m args below meth c Q D cI cP tr fmt b0 nL n0 s0 σ) : xa_WW p l e R s m args below meth c Q D cI cP tr fmt b0 nL n0 s0 (pc, ls, st, h) := by
  intro rl H locs cells slots hl hR hS hc1 hc2
  unfold xa_if1 at hs
  split at hs
  · rename_i x r
    cases hs
    have kk := kk rl H locs cells slots hl hR hS hc1 hc2
    cases cd with
    | eq => exact lv_if_eq hx hb hdg ht (fun q => by simpa [xa_cmp, q] using kk) (fun q => by simpa [xa_cmp, q] using kk)
    | ne => exact lv_if_ne hx hb hdg ht (fun q => by simpa [xa_cmp, q] using kk) (fun q => by simpa [xa_cmp, q] using kk)
    | lt => exact lv_if_lt hx hb hdg ht (fun q => by simpa [xa_cmp, q] using kk) (fun q => by simpa [xa_cmp, q] using kk)
    | ge => exact lv_if_ge hx hb hdg ht (fun q => by simpa [xa_cmp, q] using kk) (fun q => by simpa [xa_cmp, q] using kk)
    | gt => exact lv_if_gt hx hb hdg ht (fun q => by simpa [xa_cmp, q] using kk) (fun q => by simpa [xa_cmp, q] using kk)
    | le => exact lv_if_le hx hb hdg ht (fun q => by simpa [xa_cmp, q] using kk) (fun q => by simpa [xa_cmp, q] using kk)
  · cases hs
theorem xs_if2 {cd : Jvm.ClassFile.Cond} {off : Int} (hx : p.tables.exec = Jvm.exec) (hb : c.code = cc) (hdg : decode cc pc = .ok (.if_icmp cd off, 3)) (ht : (pc : Int) + off = (tgt : Int)) (hs : xa_if2 cd (pc + 3) tgt ls st h = some (.inl σ)) (kk : xa_WW p l e R s m args below meth c Q D cI cP tr fmt b0 nL n0 s0 σ) : xa_WW p l e R s m args below meth c Q D cI cP tr fmt b0 nL n0 s0 (pc, ls, st, h) := by
  intro rl H locs cells slots hl hR hS hc1 hc2
  unfold xa_if2 at hs
  split at hs
  · rename_i y x r
    cases hs
    have kk := kk rl H locs cells slots hl hR hS hc1 hc2
    cases cd with
    | eq => exact lv_icmp_eq hx hb hdg ht (fun q => by simpa [xa_cmp, q] using kk) (fun q => by simpa [xa_cmp, q] using kk)
    | ne => exact lv_icmp_ne hx hb hdg ht (fun q => by simpa [xa_cmp, q] using kk) (fun q => by simpa [xa_cmp, q] using kk)
    | lt => exact lv_icmp_lt hx hb hdg ht (fun q => by simpa [xa_cmp, q] using kk) (fun q => by simpa [xa_cmp, q] using kk)
    | ge => exact lv_icmp_ge hx hb hdg ht (fun q => by simpa [xa_cmp, q] using kk) (fun q => by simpa [xa_cmp, q] using kk)
    | gt => exact lv_icmp_gt hx hb hdg ht (fun q => by simpa [xa_cmp, q] using kk) (fun q => by simpa [xa_cmp, q] using kk)
    | le => exact lv_icmp_le hx hb hdg ht (fun q => by simpa [xa_cmp, q] using kk) (fun q => by simpa [xa_cmp, q] using kk)
  · cases hs
end XA3
end
section
/-! ===== the instructions that see cells ===== -/
def xa_ty (q : vw_C) (k : Nat) : FieldType := (parseFieldDescriptor (q.2.1 k).2.2.1).getD .int
def xa_clsok (x : vw_C × List Nat) : Bool := let q := x.1
  decide ((u_ws q.1 q.2.1 q.2.2) = x.2.filterMap (fun k => lw_tbl[k]?)) && (u_ws q.1 q.2.1 q.2.2).all goodWord && (List.range q.2.2).all (fun k => (parseFieldDescriptor (q.2.1 k).2.2.1).isSome) && decide (∀ a, a < q.2.2 → ∀ b, b < q.2.2 → a ≠ b → (q.2.1 a).2.1 ≠ (q.2.1 b).2.1)
set_option maxRecDepth 100000 in
theorem xa_clsoks : (vwCl.zip xa_clsp).all xa_clsok = true := by decide +kernel
theorem xa_cls {ci : Nat} {q : vw_C} (h : vwCl[ci]? = some q) : (∀ w ∈ u_ws q.1 q.2.1 q.2.2, w ∈ xa_gw) ∧ (∀ k, k < q.2.2 → parseFieldDescriptor (q.2.1 k).2.2.1 = some (xa_ty q k)) ∧ ∀ a, a < q.2.2 → ∀ b, b < q.2.2 → a ≠ b → (q.2.1 a).2.1 ≠ (q.2.1 b).2.1 := by
  have hlt : ci < 12 := (List.getElem?_eq_some_iff.mp h).1
  obtain ⟨ps, hps⟩ : ∃ ps, xa_clsp[ci]? = some ps := ⟨_, List.getElem?_eq_getElem (show ci < xa_clsp.length from hlt)⟩
  have h1 := List.all_eq_true.mp xa_clsoks (q, ps) (List.mem_of_getElem? (i := ci) (by rw [List.getElem?_zip_eq_some]; exact ⟨h, hps⟩))
  unfold xa_clsok at h1
  simp only [Bool.and_eq_true, decide_eq_true_eq] at h1
  obtain ⟨⟨⟨h2, h2b⟩, h3⟩, h4⟩ := h1
  refine ⟨fun w hw => ?_, fun k hk => ?_, h4⟩
  · have hg := List.all_eq_true.mp h2b w hw
    rw [h2] at hw
    obtain ⟨j, -, hj⟩ := List.mem_filterMap.mp hw
    exact List.mem_filter.mpr ⟨List.mem_of_getElem? hj, hg⟩
  have h5 := List.all_eq_true.mp h3 k (List.mem_range.mpr hk)
  unfold xa_ty
  cases hp : parseFieldDescriptor (q.2.1 k).2.2.1 with
  | none => simp [hp] at h5
  | some t => rfl
theorem xa_P1 {D : va_G} {e : Nat × va_E} {H : Heap} (h : va_at D vwCl e H) : va_P D vwCl [e] H := by
  intro k q hk
  cases k with
  | zero => cases hk; exact h
  | succ k => simp at hk
section XA4
variable {p : Program} {l : Launch} {e : Env} {R : Room} {s : State} {m : MethodId} {args : Array Value} {below : List Frame} {meth : Method} {c : Code} {Q : State → Prop} {D : va_G} {cI cP : ClassId} {tr : Nat → Nat} {fmt : Value} {b0 nL n0 s0 : Nat} {cc : ByteArray} {own : String} {pc k : Nat} {ls st : List Value} {h : xa_H} {σ : xa_S}
theorem xs_getf {ci fk : Nat} (hx : p.tables.exec = Jvm.exec) (hb : c.code = cc) (hown : s.vm.findClass own = some m.cls) (hts : ∀ w ∈ xa_gw, w.before args s = true) (hI : xa_Inv D cI cP tr fmt (fun q => b0 ≤ q) s)
    (hok : (ci = 60 ∧ ((fk = 0 ∧ Cond.fieldLink own k "java/lang/String" "value" "[B" ∈ xa_gw) ∨ (fk = 1 ∧ Cond.fieldLink own k "java/lang/String" "coder" "B" ∈ xa_gw))) ∨ (ci < 12 ∧ ∃ q, vwCl[ci]? = some q ∧ fk < q.2.2 ∧ Cond.fieldLink own k (q.2.1 fk).1 (q.2.1 fk).2.1 (q.2.1 fk).2.2.1 ∈ xa_gw))
    (hdg : decode cc pc = .ok (.getfield k, 3)) (hs : xa_getf (pc + 3) ci fk ls st h = some (.inl σ)) (kk : xa_WW p l e R s m args below meth c Q D cI cP tr fmt b0 nL n0 s0 σ) : xa_WW p l e R s m args below meth c Q D cI cP tr fmt b0 nL n0 s0 (pc, ls, st, h) := by
  intro rl H locs cells slots hl hR hS hc1 hc2
  unfold xa_getf at hs
  split at hs
  · rename_i o r
    split at hs
    · rename_i c2 fs ho
      split at hs
      · rename_i hcc
        split at hs
        · rename_i v hv
          cases hs
          have kk := kk rl H locs cells slots hl hR hS hc1 hc2
          have hcell := hR.2.2 o _ ho
          subst hcc
          rcases hok with ⟨h60, hok⟩ | ⟨h12, q, hq, hfk, hlink⟩
          · rcases hcell with ⟨h50, -⟩ | ⟨-, hO, hV, hC⟩ | ⟨h12, -⟩
            · omega
            · have hmv : ∀ {v : Value} {nm d : String}, va_OF "java/lang/String" nm d v (tr o) (fun q => b0 ≤ q) s H → ∃ (cf : ClassId) (k : Class) (i : Nat) (f : Field) (cell : Cell), s.fieldFound? "java/lang/String" nm d = some (cf, k, i, f) ∧ f.isStatic = false ∧ H[tr o]? = some cell ∧ cell.vm ≠ .unknown ∧ cell.slots[f.slot]? = some v := by
                intro v nm d hh
                obtain ⟨cf, k, i, f, cell, g1, g2, g3, g4, g5, g6⟩ := hh
                exact ⟨cf, k, i, f, cell, g1, g2, g3, g4, g5⟩
              rcases hok with ⟨rfl, hlink⟩ | ⟨rfl, hlink⟩
              · obtain ⟨cf, k, i, f, cell, g1, g2, g3, g4, g5⟩ := hmv (hV v hv)
                exact W.getf hx hb hown (hts _ hlink) g1 g2 g3 g4 g5 rfl rfl hdg kk
              · obtain ⟨cf, k, i, f, cell, g1, g2, g3, g4, g5⟩ := hmv (hC v hv)
                exact W.getf hx hb hown (hts _ hlink) g1 g2 g3 g4 g5 rfl rfl hdg kk
            · omega
          · rcases hcell with ⟨h50, -⟩ | ⟨h60, -⟩ | ⟨-, -, hat⟩
            · omega
            · omega
            · exact va_get (C := q.1) (T := q.2.1) (N := q.2.2) (v := xa_v tr fmt v) hx hb hts (xa_cls hq).1 hown hI.1 (xa_P1 hat) 0 rfl hq fk hfk (hts _ hlink) (fun _ h9 => h9) (by rw [List.getElem?_map, hv]; rfl) hdg kk
        · cases hs
      · cases hs
    · cases hs
  · cases hs
theorem xs_putf {ci fk kd : Nat} (hx : p.tables.exec = Jvm.exec) (hb : c.code = cc) (hown : s.vm.findClass own = some m.cls) (hts : ∀ w ∈ xa_gw, w.before args s = true) (hI : xa_Inv D cI cP tr fmt (fun q => b0 ≤ q) s) (hT : xa_tr tr b0) {q : vw_C} {ty : FieldType} (h12 : ci < 12) (hq : vwCl[ci]? = some q) (hfk : fk < q.2.2) (hlink : Cond.fieldLink own k (q.2.1 fk).1 (q.2.1 fk).2.1 (q.2.1 fk).2.2.1 ∈ xa_gw) (hd : parseFieldDescriptor (q.2.1 fk).2.2.1 = some ty) (hty : ∀ v, xa_kd kd v = true → narrow ty (xa_v tr fmt v) = xa_v tr fmt v ∧ fits ty (xa_v tr fmt v) = true) (hfin : (q.2.1 fk).2.2.2 = true → meth.name = "<init>" ∧ (q.2.1 fk).1 = own)
    (hdg : decode cc pc = .ok (.putfield k, 3)) (hs : xa_putf (pc + 3) ci fk kd ls st h = some (.inl σ)) (kk : xa_WW p l e R s m args below meth c Q D cI cP tr fmt b0 nL n0 s0 σ) : xa_WW p l e R s m args below meth c Q D cI cP tr fmt b0 nL n0 s0 (pc, ls, st, h) := by
  intro rl H locs cells slots hl hR hS hc1 hc2
  unfold xa_putf at hs
  split at hs
  · rename_i v o r
    split at hs
    · rename_i c2 fs ho
      split at hs
      · rename_i hcc
        cases hs
        obtain ⟨rfl, hlen, hkd⟩ := hcc
        obtain ⟨hn, hfit⟩ := hty v hkd
        obtain ⟨hin, hty0, hnm⟩ := xa_cls hq
        have hK := hI.1
        rcases hR.2.2 o _ ho with ⟨h50, -⟩ | ⟨h60, -⟩ | ⟨-, hA, hat⟩
        · omega
        · omega
        · have hap := va_apart (own := own) hts hin (xa_ty q) hty0 hnm hK hq
          obtain ⟨r', h1, cell, q1, q2, q3, q4⟩ := hat
          have hr : q = r' := Option.some.inj (hq.symm.trans h1)
          subst hr
          obtain ⟨hSl, hfc, kC, hkC, hkind⟩ := hK.1 c2 _ hq
          obtain ⟨cf, kf, fi, f, hi, hsl⟩ := hSl fk hfk
          have hst := (u_facts hfc hkC (u_lays hts hin hfk) hi).1
          have hfin2 : ∀ (H' : Heap), H'[tr o]? = some (cell.setSlot f.slot (xa_v tr fmt v)) → H'.size = H.size → (∀ q : Nat, q ≠ tr o → H'[q]? = H[q]?) → W p l e R s m args below meth c H' (locs ++ [⟨tr o, f.slot⟩]) cells slots Q (F0 m (pc + 3) rl (r.map (xa_v tr fmt))) := by
            intro H' e1 e2 e3
            rw [hsl] at e1
            refine kk rl H' _ cells slots hl (hR.set hT hA e2 e3 (Or.inr (Or.inr ⟨h12, hA, _, hq, t_OB.to (V := updV (vp_V (fs.map (xa_v tr fmt))) fk (xa_v tr fmt v)) ⟨_, e1, q2, q3, t_set q4 hap hfk _⟩ (fun j _ => ?_)⟩))) (hS.put e2 e3 hA) (by rw [List.length_set]; exact hc1) (by rw [xa_sl_set ho (by simp [xa_s1])]; exact hc2)
            have := vp_updV_set (fs := fs.map (xa_v tr fmt)) (k := fk) (by rw [List.length_map]; exact hlen) (xa_v tr fmt v) j
            rw [this]
            simp [List.map_set]
          by_cases hfn : (q.2.1 fk).2.2.2 = true
          · obtain ⟨hi1, hi2⟩ := hfin hfn
            have hlay := hts _ (hin _ (u_in_lay hfk))
            unfold u_lay at hlay
            rw [if_pos hfn] at hlay
            have hcf : m.cls = cf := by
              obtain ⟨_, _, c', _, _, _, -, -, hf', -, -, -, hown2, -⟩ := Cond.laysFinal_spec hlay
              have e1 : c' = cf := by have := hi.symm.trans hf'; simp at this; exact this.1.symm
              rw [hi2] at hown2
              rw [← e1]; exact Option.some.inj (hown.symm.trans hown2)
            have h6 := u_fits hfc hkC hkind (Or.inr hlay) hi hd hn hfit
            exact W.putFinK hx hb hown (hts _ hlink) hi hst hcf hi1 (by rw [q2]; exact h6) q1 q3 (by rw [hsl]; exact k2_hasslot (q4 fk hfk)) rfl rfl hdg hfin2
          · have hlay := hts _ (hin _ (u_in_lay hfk))
            unfold u_lay at hlay
            rw [if_neg hfn] at hlay
            have h6 := u_store hfc hkC hkind hlay hi hd hn hfit
            exact W.putK hx hb (f := f) ⟨hown, hts _ hlink, ⟨_, _, _, hi⟩, hst⟩ (by rw [q2]; exact h6) q1 q3 (by rw [hsl]; exact k2_hasslot (q4 fk hfk)) rfl rfl hdg hfin2
      · cases hs
    · cases hs
  · cases hs
theorem xs_iald (hx : p.tables.exec = Jvm.exec) (hb : c.code = cc) (hI : xa_Inv D cI cP tr fmt (fun q => b0 ≤ q) s)
    (hdg : decode cc pc = .ok (.iaload, 1)) (hs : xa_iald (pc + 1) ls st h = some (.inl σ)) (kk : xa_WW p l e R s m args below meth c Q D cI cP tr fmt b0 nL n0 s0 σ) : xa_WW p l e R s m args below meth c Q D cI cP tr fmt b0 nL n0 s0 (pc, ls, st, h) := by
  intro rl H locs cells slots hl hR hS hc1 hc2
  unfold xa_iald at hs
  split at hs
  · rename_i i o r
    split at hs
    · rename_i kd n f ho
      split at hs
      · rename_i hcc
        cases hs
        have kk := kk rl H locs cells slots hl hR hS hc1 hc2
        obtain ⟨hkd, hin⟩ := hcc
        rcases hR.2.2 o _ ho with ⟨-, hA, hat⟩ | ⟨h1, -⟩ | ⟨-, hT⟩
        · have hlt : i.toNatClampNeg < n := Nat.not_le.mp fun q => hin (Or.inr q)
          exact W.iald (v := .int (f i.toNatClampNeg)) hx hb hat ((hI.1.2 0 _ rfl).1 n (fun j => .int (f j))) (fun q => by cases q) (by show ¬ (i < 0 ∨ (arrV _ _ _).slots.size ≤ _); rw [arrV_size]; exact hin) (by show (arrV _ _ _).slots[_]? = _; rw [arrV_read _ _ hlt]) rfl rfl hdg kk
        · omega
        · obtain ⟨cell, h1, h2, h3, h4, h5, h6, h7⟩ := hT
          have hlt : i.toNatClampNeg < n := Nat.not_le.mp fun q => hin (Or.inr q)
          have hin' : ¬ (i < 0 ∨ cell.slots.size ≤ i.toNatClampNeg) := by
            intro q
            rcases q with q | q
            · exact hin (Or.inl q)
            · omega
          exact W.iald (v := .int (f i.toNatClampNeg)) hx hb h1 h2 h3 hin' (by rw [h6 _ hlt]) rfl rfl hdg kk
      · cases hs
    · cases hs
  · cases hs
theorem xs_bald (hx : p.tables.exec = Jvm.exec) (hb : c.code = cc)
    (hdg : decode cc pc = .ok (.baload, 1)) (hs : xa_bald (pc + 1) ls st h = some (.inl σ)) (kk : xa_WW p l e R s m args below meth c Q D cI cP tr fmt b0 nL n0 s0 σ) : xa_WW p l e R s m args below meth c Q D cI cP tr fmt b0 nL n0 s0 (pc, ls, st, h) := by
  intro rl H locs cells slots hl hR hS hc1 hc2
  unfold xa_bald at hs
  split at hs
  · rename_i i o r
    split at hs
    · rename_i kd n f ho
      split at hs
      · rename_i hcc
        cases hs
        have kk := kk rl H locs cells slots hl hR hS hc1 hc2
        obtain ⟨hkd, hin⟩ := hcc
        rcases hR.2.2 o _ ho with ⟨h1, -⟩ | ⟨-, hT⟩ | ⟨h1, -⟩
        · omega
        · obtain ⟨cell, h1, h2, h3, h4, h5, h6, h7⟩ := hT
          have hlt : i.toNatClampNeg < n := Nat.not_le.mp fun q => hin (Or.inr q)
          have hin' : ¬ (i < 0 ∨ cell.slots.size ≤ i.toNatClampNeg) := by
            intro q
            rcases q with q | q
            · exact hin (Or.inl q)
            · omega
          exact W.bald (v := .int (f i.toNatClampNeg)) hx hb h1 h2 h3 hin' (by rw [h6 _ hlt]) rfl rfl hdg kk
        · omega
      · cases hs
    · cases hs
  · cases hs
theorem xs_alen (hx : p.tables.exec = Jvm.exec) (hb : c.code = cc) (hI : xa_Inv D cI cP tr fmt (fun q => b0 ≤ q) s)
    (hdg : decode cc pc = .ok (.arraylength, 1)) (hs : xa_alen (pc + 1) ls st h = some (.inl σ)) (kk : xa_WW p l e R s m args below meth c Q D cI cP tr fmt b0 nL n0 s0 σ) : xa_WW p l e R s m args below meth c Q D cI cP tr fmt b0 nL n0 s0 (pc, ls, st, h) := by
  intro rl H locs cells slots hl hR hS hc1 hc2
  unfold xa_alen at hs
  split at hs
  · rename_i o r
    split at hs
    · rename_i kd n f ho
      cases hs
      have kk := kk rl H locs cells slots hl hR hS hc1 hc2
      rcases hR.2.2 o _ ho with ⟨-, hA, hat⟩ | ⟨h1, hT⟩ | ⟨-, hT⟩
      · exact W.alen (n := nI n) hx hb hat ((hI.1.2 0 _ rfl).1 n (fun j => .int (f j))) (by show (arrV _ _ _).slots.size.toInt32 = _; rw [arrV_size]; rfl) rfl rfl hdg kk
      · obtain ⟨cell, h1, h2, h3, h4, h5, h6, h7⟩ := hT
        exact W.alen (n := nI n) hx hb h1 h2 h5 rfl rfl hdg kk
      · obtain ⟨cell, h1, h2, h3, h4, h5, h6, h7⟩ := hT
        exact W.alen (n := nI n) hx hb h1 h2 h5 rfl rfl hdg kk
    · cases hs
  · cases hs
theorem xs_iast (hx : p.tables.exec = Jvm.exec) (hb : c.code = cc) (hI : xa_Inv D cI cP tr fmt (fun q => b0 ≤ q) s) (hT : xa_tr tr b0)
    (hdg : decode cc pc = .ok (.iastore, 1)) (hs : xa_iast (pc + 1) ls st h = some (.inl σ)) (kk : xa_WW p l e R s m args below meth c Q D cI cP tr fmt b0 nL n0 s0 σ) : xa_WW p l e R s m args below meth c Q D cI cP tr fmt b0 nL n0 s0 (pc, ls, st, h) := by
  intro rl H locs cells slots hl hR hS hc1 hc2
  unfold xa_iast at hs
  split at hs
  · rename_i x i o r
    split at hs
    · rename_i kd n f ho
      split at hs
      · rename_i hcc
        cases hs
        obtain ⟨rfl, hin⟩ := hcc
        rcases hR.2.2 o _ ho with ⟨-, hA, hat⟩ | ⟨h1, -⟩ | ⟨h1, -⟩
        · refine W.iast hx hb hat ((hI.1.2 0 _ rfl).1 n (fun j => .int (f j))) (fun q => by cases q) (by show ¬ (i < 0 ∨ (arrV _ _ _).slots.size ≤ _); rw [arrV_size]; exact hin) rfl rfl hdg fun H1 e1 z oq => ?_
          refine kk rl H1 _ cells slots hl (hR.set hT hA z oq (Or.inl ⟨rfl, hA, ?_⟩)) (hS.put z oq hA) (by rw [List.length_set]; exact hc1) (by rw [xa_sl_set (c' := .inl (0, n, upd f i.toNatClampNeg x)) ho rfl]; exact hc2)
          rw [e1, vp_cell_i, vp_cell_i, arrV_store]
          congr 2
          funext q
          by_cases hq : q = i.toNatClampNeg
          · subst hq
            simp [updV, upd]
          · simp [updV, upd, hq]
        · omega
        · omega
      · cases hs
    · cases hs
  · cases hs
theorem xs_newa (hx : p.tables.exec = Jvm.exec) (hb : c.code = cc) (hts : ∀ w ∈ xa_gw, w.before args s = true) (hI : xa_Inv D cI cP tr fmt (fun q => b0 ≤ q) s) (hT : xa_tr tr b0) (hw : Cond.arrayClass .int ∈ xa_gw)
    (hdg : decode cc pc = .ok (.newarray .int, 2)) (hs : xa_newa (pc + 2) ls st h = some (.inl σ)) (hRc : σ.2.2.2.length ≤ n0 + R.cells) (hRs : xa_sl σ.2.2.2 ≤ s0 + R.slots) (kk : xa_WW p l e R s m args below meth c Q D cI cP tr fmt b0 nL n0 s0 σ) : xa_WW p l e R s m args below meth c Q D cI cP tr fmt b0 nL n0 s0 (pc, ls, st, h) := by
  intro rl H locs cells slots hl hR hS hc1 hc2
  unfold xa_newa at hs
  split at hs
  · rename_i n r
    split at hs
    · rename_i hcc
      cases hs
      dsimp only at hRc hRs hc1 hc2
      rw [List.length_append, List.length_singleton] at hRc
      rw [xa_sl_app] at hRs
      have hs1 : xa_s1 (.inl (0, n.toNatClampNeg, fun _ => 0)) = n.toNatClampNeg := rfl
      rw [hs1] at hRs
      refine va_newaK (atype := .int) hx hb (hts _ hw) rfl hdg rfl hcc.1 rfl (by show _ * 4 ≤ _; have := hcc.2; omega) (by omega) (by omega) rfl fun H1 cA e1 z1 o1 hAr hNm => ?_
      have hcA : cA = cI := by
        have h2 : s.vm.findClass ("[" ++ FieldType.int.toString) = some cI := (hI.1.2 0 _ rfl).2
        exact Option.some.inj (hNm.symm.trans h2)
      subst hcA
      have hb1 : b0 ≤ tr h.length := hR.top hT
      have e2 : H1[tr h.length]? = some (vp_cell cA (n.toNatClampNeg, .inl fun _ => 0)) := by rw [← hR.1]; exact e1
      have key := kk rl H1 locs (cells + 1) (slots + n.toNatClampNeg) hl (hR.push hT z1 o1 (Or.inl ⟨rfl, hb1, e2⟩)) ⟨Nat.le_trans hS.1 (by omega), fun x h1 h2 => (o1 x (Nat.lt_of_lt_of_le h1 hS.1)).trans (hS.2.1 x h1 h2), hS.2.2⟩ (by rw [List.length_append, List.length_singleton]; omega) (by rw [xa_sl_app, hs1]; omega)
      rw [hR.1]
      exact key
    · cases hs
  · cases hs
theorem xs_new {ci : Nat} {q : vw_C} (hx : p.tables.exec = Jvm.exec) (hb : c.code = cc) (hown : s.vm.findClass own = some m.cls) (hts : ∀ w ∈ xa_gw, w.before args s = true) (hI : xa_Inv D cI cP tr fmt (fun q => b0 ≤ q) s) (hT : xa_tr tr b0) (h12 : ci < 12) (hq : vwCl[ci]? = some q) (hw1 : Cond.classLink own k q.1 ∈ xa_gw) (hw2 : Cond.instantiable q.1 q.2.2 ∈ xa_gw) (hw3 : Cond.initialized q.1 ∈ xa_gw) (hdl : (xa_df ci).length = q.2.2) (hdf : ∀ j, j < q.2.2 → defaultValue (xa_ty q j) = vp_V ((xa_df ci).map (xa_v tr fmt)) j)
    (hdg : decode cc pc = .ok (.new k, 3)) (hs : xa_new (pc + 3) ci ls st h = some (.inl σ)) (hRc : σ.2.2.2.length ≤ n0 + R.cells) (hRs : xa_sl σ.2.2.2 ≤ s0 + R.slots) (kk : xa_WW p l e R s m args below meth c Q D cI cP tr fmt b0 nL n0 s0 σ) : xa_WW p l e R s m args below meth c Q D cI cP tr fmt b0 nL n0 s0 (pc, ls, st, h) := by
  intro rl H locs cells slots hl hR hS hc1 hc2
  unfold xa_new at hs
  cases hs
  dsimp only at hRc hRs hc1 hc2
  rw [List.length_append, List.length_singleton] at hRc
  rw [xa_sl_app] at hRs
  have hs1 : xa_s1 (.inr (ci, xa_df ci)) = q.2.2 := hdl
  rw [hs1] at hRs
  have hKn := hI.1.1 ci _ hq
  refine W.newcK hx hb hown (hts _ hw1) (hts _ hw2) (hts _ hw3) rfl hdg (by omega) (by omega) hKn.2.1 rfl fun H1 kC hkC e1 z1 o1 => ?_
  have hb1 : b0 ≤ tr h.length := hR.top hT
  have hat : va_at D vwCl (tr h.length, .inr (ci, (xa_df ci).map (xa_v tr fmt))) H1 := by
    rw [← hR.1]
    exact ⟨_, hq, (u_born (xa_ty q) hts (xa_cls hq).1 hKn hkC e1 (xa_cls hq).2.1).to hdf⟩
  have key := kk rl H1 locs (cells + 1) (slots + q.2.2) hl (hR.push hT z1 o1 (Or.inr (Or.inr ⟨h12, hb1, hat⟩))) ⟨Nat.le_trans hS.1 (by omega), fun x h1 h2 => (o1 x (Nat.lt_of_lt_of_le h1 hS.1)).trans (hS.2.1 x h1 h2), hS.2.2⟩ (by rw [List.length_append, List.length_singleton]; omega) (by rw [xa_sl_app, hs1]; omega)
  rw [hR.1]
  exact key
end XA4
end
section
/-! ===== the array of plans, copies, statics, constants, switches ===== -/
theorem xa_rf_null (tr : Nat → Nat) (n : Nat) : xa_rf tr (List.replicate n .null) = fun _ => none := by
  funext j
  unfold xa_rf
  by_cases h : j < n
  · rw [List.getElem?_replicate_of_lt h]
  · rw [List.getElem?_eq_none (by simpa using h)]
section XA5
variable {p : Program} {l : Launch} {e : Env} {R : Room} {s : State} {m : MethodId} {args : Array Value} {below : List Frame} {meth : Method} {c : Code} {Q : State → Prop} {D : va_G} {cI cP : ClassId} {tr : Nat → Nat} {fmt : Value} {b0 nL n0 s0 : Nat} {cc : ByteArray} {own : String} {pc k : Nat} {ls st : List Value} {h : xa_H} {σ : xa_S}
theorem xs_newq (hx : p.tables.exec = Jvm.exec) (hb : c.code = cc) (hown : s.vm.findClass own = some m.cls) (hts : ∀ w ∈ xa_gw, w.before args s = true) (hI : xa_Inv D cI cP tr fmt (fun q => b0 ≤ q) s) (hT : xa_tr tr b0) (hw : Cond.classLink own k "MayMust$Plan" ∈ xa_gw)
    (hdg : decode cc pc = .ok (.anewarray k, 3)) (hs : xa_newq (pc + 3) ls st h = some (.inl σ)) (hRc : σ.2.2.2.length ≤ n0 + R.cells) (hRs : xa_sl σ.2.2.2 ≤ s0 + R.slots) (kk : xa_WW p l e R s m args below meth c Q D cI cP tr fmt b0 nL n0 s0 σ) : xa_WW p l e R s m args below meth c Q D cI cP tr fmt b0 nL n0 s0 (pc, ls, st, h) := by
  intro rl H locs cells slots hl hR hS hc1 hc2
  unfold xa_newq at hs
  split at hs
  · rename_i n r
    split at hs
    · rename_i hcc
      cases hs
      dsimp only at hRc hRs hc1 hc2
      rw [List.length_append, List.length_singleton] at hRc
      rw [xa_sl_app] at hRs
      have hs1 : xa_s1 (.inr (50, List.replicate n.toNatClampNeg .null)) = n.toNatClampNeg := List.length_replicate
      rw [hs1] at hRs
      refine W.anew hx hb hown (hts _ hw) (va_AO.use hI.2.2.1) rfl hdg rfl hcc.1 (by have := hcc.2; omega) (by omega) (by omega) fun cA kA comp f1 f2 f3 f4 => ?_
      have hcA : cA = cP := by
        obtain ⟨_, _, -, -, -, h2⟩ := (hI.1.2 1 _ rfl).2
        exact Option.some.inj (f1.symm.trans h2)
      subst hcA
      generalize hH1 : H.push ({ cls := cA, slots := Array.replicate n.toNatClampNeg .null, vm := .none } : Cell) = H1
      have z1 : H1.size = H.size + 1 := by rw [← hH1, Array.size_push]
      have e1 : H1[H.size]? = some (arrV cA n.toNatClampNeg (fun _ => .null)) := by rw [← hH1, Array.getElem?_push_size, ← arrV_new]
      have o1 : ∀ q : Nat, q < H.size → H1[q]? = H[q]? := fun q hq => by rw [← hH1, Array.getElem?_push, if_neg (Nat.ne_of_lt hq)]
      have hb1 : b0 ≤ tr h.length := hR.top hT
      have e2 : H1[tr h.length]? = some (vp_cell cA ((List.replicate n.toNatClampNeg Value.null).length, .inr (.inr (.inr (.inr (xa_rf tr (List.replicate n.toNatClampNeg .null))))))) := by
        rw [← hR.1, xa_rf_null, List.length_replicate]; exact e1
      have key := kk rl H1 locs (cells + 1) (slots + n.toNatClampNeg) hl (hR.push hT z1 o1 (Or.inl ⟨rfl, hb1, e2⟩)) ⟨Nat.le_trans hS.1 (by omega), fun x h1 h2 => (o1 x (Nat.lt_of_lt_of_le h1 hS.1)).trans (hS.2.1 x h1 h2), hS.2.2⟩ (by rw [List.length_append, List.length_singleton]; omega) (by rw [xa_sl_app, hs1]; omega)
      rw [hR.1]
      exact key
    · cases hs
  · cases hs
theorem xs_aald (hx : p.tables.exec = Jvm.exec) (hb : c.code = cc) (hI : xa_Inv D cI cP tr fmt (fun q => b0 ≤ q) s)
    (hdg : decode cc pc = .ok (.aaload, 1)) (hs : xa_aald (pc + 1) ls st h = some (.inl σ)) (kk : xa_WW p l e R s m args below meth c Q D cI cP tr fmt b0 nL n0 s0 σ) : xa_WW p l e R s m args below meth c Q D cI cP tr fmt b0 nL n0 s0 (pc, ls, st, h) := by
  intro rl H locs cells slots hl hR hS hc1 hc2
  unfold xa_aald at hs
  split at hs
  · rename_i i o r
    split at hs
    · rename_i c2 fs ho
      split at hs
      · rename_i hcc
        split at hs
        · rename_i q hq
          cases hs
          have kk := kk rl H locs cells slots hl hR hS hc1 hc2
          obtain ⟨rfl, h0⟩ := hcc
          rcases hR.2.2 o _ ho with ⟨-, hA, hat⟩ | ⟨h1, -⟩ | ⟨h1, -⟩
          · have hlt : i.toNatClampNeg < fs.length := (List.getElem?_eq_some_iff.mp hq).1
            refine W.aald (v := .ref (tr q)) (ty := .object "MayMust$Plan") hx hb hat ((hI.1.2 1 _ rfl).1 fs.length (fun j => va_rf (xa_rf tr fs j))) rfl (fun q => by cases q) (by show ¬ (i < 0 ∨ (arrV _ _ _).slots.size ≤ _); rw [arrV_size]; rintro (q1 | q1); exact h0 q1; omega) (by show (arrV _ _ _).slots[_]? = _; rw [arrV_read _ _ hlt]; simp [xa_rf, hq, va_rf]) rfl rfl hdg kk
          · omega
          · omega
        · cases hs
      · cases hs
    · cases hs
  · cases hs
theorem xs_aast (hx : p.tables.exec = Jvm.exec) (hb : c.code = cc) (hI : xa_Inv D cI cP tr fmt (fun q => b0 ≤ q) s) (hT : xa_tr tr b0)
    (hdg : decode cc pc = .ok (.aastore, 1)) (hs : xa_aast (pc + 1) ls st h = some (.inl σ)) (kk : xa_WW p l e R s m args below meth c Q D cI cP tr fmt b0 nL n0 s0 σ) : xa_WW p l e R s m args below meth c Q D cI cP tr fmt b0 nL n0 s0 (pc, ls, st, h) := by
  intro rl H locs cells slots hl hR hS hc1 hc2
  unfold xa_aast at hs
  split at hs
  · rename_i v i o r
    split at hs
    · rename_i c2 fs c3 fs3 ho hv
      split at hs
      · rename_i hcc
        cases hs
        obtain ⟨⟨rfl, rfl⟩, h0, hlt⟩ := hcc
        rcases hR.2.2 o _ ho with ⟨-, hA, hat⟩ | ⟨h1, -⟩ | ⟨h1, -⟩
        · rcases hR.2.2 v _ hv with ⟨h1, -⟩ | ⟨h1, -⟩ | ⟨-, hAv, hav⟩
          · omega
          · omega
          · have hcl : vwCl[2]? = some (RX2, TX2, 3) := rfl
            obtain ⟨r', hr', cellV, g1, g2, g3, -⟩ := hav
            have hcls := (hI.1.1 2 _ hcl).2
            obtain ⟨kA, comp, k1, k2, k3, -⟩ := (hI.1.2 1 _ rfl).2
            have hcomp : comp = D.1 2 := Option.some.inj (k3.symm.trans hcls.1)
            subst hcomp
            obtain ⟨kC, hkC, -⟩ := id hcls.2
            refine W.aast hx hb hat (fun q h => by cases h) (fun h => by cases h) k1 k2 rfl hkC ⟨h0, by show _ < (arrV _ _ _).slots.size; rw [arrV_size]; exact hlt⟩ g1 (fun q h => by rw [g3] at h; cases h) (by rw [g2]; exact hkC) (by rw [g2]; exact va_assign hcls) rfl rfl hdg fun H1 e1 z oq => ?_
            refine kk rl H1 _ cells slots hl (hR.set hT hA z oq (Or.inl ⟨rfl, hA, ?_⟩)) (hS.put z oq hA) (by rw [List.length_set]; exact hc1) (by rw [xa_sl_set (c' := .inr (50, fs.set i.toNatClampNeg (.ref v))) ho (by simp [xa_s1])]; exact hc2)
            rw [e1, vp_cell_q, vp_cell_q, arrV_store, List.length_set]
            congr 2
            funext q
            by_cases hq : q = i.toNatClampNeg
            · subst hq
              simp [updV, xa_rf, va_rf, hlt]
            · simp [updV, xa_rf, hq, List.getElem?_set_ne (fun e => hq e.symm)]
        · omega
        · omega
      · cases hs
    · cases hs
  · cases hs
theorem xs_gets {which : Nat} (hx : p.tables.exec = Jvm.exec) (hb : c.code = cc) (hown : s.vm.findClass own = some m.cls) (hts : ∀ w ∈ xa_gw, w.before args s = true) (hI : xa_Inv D cI cP tr fmt (fun q => b0 ≤ q) s)
    (hw0 : which = 0 → Cond.fieldLink own k "java/lang/String" "COMPACT_STRINGS" "Z" ∈ xa_gw) (hw1 : which ≠ 0 → Cond.fieldLink own k "jdk/internal/util/Preconditions" "SIOOBE_FORMATTER" "Ljava/util/function/BiFunction;" ∈ xa_gw)
    (hdg : decode cc pc = .ok (.getstatic k, 3)) (hs : xa_gets (pc + 3) which ls st h = some (.inl σ)) (kk : xa_WW p l e R s m args below meth c Q D cI cP tr fmt b0 nL n0 s0 σ) : xa_WW p l e R s m args below meth c Q D cI cP tr fmt b0 nL n0 s0 (pc, ls, st, h) := by
  intro rl H locs cells slots hl hR hS hc1 hc2
  unfold xa_gets at hs
  split at hs
  · cases hs
    exact va_gets hx hb hI.2.2.2.1 hS hown (hts _ (hw0 rfl)) (fun _ h9 => h9) hdg (kk rl H locs cells slots hl hR hS hc1 hc2)
  · rename_i hne
    cases hs
    exact va_gets hx hb hI.2.2.2.2.1 hS hown (hts _ (hw1 hne)) (fun _ h9 => h9) hdg (kk rl H locs cells slots hl hR hS hc1 hc2)
theorem xs_ldc {which : Nat} {cv : Int32} (hx : p.tables.exec = Jvm.exec) (hb : c.code = cc) (hown : s.vm.findClass own = some m.cls) (hts : ∀ w ∈ xa_gw, w.before args s = true) (hI : xa_Inv D cI cP tr fmt (fun q => b0 ≤ q) s)
    (hw0 : which = 0 → Cond.constant own k cv ∈ xa_gw) (hw1 : ∀ j, which = j + 1 → own = "MayMust$Tokens" ∧ ∃ tx, (k, tx, j + 1) ∈ xa_strs)
    (hdg : decode cc pc = .ok (.ldc k, 2)) (hs : xa_ldc (pc + 2) which cv ls st h = some (.inl σ)) (kk : xa_WW p l e R s m args below meth c Q D cI cP tr fmt b0 nL n0 s0 σ) : xa_WW p l e R s m args below meth c Q D cI cP tr fmt b0 nL n0 s0 (pc, ls, st, h) := by
  intro rl H locs cells slots hl hR hS hc1 hc2
  unfold xa_ldc at hs
  split at hs
  · cases hs
    exact lv_ldc hx hb hown (hts _ (hw0 rfl)) hdg (kk rl H locs cells slots hl hR hS hc1 hc2)
  · rename_i j
    cases hs
    obtain ⟨rfl, tx, hm⟩ := hw1 j rfl
    exact va_ldcS hx hb hown (hI.2.2.2.2.2 _ hm) hdg (kk rl H locs cells slots hl hR hS hc1 hc2)
theorem xs_sum (hf : fmt.category = 1) {r : List Value} (hr : xa_room r = true) : ((r.map (xa_v tr fmt)).map fun v => v.category).sum ≤ 8 := by
  rw [xa_cats hf]
  exact Nat.le_of_ble_eq_true hr
theorem xs_oinit (hx : p.tables.exec = Jvm.exec) (hb : c.code = cc) (hml : c.maxLocals = nL) (hf : fmt.category = 1) (hown : s.vm.findClass own = some m.cls) (hts : ∀ w ∈ xa_gw, w.before args s = true) (hw1 : Cond.methodLink own k objectInit ∈ xa_gw) (hw2 : Cond.instanceMethod objectInit ∈ xa_gw) (hw3 : Cond.code objectInit ⟨#[0xb1]⟩ 1 none ∈ xa_gw) (hRf : 1 ≤ R.frames) (hRl : 64 ≤ R.locals)
    (hdg : decode cc pc = .ok (.invokespecial k, 3)) (hs : xa_oinit (pc + 3) ls st h = some (.inl σ)) (kk : xa_WW p l e R s m args below meth c Q D cI cP tr fmt b0 nL n0 s0 σ) : xa_WW p l e R s m args below meth c Q D cI cP tr fmt b0 nL n0 s0 (pc, ls, st, h) := by
  intro rl H locs cells slots hl hR hS hc1 hc2
  unfold xa_oinit at hs
  split at hs
  · rename_i o r
    split at hs
    · rename_i hr
      cases hs
      have kk := kk rl H locs cells slots hl hR hS hc1 hc2
      have h8 := xs_sum (tr := tr) hf hr
      exact W.objInit hx hb hown (hts _ hw1) (hts _ hw2) (hts _ hw3) rfl (hl.2.1.trans hml.symm) rfl hdg hRf (by show 2 * 0 + _ + 12 ≤ _; omega) kk
    · cases hs
  · cases hs
theorem xs_max (hx : p.tables.exec = Jvm.exec) (hb : c.code = cc) (hml : c.maxLocals = nL) (hf : fmt.category = 1) (hown : s.vm.findClass own = some m.cls) (hts : ∀ w ∈ xa_gw, w.before args s = true) (hw1 : Cond.methodLink own k Lib.Math.max.name ∈ xa_gw) (hw2 : Cond.static Lib.Math.max.name ∈ xa_gw) (hw3 : Cond.initialized "java/lang/Math" ∈ xa_gw) (hw4 : Cond.code Lib.Math.max.name Lib.Math.max.code 2 (some .int) ∈ xa_gw) (hRf : 1 ≤ R.frames) (hRl : 64 ≤ R.locals) (hRc : h.length ≤ n0 + R.cells) (hRs : xa_sl h ≤ s0 + R.slots)
    (hdg : decode cc pc = .ok (.invokestatic k, 3)) (hs : xa_max (pc + 3) ls st h = some (.inl σ)) (kk : xa_WW p l e R s m args below meth c Q D cI cP tr fmt b0 nL n0 s0 σ) : xa_WW p l e R s m args below meth c Q D cI cP tr fmt b0 nL n0 s0 (pc, ls, st, h) := by
  intro rl H locs cells slots hl hR hS hc1 hc2
  unfold xa_max at hs
  split at hs
  · rename_i y x r
    split at hs
    · rename_i hr
      cases hs
      have h8 := xs_sum (tr := tr) hf hr
      dsimp only at hc1 hc2
      exact va_mmax hx hb (hml.trans hl.2.1.symm) hown (hts _ hw1) (hts _ hw2) (hts _ hw3) (hts _ hw4) hRf (by omega) (by omega) (by omega) hdg (kk rl H locs cells slots hl hR hS hc1 hc2)
    · cases hs
  · cases hs
theorem xs_min (hx : p.tables.exec = Jvm.exec) (hb : c.code = cc) (hml : c.maxLocals = nL) (hf : fmt.category = 1) (hown : s.vm.findClass own = some m.cls) (hts : ∀ w ∈ xa_gw, w.before args s = true) (hw1 : Cond.methodLink own k Lib.Math.min.name ∈ xa_gw) (hw2 : Cond.static Lib.Math.min.name ∈ xa_gw) (hw3 : Cond.initialized "java/lang/Math" ∈ xa_gw) (hw4 : Cond.code Lib.Math.min.name Lib.Math.min.code 2 (some .int) ∈ xa_gw) (hRf : 1 ≤ R.frames) (hRl : 64 ≤ R.locals) (hRc : h.length ≤ n0 + R.cells) (hRs : xa_sl h ≤ s0 + R.slots)
    (hdg : decode cc pc = .ok (.invokestatic k, 3)) (hs : xa_min (pc + 3) ls st h = some (.inl σ)) (kk : xa_WW p l e R s m args below meth c Q D cI cP tr fmt b0 nL n0 s0 σ) : xa_WW p l e R s m args below meth c Q D cI cP tr fmt b0 nL n0 s0 (pc, ls, st, h) := by
  intro rl H locs cells slots hl hR hS hc1 hc2
  unfold xa_min at hs
  split at hs
  · rename_i y x r
    split at hs
    · rename_i hr
      cases hs
      have h8 := xs_sum (tr := tr) hf hr
      dsimp only at hc1 hc2
      exact va_mmin hx hb (hml.trans hl.2.1.symm) hown (hts _ hw1) (hts _ hw2) (hts _ hw3) (hts _ hw4) hRf (by omega) (by omega) (by omega) hdg (kk rl H locs cells slots hl hR hS hc1 hc2)
    · cases hs
  · cases hs
theorem xs_copy (hx : p.tables.exec = Jvm.exec) (hb : c.code = cc) (hml : c.maxLocals = nL) (hf : fmt.category = 1) (hown : s.vm.findClass own = some m.cls) (hts : ∀ w ∈ xa_gw, w.before args s = true) (hI : xa_Inv D cI cP tr fmt (fun q => b0 ≤ q) s) (hT : xa_tr tr b0) (hw1 : Cond.methodLink own k arraycopyName ∈ xa_gw) (hw2 : Cond.native arraycopyName ∈ xa_gw) (hw3 : Cond.static arraycopyName ∈ xa_gw) (hw4 : Cond.initialized "java/lang/System" ∈ xa_gw) (hRf : 1 ≤ R.frames) (hRl : 64 ≤ R.locals)
    (hdg : decode cc pc = .ok (.invokestatic k, 3)) (hs : xa_copy (pc + 3) ls st h = some (.inl σ)) (kk : xa_WW p l e R s m args below meth c Q D cI cP tr fmt b0 nL n0 s0 σ) : xa_WW p l e R s m args below meth c Q D cI cP tr fmt b0 nL n0 s0 (pc, ls, st, h) := by
  have nn : ∀ z : Int32, ¬ z < 0 → z.toInt = (z.toNatClampNeg : Int) := by
    intro z hz
    have hz0 : (0 : Int) ≤ z.toInt := by
      have := Int32.not_lt.mp hz
      simpa using Int32.le_iff_toInt_le.mp this
    show z.toInt = ((z.toInt.toNat : Nat) : Int)
    omega
  intro rl H locs cells slots hl hR hS hc1 hc2
  unfold xa_copy at hs
  split at hs
  · rename_i n dp a sp b r
    split at hs
    · rename_i k0 m0 f k1 m1 g hb0 ha0
      split at hs
      · rename_i hcc
        cases hs
        obtain ⟨⟨rfl, rfl⟩, ⟨h1, h2, h3⟩, h4, h5, hr⟩ := hcc
        have h8 := xs_sum (tr := tr) hf hr
        rcases hR.2.2 b _ hb0 with ⟨-, hAb, hcb⟩ | ⟨q, -⟩ | ⟨q, -⟩
        · rcases hR.2.2 a _ ha0 with ⟨-, hAa, hca⟩ | ⟨q, -⟩ | ⟨q, -⟩
          · intro T hTT X
            obtain ⟨-, k0, hk0, cm0, hkk0⟩ := (hI.1.2 0 _ rfl).1 m0 (fun j => .int (f j))
            obtain ⟨-, k1, hk1, cm1, hkk1⟩ := (hI.1.2 0 _ rfl).1 m1 (fun j => .int (g j))
            obtain ⟨vm', X', step⟩ := X.arraycopy hx hown (hts _ hw1) (hts _ hw2) (hts _ hw3) (hts _ hw4) (src := tr b) (dst := tr a) (cs := vp_cell cI (m0, .inl f)) (cd := vp_cell cI (m1, .inl g)) (srcPos := sp) (destPos := dp) (n := n) (by rw [hTT]; exact hcb) (by rw [hTT]; exact hca)
              (fun _ h => by cases h) (fun _ h => by cases h) (fun h => by cases h) (fun h => by cases h) hk0 hk1 hkk0 hkk1 (by simp [refKind]) h1 h2 h3
              (by rw [nn sp h1, nn n h3]; show ¬ _ > ((arrV cI m0 (fun j => .int (f j))).slots.size : Int); rw [arrV_size]; omega)
              (by rw [nn dp h2, nn n h3]; show ¬ _ > ((arrV cI m1 (fun j => .int (g j))).slots.size : Int); rw [arrV_size]; omega)
              (fun vm₁ _ i hi => by
                have e9 : (vp_cell cI (m0, .inl f)).slots.getD (sp.toNatClampNeg + i) .null = .int (f (sp.toNatClampNeg + i)) := by
                  show (arrV cI m0 (fun j => .int (f j))).slots.getD _ _ = _
                  rw [Array.getD_eq_getD_getElem?, arrV_read _ _ (by omega)]
                  rfl
                refine ⟨?_, ?_⟩
                · rw [e9]
                  rfl
                · rw [e9]
                  exact trivial)
              (g := F0 m pc rl ((Value.int n :: Value.int dp :: Value.ref a :: Value.int sp :: Value.ref b :: r).map (xa_v tr fmt))) rfl (by rw [hml]; exact hl.2.1) (rest := r.map (xa_v tr fmt)) rfl (by rw [hb]; exact hdg) hRf (by show 2 * 0 + _ + _ ≤ _; have h7 : nativeFrameWords "java/lang/System" "arraycopy" 5 = 7 := (by decide +kernel); omega)
            have e1 : copied (vp_cell cI (m0, .inl f)) (vp_cell cI (m1, .inl g)) sp dp n = vp_cell cI (m1, .inl (va_cpy f g sp.toNatClampNeg dp.toNatClampNeg n.toNatClampNeg)) := va_copied (fun z => .int z) cI cI f g h4
            rw [e1] at X' step
            have hla : tr a < H.size := (Array.getElem?_eq_some_iff.mp hca).1
            have hheap : ((T.setVm vm').setCell (tr a) (vp_cell cI (m1, .inl (va_cpy f g sp.toNatClampNeg dp.toNatClampNeg n.toNatClampNeg)))).heap = H.setIfInBounds (tr a) (vp_cell cI (m1, .inl (va_cpy f g sp.toNatClampNeg dp.toNatClampNeg n.toNatClampNeg))) := by rw [← hTT]; rfl
            have oq : ∀ q : Nat, q ≠ tr a → (H.setIfInBounds (tr a) (vp_cell cI (m1, .inl (va_cpy f g sp.toNatClampNeg dp.toNatClampNeg n.toNatClampNeg))))[q]? = H[q]? := fun q hq => by simp [Array.getElem?_setIfInBounds, Ne.symm hq]
            have zq : (H.setIfInBounds (tr a) (vp_cell cI (m1, .inl (va_cpy f g sp.toNatClampNeg dp.toNatClampNeg n.toNatClampNeg)))).size = H.size := by simp
            obtain ⟨t, a1, b1⟩ := kk rl _ _ cells slots hl (hR.set hT hAa zq oq (Or.inl ⟨rfl, hAa, show (H.setIfInBounds (tr a) _)[tr a]? = some _ by simp [Array.getElem?_setIfInBounds, hla]⟩)) ⟨by rw [zq]; exact hS.1, fun q g1 g2 => by
                rw [oq q (fun e => g2 (by rw [e]; exact hAa))]
                exact hS.2.1 q g1 g2, fun q hq => by
                rcases List.mem_append.mp hq with h | h
                · exact hS.2.2 q h
                · obtain ⟨z, -, hz⟩ := List.mem_map.mp h
                  rw [← hz]
                  exact hAa⟩ (by rw [List.length_set]; exact hc1) (by rw [xa_sl_set (c' := .inl (0, m1, va_cpy f g sp.toNatClampNeg dp.toNatClampNeg n.toNatClampNeg)) ha0 rfl]; exact hc2) _ hheap X'
            exact ⟨t, step t a1, b1⟩
          · omega
          · omega
        · omega
        · omega
      · cases hs
    · cases hs
  · cases hs
theorem xs_sw {a : List Nat} {d lo hi : Int} {offs : Array Int} {len : Nat} (hx : p.tables.exec = Jvm.exec) (hb : c.code = cc) (h1 : lo = 0) (h2 : hi = (a.length : Int) - 2) (h3 : (pc : Int) + d = ((a.getD 0 0 : Nat) : Int)) (h4 : ∀ j, j < a.length - 1 → ∃ off, offs[j]? = some off ∧ (pc : Int) + off = ((a.getD (j + 1) 0 : Nat) : Int))
    (hdg : decode cc pc = .ok (.tableswitch d lo hi offs, len)) (hs : xa_sw a ls st h = some (.inl σ)) (kk : xa_WW p l e R s m args below meth c Q D cI cP tr fmt b0 nL n0 s0 σ) : xa_WW p l e R s m args below meth c Q D cI cP tr fmt b0 nL n0 s0 (pc, ls, st, h) := by
  intro rl H locs cells slots hl hR hS hc1 hc2
  unfold xa_sw at hs
  split at hs
  · rename_i x r
    split at hs
    · rename_i hc
      cases hs
      exact lv_tableOut hx hb hdg (by rw [h1, h2]; exact hc) h3 (kk rl H locs cells slots hl hR hS hc1 hc2)
    · rename_i hc
      cases hs
      have hc' : ¬ x.toInt < 0 ∧ ¬ (a.length : Int) - 2 < x.toInt := ⟨fun q => hc (Or.inl q), fun q => hc (Or.inr q)⟩
      obtain ⟨off, ho, ht⟩ := h4 x.toInt.toNat (by omega)
      exact lv_tableIn hx hb hdg (by rw [h1]; exact hc'.1) (by rw [h2]; exact hc'.2) (by rw [h1, Int.sub_zero]; exact ho) ht (kk rl H locs cells slots hl hR hS hc1 hc2)
  · cases hs
end XA5
end
section
/-! ===== calls ===== -/
def xa_Pc (D : va_G) (cI cP : ClassId) (tr : Nat → Nat) (fmt : Value) (b0 : Nat) (as : List Value) (h : xa_H) : Array Value → State → Prop := fun v U => v = (as.map (xa_v tr fmt)).toArray ∧ xa_HR D cI cP tr fmt (fun q => b0 ≤ q) U h U.heap ∧ xa_Inv D cI cP tr fmt (fun q => b0 ≤ q) U
def xa_Qc (D : va_G) (cI cP : ClassId) (tr : Nat → Nat) (fmt : Value) (b0 : Nat) (r : Option Value) (h : xa_H) : Array Value → State → Outcome → State → Prop := fun _ st oc t => oc = .returned (r.map (xa_v tr fmt)) ∧ xa_HR D cI cP tr fmt (fun q => b0 ≤ q) t h t.heap ∧ va_F (fun q => b0 ≤ q) st t
def xa_rm (d mc ms : Nat) : Room := { frames := d, cells := mc, slots := ms, locals := 64 * d }
/-- what a call of the small machine gives on the machine -/
def xa_Met (l : Launch) (D : va_G) (cI cP : ClassId) (tr : Nat → Nat) (fmt : Value) (b0 d : Nat) (M : xa_M) (as : List Value) (h : xa_H) (r : Option Value) (h' : xa_H) : Prop :=
  Met l M.1 (.code M.1 M.2.1 M.2.2.1 M.2.2.2.1 :: xa_gw) (xa_rm d (h'.length - h.length) (xa_sl h' - xa_sl h)) (xa_Pc D cI cP tr fmt b0 as h) (xa_Qc D cI cP tr fmt b0 r h') (h'.length - h.length) (xa_sl h' - xa_sl h) (fun q => b0 ≤ q)
theorem xa_split {α : Type} {st : List α} {n : Nat} {v : α} (h : st[n]? = some v) : st = st.take n ++ v :: st.drop (n + 1) := by
  induction st generalizing n with
  | nil => simp at h
  | cons a as ih =>
    cases n with
    | zero => simp at h; subst h; simp
    | succ n =>
      simp at h
      simp
      exact ih h
theorem xa_take1 {α : Type} {st : List α} {n : Nat} {v : α} (h : st[n]? = some v) : (st.take (n + 1)).reverse = v :: (st.take n).reverse := by
  rw [List.take_add_one, h]
  simp
section XA6
variable {p : Program} {l : Launch} {e : Env} {R : Room} {s : State} {m : MethodId} {args : Array Value} {below : List Frame} {meth : Method} {c : Code} {Q : State → Prop} {D : va_G} {cI cP : ClassId} {tr : Nat → Nat} {fmt : Value} {b0 nL n0 s0 : Nat} {cc : ByteArray} {own : String} {pc k : Nat} {ls st : List Value} {h : xa_H} {σ : xa_S}
theorem xa_blind {as : List Value} : FrameBlind (xa_Pc D cI cP tr fmt b0 as h) := by
  intro a U g mk hP
  obtain ⟨h1, h2, h3⟩ := hP
  exact ⟨h1, xa_HR.moved (u := U) (U := U.calling g mk a) (Vm.Alike.refl U.vm) h2, xa_Inv.same (s := U) (U := U.calling g mk a) rfl rfl h3⟩
theorem xa_pre {as : List Value} {H : Heap} {locs : List Loc} (hI : xa_Inv D cI cP tr fmt (fun q => b0 ≤ q) s) (hR : xa_HR D cI cP tr fmt (fun q => b0 ≤ q) s h H) (hS : va_S (fun q => b0 ≤ q) s.heap H locs) {U : State} (hU : U.heap = H) (hW : s.WarmedH U.vm) : xa_Pc D cI cP tr fmt b0 as h (as.map (xa_v tr fmt)).toArray U :=
  ⟨rfl, by rw [hU]; exact hR.moved hW.alike, hI.to hW (fun a ha hna => by rw [hU]; exact hS.2.1 a ha hna)⟩
theorem xa_after {r : Option Value} {h' : xa_H} {rl : Array Slot} {H : Heap} {locs : List Loc} {cells slots mc ms : Nat} {st0 : List Value} {as : Array Value} (hl : xa_L tr fmt nL ls rl) (hS : va_S (fun q => b0 ≤ q) s.heap H locs) (hc1 : n0 + (cells + mc) = h'.length) (hc2 : s0 + (slots + ms) = xa_sl h')
    (hr : va_Run p l e R s m args below meth c H locs cells slots mc ms (F0 m pc rl st0) (st.map (xa_v tr fmt)) (xa_Qc D cI cP tr fmt b0 r h' as) (fun q => b0 ≤ q))
    (kk : xa_WW p l e R s m args below meth c Q D cI cP tr fmt b0 nL n0 s0 (pc + 3, ls, r.toList ++ st, h')) : W p l e R s m args below meth c H locs cells slots Q (F0 m pc rl st0) := by
  intro T hT X
  obtain ⟨v, st₀, t, T', L, h0, X', hL, e1, e2, ⟨hv, hHR, hF⟩, go⟩ := hr T hT X
  have hv' : v = r.map (xa_v tr fmt) := Outcome.returned.inj hv
  subst hv'
  have hal : t.vm.Alike s.vm := by rw [← e2]; exact X'.warmed.alike.symm
  have hS' : va_S (fun q => b0 ≤ q) s.heap T'.heap (locs ++ L) := by
    rw [e1]
    obtain ⟨f1, f2⟩ := hF
    rw [h0] at f1 f2
    refine ⟨Nat.le_trans hS.1 f1, fun q q1 q2 => (f2 q (Nat.lt_of_lt_of_le q1 hS.1) q2).trans (hS.2.1 q q1 q2), fun q hq => ?_⟩
    rcases List.mem_append.mp hq with z | z
    · exact hS.2.2 q z
    · exact hL q z
  have hW := kk rl T'.heap (locs ++ L) (cells + mc) (slots + ms) hl (by rw [e1]; exact hHR.moved hal) hS' hc1 hc2
  have hst : (r.toList ++ st).map (xa_v tr fmt) = (r.map (xa_v tr fmt)).toList ++ st.map (xa_v tr fmt) := by
    cases r <;> rfl
  obtain ⟨t2, a1, b1⟩ := hW T' rfl X'
  refine ⟨t2, go t2 ?_, b1⟩
  rw [← hst]
  exact a1
def xa_cw (M : xa_M) : Prop := Cond.code M.1 M.2.1 M.2.2.1 M.2.2.2.1 ∈ xa_gw ∧ Cond.initialized M.1.cls ∈ xa_gw
theorem xa_cw_of {M : xa_M} (h : xa_okC M = true) : xa_cw M := by
  unfold xa_okC at h
  split at h
  · simp only [Bool.and_eq_true] at h
    exact ⟨xa_in_gw h.1, xa_in_gw h.2⟩
  · cases h
theorem xa_gw_code {M : xa_M} (h : xa_cw M) : GoodIn xa_gw (.code M.1 M.2.1 M.2.2.1 M.2.2.2.1 :: xa_gw) := by
  intro w hw
  rcases List.mem_cons.mp hw with rfl | hw
  · exact xa_gw_good _ h.1
  · exact xa_gw_good w hw
theorem xa_callB {M : xa_M} {n d mc ms : Nat} (hcw : xa_cw M) (hok : xa_okM M n = true) (hts : ∀ w ∈ xa_gw, w.before args s = true) (hw : Cond.methodLink own k M.1 ∈ xa_gw) (hRf : d + 1 ≤ R.frames) (hRl : 64 * (d + 1) ≤ R.locals) : CallB R s args own k M.1 M.2.1 M.2.2.1 M.2.2.2.1 (.code M.1 M.2.1 M.2.2.1 M.2.2.2.1 :: xa_gw) (xa_rm d mc ms) mc ms n := by
  have hG := xa_gw_code hcw
  unfold xa_okM at hok
  simp only [Bool.and_eq_true, decide_eq_true_eq] at hok
  obtain ⟨⟨h3, h4⟩, h5⟩ := hok
  have h4' := Nat.le_of_ble_eq_true h4
  exact callB_of n hts hG rfl rfl rfl (hts _ hcw.2) (hts _ hw) h3 ⟨hRf, by show 8 + (_ + 11) + 64 * d ≤ _; omega⟩
theorem xa_callN {M : xa_M} {n d mc ms : Nat} (hcw : xa_cw M) (hok : xa_okM M n = true) (hts : ∀ w ∈ xa_gw, w.before args s = true) (hI : xa_Inv D cI cP tr fmt (fun q => b0 ≤ q) s) (hw : Cond.methodLinkNest own k M.1 "MayMust" ∈ xa_nest) (hRf : d + 1 ≤ R.frames) (hRl : 64 * (d + 1) ≤ R.locals) : va_CN R s args own k M.1 "MayMust" M.2.1 M.2.2.1 M.2.2.2.1 (.code M.1 M.2.1 M.2.2.1 M.2.2.2.1 :: xa_gw) (xa_rm d mc ms) mc ms n := by
  have hG := xa_gw_code hcw
  unfold xa_okM at hok
  simp only [Bool.and_eq_true, decide_eq_true_eq] at hok
  obtain ⟨⟨h3, h4⟩, h5⟩ := hok
  have h4' := Nat.le_of_ble_eq_true h4
  exact va_cnB n hts hG rfl rfl rfl (hI.2.1 _ hw) (hts _ hcw.2) h3 ⟨hRf, by show 8 + (_ + 11) + 64 * d ≤ _; omega⟩
/-- a static call -/
theorem xs_calls {M : xa_M} {n d : Nat} {r : Option Value} {h' : xa_H} (nest : Bool) (hx : p.tables.exec = Jvm.exec) (hb : c.code = cc) (hml : c.maxLocals = nL) (hf : fmt.category = 1) (hown : s.vm.findClass own = some m.cls) (hts : ∀ w ∈ xa_gw, w.before args s = true) (hI : xa_Inv D cI cP tr fmt (fun q => b0 ≤ q) s) (hcw : xa_cw M) (hok : xa_okM M n = true) (hw1 : nest = false → Cond.methodLink own k M.1 ∈ xa_gw) (hw2 : nest = true → Cond.methodLinkNest own k M.1 "MayMust" ∈ xa_nest) (hw3 : Cond.static M.1 ∈ xa_gw) (hRf : d + 1 ≤ R.frames) (hRl : 64 * (d + 1) ≤ R.locals)
    (hM : xa_Met l D cI cP tr fmt b0 d M (st.take n).reverse h r h') (hm1 : h.length ≤ h'.length) (hm2 : xa_sl h ≤ xa_sl h') (hRc : h'.length ≤ n0 + R.cells) (hRs : xa_sl h' ≤ s0 + R.slots)
    (hn : n ≤ st.length) (hr : xa_room (st.drop n) = true) (hdg : decode cc pc = .ok (.invokestatic k, 3)) (kk : xa_WW p l e R s m args below meth c Q D cI cP tr fmt b0 nL n0 s0 (pc + 3, ls, r.toList ++ st.drop n, h')) : xa_WW p l e R s m args below meth c Q D cI cP tr fmt b0 nL n0 s0 (pc, ls, st, h) := by
  intro rl H locs cells slots hl hR hS hc1 hc2
  dsimp only at hl hR hc1 hc2 ⊢
  have h8 := xs_sum (tr := tr) hf hr
  have hst : st.map (xa_v tr fmt) = (((st.take n).reverse).map (xa_v tr fmt)).reverse ++ (st.drop n).map (xa_v tr fmt) := by
    rw [← List.map_reverse, List.reverse_reverse, ← List.map_append, List.take_append_drop]
  have hp : PreS s H (xa_Pc D cI cP tr fmt b0 (st.take n).reverse h) (((st.take n).reverse).map (xa_v tr fmt)) := ⟨xa_blind, fun U hU hW => xa_pre hI hR hS hU hW⟩
  have hlen : (((st.take n).reverse).map (xa_v tr fmt)).length = n := by simp; omega
  refine xa_after (as := (((st.take n).reverse).map (xa_v tr fmt)).toArray) (mc := h'.length - h.length) (ms := xa_sl h' - xa_sl h) hl hS (by omega) (by omega) ?_ kk
  cases nest with
  | false => exact va_runS ⟨hx, hb, hml, hown, hts⟩ hM ⟨xa_callB hcw hok hts (hw1 rfl) hRf hRl, hts _ hw3⟩ hp rfl hlen hl.2.1 hst (lv_room h8) hdg ⟨by omega, by omega⟩
  | true => exact va_runSN ⟨hx, hb, hml, hown, hts⟩ hM ⟨xa_callN hcw hok hts hI (hw2 rfl) hRf hRl, hts _ hw3, trivial⟩ hp rfl hlen hl.2.1 hst (lv_room h8) hdg ⟨by omega, by omega⟩
/-- a constructor -/
theorem xs_calli {M : xa_M} {n d o : Nat} {r : Option Value} {h' : xa_H} (nest : Bool) (hx : p.tables.exec = Jvm.exec) (hb : c.code = cc) (hml : c.maxLocals = nL) (hf : fmt.category = 1) (hown : s.vm.findClass own = some m.cls) (hts : ∀ w ∈ xa_gw, w.before args s = true) (hI : xa_Inv D cI cP tr fmt (fun q => b0 ≤ q) s) (hcw : xa_cw M) (hok : xa_okM M n = true) (hw1 : nest = false → Cond.methodLink own k M.1 ∈ xa_gw) (hw2 : nest = true → Cond.methodLinkNest own k M.1 "MayMust" ∈ xa_nest) (hw3 : Cond.instanceMethod M.1 ∈ xa_gw) (hnm : M.1.name = "<init>") (hret : M.2.2.2.1 = none) (hRf : d + 1 ≤ R.frames) (hRl : 64 * (d + 1) ≤ R.locals)
    (hM : xa_Met l D cI cP tr fmt b0 d M (st.take (n + 1)).reverse h r h') (hm1 : h.length ≤ h'.length) (hm2 : xa_sl h ≤ xa_sl h') (hRc : h'.length ≤ n0 + R.cells) (hRs : xa_sl h' ≤ s0 + R.slots)
    (ho : st[n]? = some (.ref o)) (hr : xa_room (st.drop (n + 1)) = true) (hdg : decode cc pc = .ok (.invokespecial k, 3)) (kk : xa_WW p l e R s m args below meth c Q D cI cP tr fmt b0 nL n0 s0 (pc + 3, ls, r.toList ++ st.drop (n + 1), h')) : xa_WW p l e R s m args below meth c Q D cI cP tr fmt b0 nL n0 s0 (pc, ls, st, h) := by
  intro rl H locs cells slots hl hR hS hc1 hc2
  dsimp only at hl hR hc1 hc2 ⊢
  have h8 := xs_sum (tr := tr) hf hr
  have hlt : n < st.length := (List.getElem?_eq_some_iff.mp ho).1
  rw [xa_take1 ho] at hM
  have hst : st.map (xa_v tr fmt) = (((st.take n).reverse).map (xa_v tr fmt)).reverse ++ .ref (tr o) :: (st.drop (n + 1)).map (xa_v tr fmt) := by
    have := congrArg (List.map (xa_v tr fmt)) (xa_split ho)
    rw [this, List.map_append, ← List.map_reverse, List.reverse_reverse]
    rfl
  have hp : PreS s H (xa_Pc D cI cP tr fmt b0 (.ref o :: (st.take n).reverse) h) (.ref (tr o) :: ((st.take n).reverse).map (xa_v tr fmt)) := ⟨xa_blind, fun U hU hW => xa_pre (as := .ref o :: (st.take n).reverse) hI hR hS hU hW⟩
  have hlen : (((st.take n).reverse).map (xa_v tr fmt)).length = n := by simp; omega
  obtain ⟨y, mc, mL, mr, mt⟩ := M
  dsimp only at hret hnm hw1 hw2 hw3
  subst hret
  refine xa_after (as := (Value.ref (tr o) :: ((st.take n).reverse).map (xa_v tr fmt)).toArray) (mc := h'.length - h.length) (ms := xa_sl h' - xa_sl h) hl hS (by omega) (by omega) ?_ kk
  cases nest with
  | false => exact va_runI ⟨hx, hb, hml, hown, hts⟩ hM ⟨xa_callB hcw hok hts (hw1 rfl) hRf hRl, hnm, hts _ hw3⟩ hp rfl hlen hl.2.1 hst (lv_room h8) hdg ⟨by omega, by omega⟩
  | true => exact va_runIN ⟨hx, hb, hml, hown, hts⟩ hM ⟨xa_callN hcw hok hts hI (hw2 rfl) hRf hRl, hnm, hts _ hw3⟩ hp rfl hlen hl.2.1 hst (lv_room h8) hdg ⟨by omega, by omega⟩
/-- a call of an object's method -/
theorem xs_callv {M : xa_M} {n d o ci : Nat} {fs : List Value} {r : Option Value} {h' : xa_H} (hx : p.tables.exec = Jvm.exec) (hb : c.code = cc) (hml : c.maxLocals = nL) (hf : fmt.category = 1) (hown : s.vm.findClass own = some m.cls) (hts : ∀ w ∈ xa_gw, w.before args s = true) (hI : xa_Inv D cI cP tr fmt (fun q => b0 ≤ q) s) (hcw : xa_cw M) (hok : xa_okM M n = true) (hw1 : Cond.methodLink own k M.1 ∈ xa_gw) (hw2 : Cond.instanceMethod M.1 ∈ xa_gw) (hw3 : Cond.selects M.1.cls M.1 M.1 ∈ xa_gw) (hci : (ci = 60 ∧ M.1.cls = "java/lang/String") ∨ (ci < 12 ∧ ∃ q, vwCl[ci]? = some q ∧ q.1 = M.1.cls)) (hRf : d + 1 ≤ R.frames) (hRl : 64 * (d + 1) ≤ R.locals)
    (hM : xa_Met l D cI cP tr fmt b0 d M (st.take (n + 1)).reverse h r h') (hm1 : h.length ≤ h'.length) (hm2 : xa_sl h ≤ xa_sl h') (hRc : h'.length ≤ n0 + R.cells) (hRs : xa_sl h' ≤ s0 + R.slots)
    (ho : st[n]? = some (.ref o)) (hcell : h[o]? = some (.inr (ci, fs))) (hr : xa_room (st.drop (n + 1)) = true) (hdg : decode cc pc = .ok (.invokevirtual k, 3)) (kk : xa_WW p l e R s m args below meth c Q D cI cP tr fmt b0 nL n0 s0 (pc + 3, ls, r.toList ++ st.drop (n + 1), h')) : xa_WW p l e R s m args below meth c Q D cI cP tr fmt b0 nL n0 s0 (pc, ls, st, h) := by
  intro rl H locs cells slots hl hR hS hc1 hc2
  dsimp only at hl hR hc1 hc2 ⊢
  have h8 := xs_sum (tr := tr) hf hr
  have hlt : n < st.length := (List.getElem?_eq_some_iff.mp ho).1
  rw [xa_take1 ho] at hM
  have hst : st.map (xa_v tr fmt) = (((st.take n).reverse).map (xa_v tr fmt)).reverse ++ .ref (tr o) :: (st.drop (n + 1)).map (xa_v tr fmt) := by
    have := congrArg (List.map (xa_v tr fmt)) (xa_split ho)
    rw [this, List.map_append, ← List.map_reverse, List.reverse_reverse]
    rfl
  have hrec : ∃ cellB : Cell, H[tr o]? = some cellB ∧ cellB.vm.isStatics = false ∧ s.vm.findClass M.1.cls = some cellB.cls := by
    have hc := hR.2.2 o _ hcell
    rcases hci with ⟨h60, hcl⟩ | ⟨h12, q, hq, hcl⟩
    · rcases hc with ⟨h1, -⟩ | ⟨-, ⟨cell, g1, g2, g3, -⟩, -⟩ | ⟨h1, -⟩
      · omega
      · exact ⟨cell, g1, g2, by rw [hcl]; exact g3⟩
      · omega
    · rcases hc with ⟨h1, -⟩ | ⟨h1, -⟩ | ⟨-, -, hat⟩
      · omega
      · omega
      · obtain ⟨cell, g1, g2, g3⟩ := va_recv hI.1 (xa_P1 hat) hq (q0 := 0) rfl
        exact ⟨cell, g1, g2, by rw [← hcl]; exact g3⟩
  have hp : PreV s H M.1.cls (tr o) (xa_Pc D cI cP tr fmt b0 (.ref o :: (st.take n).reverse) h) (((st.take n).reverse).map (xa_v tr fmt)) := ⟨xa_blind, hrec, fun U hU hW => xa_pre (as := .ref o :: (st.take n).reverse) hI hR hS hU hW⟩
  have hlen : (((st.take n).reverse).map (xa_v tr fmt)).length = n := by simp; omega
  refine xa_after (as := (Value.ref (tr o) :: ((st.take n).reverse).map (xa_v tr fmt)).toArray) (mc := h'.length - h.length) (ms := xa_sl h' - xa_sl h) hl hS (by omega) (by omega) ?_ kk
  exact va_runV ⟨hx, hb, hml, hown, hts⟩ hM ⟨xa_callB hcw hok hts hw1 hRf hRl, hts _ hw2, hts _ hw3⟩ hp rfl hlen hl.2.1 hst (lv_room h8) hdg ⟨by omega, by omega⟩
end XA6
end
section
/-! ===== the small machine's runs hold on the machine ===== -/
theorem xa_lk_mem {tb : List xa_I} {pc : Nat} {q : Jvm.ClassFile.Instr × Nat × List Nat × Int32} (h : xa_lk tb pc = some q) : (pc, q) ∈ tb := by
  induction tb with
  | nil => simp [xa_lk] at h
  | cons e es ih =>
    unfold xa_lk at h
    cases hb : Nat.beq e.1 pc with
    | true =>
      rw [hb] at h
      simp only [cond_true, Option.some.injEq] at h
      have := Nat.eq_of_beq_eq_true hb
      subst this
      subst h
      exact List.mem_cons_self
    | false =>
      rw [hb] at h
      exact List.mem_cons_of_mem _ (ih h)
section XA7
variable {i : Jvm.ClassFile.Instr} {len pc : Nat} {a : List Nat} {cv : Int32} {ls st : List Value} {h : xa_H}
set_option maxHeartbeats 4000000 in
theorem xa_mono {σ : xa_S} (hs : xa_step i len a cv pc ls st h = some (.inl σ)) : h.length ≤ σ.2.2.2.length ∧ xa_sl h ≤ xa_sl σ.2.2.2 := by
  cases i with
  | putfield k =>
    change xa_putf _ _ _ _ _ _ _ = _ at hs
    unfold xa_putf at hs
    split at hs
    · split at hs
      · rename_i ho
        split at hs
        · cases hs
          dsimp only
          rw [List.length_set, xa_sl_set ho (by simp [xa_s1])]
          exact ⟨Nat.le_refl _, Nat.le_refl _⟩
        · cases hs
      · cases hs
    · cases hs
  | iastore =>
    change xa_iast _ _ _ _ = _ at hs
    unfold xa_iast at hs
    split at hs
    · split at hs
      · rename_i kd n f ho
        split at hs
        · cases hs
          dsimp only
          rw [List.length_set, xa_sl_set ho (by simp [xa_s1])]
          exact ⟨Nat.le_refl _, Nat.le_refl _⟩
        · cases hs
      · cases hs
    · cases hs
  | aastore =>
    change xa_aast _ _ _ _ = _ at hs
    unfold xa_aast at hs
    split at hs
    · split at hs
      · rename_i ho hv
        split at hs
        · cases hs
          dsimp only
          rw [List.length_set, xa_sl_set ho (by simp [xa_s1])]
          exact ⟨Nat.le_refl _, Nat.le_refl _⟩
        · cases hs
      · cases hs
    · cases hs
  | newarray t =>
    change xa_newa _ _ _ _ = _ at hs
    unfold xa_newa at hs
    split at hs
    · split at hs
      · cases hs
        dsimp only
        rw [List.length_append, xa_sl_app]
        exact ⟨Nat.le_add_right _ _, Nat.le_add_right _ _⟩
      · cases hs
    · cases hs
  | anewarray t =>
    change xa_newq _ _ _ _ = _ at hs
    unfold xa_newq at hs
    split at hs
    · split at hs
      · cases hs
        dsimp only
        rw [List.length_append, xa_sl_app]
        exact ⟨Nat.le_add_right _ _, Nat.le_add_right _ _⟩
      · cases hs
    · cases hs
  | new k =>
    change xa_new _ _ _ _ _ = _ at hs
    unfold xa_new at hs
    cases hs
    dsimp only
    rw [List.length_append, xa_sl_app]
    exact ⟨Nat.le_add_right _ _, Nat.le_add_right _ _⟩
  | invokestatic k =>
    unfold xa_step at hs
    dsimp only at hs
    split at hs
    · unfold xa_copy at hs
      split at hs
      · split at hs
        · rename_i k0 m0 f k1 m1 g hb0 ha0
          split at hs
          · cases hs
            dsimp only
            rw [List.length_set, xa_sl_set ha0 (by simp [xa_s1])]
            exact ⟨Nat.le_refl _, Nat.le_refl _⟩
          · cases hs
        · cases hs
      · cases hs
    · unfold xa_max at hs
      repeat' split at hs
      all_goals first | (cases hs; exact ⟨Nat.le_refl _, Nat.le_refl _⟩) | cases hs
    · unfold xa_min at hs
      repeat' split at hs
      all_goals first | (cases hs; exact ⟨Nat.le_refl _, Nat.le_refl _⟩) | cases hs
    · unfold xa_call at hs
      split at hs <;> cases hs
  | invokevirtual k =>
    change xa_vcall _ _ _ _ _ _ _ = _ at hs
    unfold xa_vcall xa_call at hs
    repeat' split at hs
    all_goals cases hs
  | invokespecial k =>
    unfold xa_step at hs
    dsimp only at hs
    split at hs
    · unfold xa_oinit at hs
      repeat' split at hs
      all_goals first | (cases hs; exact ⟨Nat.le_refl _, Nat.le_refl _⟩) | cases hs
    · unfold xa_icall xa_call at hs
      repeat' split at hs
      all_goals cases hs
  | _ =>
    unfold xa_step at hs
    dsimp only at hs
    first
      | (split at hs
         · cases hs; exact ⟨Nat.le_refl _, Nat.le_refl _⟩
         · cases hs)
      | (split at hs <;> cases hs)
      | (cases hs; exact ⟨Nat.le_refl _, Nat.le_refl _⟩)
      | (simp only [xa_ldi, xa_ldl, xa_lda, xa_sti, xa_sta, xa_inc, xa_if1, xa_if2, xa_sw, xa_getf, xa_iald, xa_bald, xa_alen, xa_aald, xa_gets, xa_ldc, xa_nx] at hs
         repeat' split at hs
         all_goals first | (cases hs; exact ⟨Nat.le_refl _, Nat.le_refl _⟩) | cases hs)
set_option maxHeartbeats 4000000 in
theorem xa_retf {r : xa_R} (hs : xa_step i len a cv pc ls st h = some (.inr (.inl r))) : (i = .ireturn ∧ ∃ v, st = [.int v] ∧ r = (some (.int v), h)) ∨ (i = .return_ ∧ st = [] ∧ r = (none, h)) := by
  cases i with
  | ireturn =>
    unfold xa_step at hs
    dsimp only at hs
    split at hs
    · cases hs
      exact Or.inl ⟨rfl, _, rfl, rfl⟩
    · cases hs
  | return_ =>
    unfold xa_step at hs
    dsimp only at hs
    split at hs
    · cases hs
      exact Or.inr ⟨rfl, rfl, rfl⟩
    · cases hs
  | _ =>
    exfalso
    unfold xa_step at hs
    dsimp only at hs
    first
      | (split at hs <;> cases hs; done)
      | (cases hs; done)
      | (simp only [xa_ldi, xa_ldl, xa_lda, xa_sti, xa_sta, xa_inc, xa_if1, xa_if2, xa_sw, xa_getf, xa_putf, xa_iald, xa_bald, xa_iast, xa_alen, xa_newa, xa_newq, xa_new, xa_aald, xa_aast, xa_gets, xa_ldc, xa_copy, xa_max, xa_min, xa_call, xa_vcall, xa_icall, xa_oinit, xa_nx] at hs
         repeat' split at hs
         all_goals cases hs)
set_option maxHeartbeats 4000000 in
theorem xa_callf {mi : Nat} {as : List Value} {f : Nat × List Value × List Value} (hs : xa_step i len a cv pc ls st h = some (.inr (.inr (mi, as, f)))) : mi = a.getD 1 0 ∧ ((∃ k, i = .invokestatic k ∧ (a.getD 0 0 ≠ 2 ∧ a.getD 0 0 ≠ 3 ∧ a.getD 0 0 ≠ 4) ∧ xa_call (pc + len) (a.getD 1 0) (a.getD 2 0) ls st = some (.inr (.inr (mi, as, f)))) ∨ (∃ k, i = .invokevirtual k ∧ xa_vcall (pc + len) (a.getD 1 0) (a.getD 2 0) (a.getD 3 0) ls st h = some (.inr (.inr (mi, as, f)))) ∨ (∃ k, i = .invokespecial k ∧ a.getD 0 0 ≠ 9 ∧ xa_icall (pc + len) (a.getD 1 0) (a.getD 2 0) ls st = some (.inr (.inr (mi, as, f))))) := by
  cases i with
  | invokestatic k =>
    unfold xa_step at hs
    dsimp only at hs
    split at hs
    · exfalso
      simp only [xa_copy, xa_nx] at hs
      repeat' split at hs
      all_goals cases hs
    · exfalso
      simp only [xa_max, xa_nx] at hs
      repeat' split at hs
      all_goals cases hs
    · exfalso
      simp only [xa_min, xa_nx] at hs
      repeat' split at hs
      all_goals cases hs
    · rename_i h2 h3 h4
      have hs' := hs
      unfold xa_call at hs'
      split at hs'
      · cases hs'
        exact ⟨rfl, Or.inl ⟨k, rfl, ⟨h2, h3, h4⟩, hs⟩⟩
      · cases hs'
  | invokevirtual k =>
    have hs1 : xa_vcall (pc + len) (a.getD 1 0) (a.getD 2 0) (a.getD 3 0) ls st h = some (.inr (.inr (mi, as, f))) := hs
    have hs' := hs1
    unfold xa_vcall xa_call at hs'
    repeat' split at hs'
    all_goals first | (cases hs'; exact ⟨rfl, Or.inr (Or.inl ⟨k, rfl, hs1⟩)⟩) | cases hs'
  | invokespecial k =>
    unfold xa_step at hs
    dsimp only at hs
    split at hs
    · exfalso
      simp only [xa_oinit, xa_nx] at hs
      repeat' split at hs
      all_goals cases hs
    · rename_i h9
      have hs' := hs
      unfold xa_icall xa_call at hs'
      repeat' split at hs'
      all_goals first | (cases hs'; exact ⟨rfl, Or.inr (Or.inr ⟨k, rfl, h9, hs⟩)⟩) | cases hs'
  | _ =>
    exfalso
    unfold xa_step at hs
    dsimp only at hs
    first
      | (split at hs <;> cases hs; done)
      | (cases hs; done)
      | (simp only [xa_ldi, xa_ldl, xa_lda, xa_sti, xa_sta, xa_inc, xa_if1, xa_if2, xa_sw, xa_getf, xa_putf, xa_iald, xa_bald, xa_iast, xa_alen, xa_newa, xa_newq, xa_new, xa_aald, xa_aast, xa_gets, xa_ldc, xa_nx] at hs
         repeat' split at hs
         all_goals cases hs)
end XA7
end
section
/-! ===== one step, a method, all methods ===== -/
theorem xa_df_v (tr : Nat → Nat) (fmt : Value) : ∀ ci, (xa_df ci).map (xa_v tr fmt) = xa_df ci := by
  intro ci
  unfold xa_df
  split <;> rfl
section XA8
variable {p : Program} {l : Launch} {e : Env} {R : Room} {s : State} {m : MethodId} {args : Array Value} {below : List Frame} {meth : Method} {c : Code} {Q : State → Prop} {D : va_G} {cI cP : ClassId} {tr : Nat → Nat} {fmt : Value} {b0 nL n0 s0 : Nat} {cc : ByteArray} {ms : List xa_M} {y : MethodName} {ret : Option FieldType} {pc len : Nat} {a : List Nat} {cv : Int32} {ls st : List Value} {h : xa_H} {σ : xa_S} {i : Jvm.ClassFile.Instr}
set_option maxHeartbeats 8000000 in
theorem xs_next (hx : p.tables.exec = Jvm.exec) (hb : c.code = cc) (hml : c.maxLocals = nL) (hf : fmt.category = 1) (hown : s.vm.findClass y.cls = some m.cls) (hnm : meth.name = y.name) (hts : ∀ w ∈ xa_gw, w.before args s = true) (hI : xa_Inv D cI cP tr fmt (fun q => b0 ≤ q) s) (hT : xa_tr tr b0) (hRf : 1 ≤ R.frames) (hRl : 64 ≤ R.locals)
    (hok : xa_okB ms y ret pc i len a cv = true) (hdg : decode cc pc = .ok (i, len)) (hs : xa_step i len a cv pc ls st h = some (.inl σ)) (hRc0 : h.length ≤ n0 + R.cells) (hRs0 : xa_sl h ≤ s0 + R.slots) (hRc : σ.2.2.2.length ≤ n0 + R.cells) (hRs : xa_sl σ.2.2.2 ≤ s0 + R.slots) (kk : xa_WW p l e R s m args below meth c Q D cI cP tr fmt b0 nL n0 s0 σ) : xa_WW p l e R s m args below meth c Q D cI cP tr fmt b0 nL n0 s0 (pc, ls, st, h) := by
  cases i with
  | iload k =>
    obtain ⟨rfl, h2⟩ : len = 2 ∧ a.getD 0 0 = k := of_decide_eq_true hok
    exact xs_ldi (k := a.getD 0 0) (n2 := pc + 2) (fun hl k2 => lv_iload hx hb (by rw [hdg, h2]) hl k2) hs kk
  | iload_n k =>
    obtain ⟨rfl, h2⟩ : len = 1 ∧ (k : Nat) = a.getD 0 0 := of_decide_eq_true hok
    exact xs_ldi (k := a.getD 0 0) (n2 := pc + 1) (fun hl k2 => lv_iload_n hx hb hdg h2 hl k2) hs kk
  | lload_n k =>
    obtain ⟨rfl, h2⟩ : len = 1 ∧ (k : Nat) = a.getD 0 0 := of_decide_eq_true hok
    exact xs_ldl (k := a.getD 0 0) (n2 := pc + 1) (fun hl k2 => lv_lload_n hx hb hdg h2 hl k2) hs kk
  | aload k =>
    obtain ⟨rfl, h2⟩ : len = 2 ∧ a.getD 0 0 = k := of_decide_eq_true hok
    exact xs_lda (k := a.getD 0 0) (n2 := pc + 2) (fun hl k2 => lv_aload hx hb (by rw [hdg, h2]) hl k2) hs kk
  | aload_n k =>
    obtain ⟨rfl, h2⟩ : len = 1 ∧ (k : Nat) = a.getD 0 0 := of_decide_eq_true hok
    exact xs_lda (k := a.getD 0 0) (n2 := pc + 1) (fun hl k2 => lv_aload_n hx hb hdg h2 hl k2) hs kk
  | istore k =>
    obtain ⟨rfl, h2⟩ : len = 2 ∧ a.getD 0 0 = k := of_decide_eq_true hok
    exact xs_sti (k := a.getD 0 0) (n2 := pc + 2) hf (fun hl hk k2 => lv_istore hx hb (by rw [hdg, h2]) hl hk rfl k2) hs kk
  | istore_n k =>
    obtain ⟨rfl, h2⟩ : len = 1 ∧ (k : Nat) = a.getD 0 0 := of_decide_eq_true hok
    exact xs_sti (k := a.getD 0 0) (n2 := pc + 1) hf (fun hl hk k2 => lv_istore_n hx hb hdg h2 hl hk rfl k2) hs kk
  | astore_n k =>
    obtain ⟨rfl, h2⟩ : len = 1 ∧ (k : Nat) = a.getD 0 0 := of_decide_eq_true hok
    exact xs_sta (k := a.getD 0 0) (n2 := pc + 1) hf (fun hl hk k2 => lv_astore_n hx hb hdg h2 hl hk rfl k2) hs kk
  | iinc k n =>
    obtain ⟨rfl, h2, h3⟩ : len = 3 ∧ a.getD 0 0 = k ∧ Int32.ofInt n = cv := of_decide_eq_true hok
    exact xs_inc (k := a.getD 0 0) hf hx hb rfl h3 (by rw [hdg, h2]) hs kk
  | goto off =>
    obtain ⟨rfl, h2⟩ : len = 3 ∧ (pc : Int) + off = ((a.getD 0 0 : Nat) : Int) := of_decide_eq_true hok
    cases hs
    intro rl H locs cells slots hl hR hS hc1 hc2
    exact lv_goto hx hb hdg h2 (kk rl H locs cells slots hl hR hS hc1 hc2)
  | ifCond cd off =>
    obtain ⟨rfl, h2⟩ : len = 3 ∧ (pc : Int) + off = ((a.getD 0 0 : Nat) : Int) := of_decide_eq_true hok
    exact xs_if1 hx hb hdg h2 hs kk
  | if_icmp cd off =>
    obtain ⟨rfl, h2⟩ : len = 3 ∧ (pc : Int) + off = ((a.getD 0 0 : Nat) : Int) := of_decide_eq_true hok
    exact xs_if2 hx hb hdg h2 hs kk
  | tableswitch d lo hi offs =>
    unfold xa_okB at hok
    simp only [Bool.and_eq_true, decide_eq_true_eq] at hok
    obtain ⟨⟨h1, h2, h3⟩, h4⟩ := hok
    refine xs_sw hx hb h1 h2 h3 (fun j hj => ?_) hdg hs kk
    have h5 := List.all_eq_true.mp h4 j (List.mem_range.mpr hj)
    cases ho : offs[j]? with
    | none => rw [ho] at h5; cases h5
    | some off => rw [ho] at h5; exact ⟨off, rfl, of_decide_eq_true h5⟩
  | getfield k =>
    unfold xa_okB at hok
    simp only [Bool.and_eq_true, decide_eq_true_eq] at hok
    obtain ⟨rfl, h2⟩ := hok
    refine xs_getf (ci := a.getD 0 0) (fk := a.getD 1 0) hx hb hown hts hI ?_ hdg hs kk
    split at h2
    · rename_i h60
      refine Or.inl ⟨h60, ?_⟩
      split at h2
      · rename_i h0
        exact Or.inl ⟨h0, xa_in_gw h2⟩
      · rename_i h0
        exact Or.inr ⟨h0, xa_in_gw h2⟩
      · cases h2
    · simp only [Bool.and_eq_true, decide_eq_true_eq] at h2
      refine Or.inr ⟨h2.1, ?_⟩
      have h3 := h2.2
      split at h3
      · rename_i q hq
        simp only [Bool.and_eq_true, decide_eq_true_eq] at h3
        exact ⟨q, hq, h3.1, xa_in_gw h3.2⟩
      · cases h3
  | putfield k =>
    unfold xa_okB at hok
    simp only [Bool.and_eq_true, decide_eq_true_eq] at hok
    obtain ⟨⟨rfl, h12⟩, h2⟩ := hok
    split at h2
    · rename_i q hq
      simp only [Bool.and_eq_true, decide_eq_true_eq] at h2
      obtain ⟨⟨⟨h3, h4⟩, h5⟩, h6⟩ := h2
      split at h5
      · rename_i ty hty
        refine xs_putf (ci := a.getD 0 0) (fk := a.getD 1 0) (kd := a.getD 2 0) hx hb hown hts hI hT h12 hq h3 (xa_in_gw h4) hty ?_ ?_ hdg hs kk
        · intro v hv
          split at h5
          · rename_i h0
            have hti : ty = .int := of_decide_eq_true h5
            subst hti
            rw [h0] at hv
            cases v <;> first | exact ⟨rfl, rfl⟩ | (simp [xa_kd] at hv)
          · rename_i h0
            cases v with
            | int x => exact absurd (Nat.eq_of_beq_eq_true hv) h0
            | ref x => cases ty <;> first | exact ⟨rfl, rfl⟩ | (simp [xa_isref] at h5)
            | _ => simp [xa_kd] at hv
        · intro hfn
          rw [if_pos hfn] at h6
          have h7 := of_decide_eq_true h6
          exact ⟨hnm.trans h7.1, h7.2⟩
      · cases h5
    · cases h2
  | iaload =>
    obtain rfl : len = 1 := of_decide_eq_true hok
    exact xs_iald hx hb hI hdg hs kk
  | baload =>
    obtain rfl : len = 1 := of_decide_eq_true hok
    exact xs_bald hx hb hdg hs kk
  | iastore =>
    obtain rfl : len = 1 := of_decide_eq_true hok
    exact xs_iast hx hb hI hT hdg hs kk
  | arraylength =>
    obtain rfl : len = 1 := of_decide_eq_true hok
    exact xs_alen hx hb hI hdg hs kk
  | aaload =>
    obtain rfl : len = 1 := of_decide_eq_true hok
    exact xs_aald hx hb hI hdg hs kk
  | aastore =>
    obtain rfl : len = 1 := of_decide_eq_true hok
    exact xs_aast hx hb hI hT hdg hs kk
  | newarray t =>
    unfold xa_okB at hok
    simp only [Bool.and_eq_true, decide_eq_true_eq] at hok
    obtain ⟨⟨rfl, rfl⟩, h2⟩ := hok
    exact xs_newa hx hb hts hI hT (xa_in_gw h2) hdg hs hRc hRs kk
  | anewarray k =>
    unfold xa_okB at hok
    simp only [Bool.and_eq_true, decide_eq_true_eq] at hok
    obtain ⟨rfl, h2⟩ := hok
    exact xs_newq hx hb hown hts hI hT (xa_in_gw h2) hdg hs hRc hRs kk
  | new k =>
    unfold xa_okB at hok
    simp only [Bool.and_eq_true, decide_eq_true_eq] at hok
    obtain ⟨rfl, h2⟩ := hok
    split at h2
    · rename_i q hq
      simp only [Bool.and_eq_true, decide_eq_true_eq] at h2
      obtain ⟨⟨⟨⟨h3, h4⟩, h5⟩, h6⟩, h7⟩ := h2
      have h12 : a.getD 0 0 < 12 := (List.getElem?_eq_some_iff.mp hq).1
      refine xs_new (ci := a.getD 0 0) hx hb hown hts hI hT h12 hq (xa_in_gw h3) (xa_in_gw h4) (xa_in_gw h5) h6 (fun j hj => ?_) hdg hs hRc hRs kk
      have h8 := List.all_eq_true.mp h7 j (List.mem_range.mpr hj)
      rw [xa_df_v]
      unfold xa_ty
      cases hp : parseFieldDescriptor (q.2.1 j).2.2.1 with
      | none => rw [hp] at h8; cases h8
      | some ty => rw [hp] at h8; exact of_decide_eq_true h8
    · cases h2
  | getstatic k =>
    unfold xa_okB at hok
    simp only [Bool.and_eq_true, decide_eq_true_eq] at hok
    obtain ⟨rfl, h2⟩ := hok
    refine xs_gets (which := a.getD 0 0) hx hb hown hts hI ?_ ?_ hdg hs kk
    · intro h0
      rw [h0] at h2
      exact xa_in_gw h2
    · intro h0
      split at h2
      · rename_i h1; exact absurd h1 h0
      · exact xa_in_gw h2
  | ldc k =>
    unfold xa_okB at hok
    simp only [Bool.and_eq_true, decide_eq_true_eq] at hok
    obtain ⟨rfl, h2⟩ := hok
    refine xs_ldc (which := a.getD 0 0) hx hb hown hts hI ?_ ?_ hdg hs kk
    · intro h0
      rw [h0] at h2
      exact xa_in_gw h2
    · intro j h0
      rw [h0] at h2
      try dsimp only at h2
      simp only [Bool.and_eq_true, decide_eq_true_eq, List.any_eq_true] at h2
      obtain ⟨h3, ⟨q1, q2, q3⟩, h4, h5, h6⟩ := h2
      dsimp only at h5 h6
      subst h5
      subst h6
      exact ⟨h3, q2, h4⟩
  | invokestatic k =>
    unfold xa_okB at hok
    simp only [Bool.and_eq_true, decide_eq_true_eq] at hok
    obtain ⟨rfl, h2⟩ := hok
    unfold xa_step at hs
    dsimp only at hs
    split at hs
    · rename_i h0
      rw [h0] at h2
      try dsimp only at h2
      simp only [Bool.and_eq_true] at h2
      exact xs_copy hx hb hml hf hown hts hI hT (xa_in_gw h2.1.1.1) (xa_in_gw h2.1.1.2) (xa_in_gw h2.1.2) (xa_in_gw h2.2) hRf hRl hdg hs kk
    · rename_i h0
      rw [h0] at h2
      try dsimp only at h2
      simp only [Bool.and_eq_true] at h2
      exact xs_max hx hb hml hf hown hts (xa_in_gw h2.1.1.1) (xa_in_gw h2.1.1.2) (xa_in_gw h2.1.2) (xa_in_gw h2.2) hRf hRl hRc0 hRs0 hdg hs kk
    · rename_i h0
      rw [h0] at h2
      try dsimp only at h2
      simp only [Bool.and_eq_true] at h2
      exact xs_min hx hb hml hf hown hts (xa_in_gw h2.1.1.1) (xa_in_gw h2.1.1.2) (xa_in_gw h2.1.2) (xa_in_gw h2.2) hRf hRl hRc0 hRs0 hdg hs kk
    · unfold xa_call at hs
      split at hs <;> cases hs
  | invokevirtual k =>
    exfalso
    change xa_vcall _ _ _ _ _ _ _ = _ at hs
    unfold xa_vcall xa_call at hs
    repeat' split at hs
    all_goals cases hs
  | invokespecial k =>
    unfold xa_okB at hok
    simp only [Bool.and_eq_true, decide_eq_true_eq] at hok
    obtain ⟨rfl, h2⟩ := hok
    unfold xa_step at hs
    dsimp only at hs
    split at hs
    · rename_i h0
      rw [h0] at h2
      try dsimp only at h2
      simp only [Bool.and_eq_true] at h2
      exact xs_oinit hx hb hml hf hown hts (xa_in_gw h2.1.1) (xa_in_gw h2.1.2) (xa_in_gw h2.2) hRf hRl hdg hs kk
    · unfold xa_icall xa_call at hs
      repeat' split at hs
      all_goals cases hs
  | ireturn =>
    exfalso
    unfold xa_step at hs
    dsimp only at hs
    split at hs <;> cases hs
  | return_ =>
    exfalso
    unfold xa_step at hs
    dsimp only at hs
    split at hs <;> cases hs
  | _ =>
    unfold xa_step at hs
    dsimp only at hs
    split at hs
    · rename_i st' hst
      cases hs
      intro rl H locs cells slots hl hR hS hc1 hc2
      exact xs_alu (own := y.cls) (len := len) (a := a) (cv := cv) hx hb hown hts (by exact hok) hdg hst (kk rl H locs cells slots hl hR hS hc1 hc2)
    · cases hs
/-- an entry of a table, with its bytes -/
def xa_okI (ms : List xa_M) (y : MethodName) (cc : ByteArray) (ret : Option FieldType) (q : xa_I) : Bool := decide (decode cc q.1 = .ok (q.2.1, q.2.2.1)) && xa_okB ms y ret q.1 q.2.1 q.2.2.1 q.2.2.2.1 q.2.2.2.2
theorem xa_narrow {k : Nat} {v : Int32} (hr : match k with
    | 0 => ret = some .int
    | 1 => ret = some .boolean
    | 2 => ret = some .char
    | _ => ret = some .byte) (h : xa_rok k v) : ∃ ty, ret = some ty ∧ narrow ty (.int v) = .int v := by
  unfold xa_rok at h
  split at h
  · exact ⟨.int, hr, rfl⟩
  · refine ⟨.boolean, hr, ?_⟩
    rcases h with rfl | rfl <;> decide +kernel
  · refine ⟨.char, hr, ?_⟩
    show Value.int _ = _
    congr 1
  · rename_i k0 k1 k2
    match k, k0, k1, k2, hr with
    | 0, k0, _, _, _ => exact absurd rfl k0
    | 1, _, k1, _, _ => exact absurd rfl k1
    | 2, _, _, k2, _ => exact absurd rfl k2
    | k + 3, _, _, _, hr => exact ⟨.byte, hr, by rw [narrow_byte, h]⟩
end XA8
end
section
/-! ===== a method's run, and all methods by the depth of calls ===== -/
section XA9
variable {p : Program} {l : Launch} {e : Env} {R : Room} {s : State} {m : MethodId} {args : Array Value} {below : List Frame} {meth : Method} {c : Code} {Q : State → Prop} {D : va_G} {cI cP : ClassId} {tr : Nat → Nat} {fmt : Value} {b0 nL n0 s0 : Nat} {cc : ByteArray} {ms : List xa_M} {y : MethodName} {ret : Option FieldType}
set_option maxHeartbeats 4000000 in
theorem xs_main {d : Nat} {C : Nat → List Value → xa_H → Option Value → xa_H → Prop} {tb : List xa_I} {q : xa_R} (hx : p.tables.exec = Jvm.exec) (hb : c.code = cc) (hml : c.maxLocals = nL) (hf : fmt.category = 1) (hown : s.vm.findClass y.cls = some m.cls) (hnm : meth.name = y.name) (hts : ∀ w ∈ xa_gw, w.before args s = true) (hI : xa_Inv D cI cP tr fmt (fun q => b0 ≤ q) s) (hT : xa_tr tr b0) (hRf : d + 1 ≤ R.frames) (hRl : 64 * (d + 1) ≤ R.locals)
    (hms : ∀ M ∈ ms, xa_okC M = true) (htb : ∀ w ∈ tb, w.2.1 = .nop ∨ xa_okI ms y cc ret w = true)
    (hC : ∀ mi as h r h', C mi as h r h' → (h.length ≤ h'.length ∧ xa_sl h ≤ xa_sl h') ∧ ∀ M, ms[mi]? = some M → xa_Met l D cI cP tr fmt b0 d M as h r h')
    (hRc : q.2.length ≤ n0 + R.cells) (hRs : xa_sl q.2 ≤ s0 + R.slots)
    (hfin1 : ∀ (pc : Nat) (rl : Array Slot) (H : Heap) (locs : List Loc) (cells slots : Nat) (v : Int32) (ty : FieldType), decode cc pc = .ok (.ireturn, 1) → xa_HR D cI cP tr fmt (fun q => b0 ≤ q) s q.2 H → va_S (fun q => b0 ≤ q) s.heap H locs → n0 + cells = q.2.length → s0 + slots = xa_sl q.2 → q.1 = some (.int v) → ret = some ty → narrow ty (.int v) = .int v → W p l e R s m args below meth c H locs cells slots Q (F0 m pc rl [.int v]))
    (hfin2 : ∀ (pc : Nat) (rl : Array Slot) (H : Heap) (locs : List Loc) (cells slots : Nat), decode cc pc = .ok (.return_, 1) → xa_HR D cI cP tr fmt (fun q => b0 ≤ q) s q.2 H → va_S (fun q => b0 ≤ q) s.heap H locs → n0 + cells = q.2.length → s0 + slots = xa_sl q.2 → q.1 = none → ret = none → W p l e R s m args below meth c H locs cells slots Q (F0 m pc rl [])) :
    ∀ (n : Nat) (σ : xa_S), xa_ev C tb n σ q → (σ.2.2.2.length ≤ q.2.length ∧ xa_sl σ.2.2.2 ≤ xa_sl q.2) ∧ xa_WW p l e R s m args below meth c Q D cI cP tr fmt b0 nL n0 s0 σ := by
  intro n
  induction n with
  | zero => intro σ h; exact h.elim
  | succ n ih =>
    intro σ hev
    obtain ⟨pc, ls, st, h⟩ := σ
    unfold xa_ev at hev
    split at hev
    · exact hev.elim
    · rename_i i len a cv hlk
      have hok := htb _ (xa_lk_mem hlk)
      rcases hok with hnop | hok
      · have hnop : i = .nop := hnop
        subst hnop
        exact hev.elim
      unfold xa_okI at hok
      simp only [Bool.and_eq_true, decide_eq_true_eq] at hok
      obtain ⟨hdg, hok⟩ := hok
      split at hev
      · exact hev.elim
      · rename_i σ' hst
        obtain ⟨hm, hW⟩ := ih σ' hev
        have hm2 := xa_mono hst
        refine ⟨⟨Nat.le_trans hm2.1 hm.1, Nat.le_trans hm2.2 hm.2⟩, ?_⟩
        exact xs_next hx hb hml hf hown hnm hts hI hT (by omega) (by omega) hok hdg hst (by have := Nat.le_trans hm2.1 hm.1; omega) (by have := Nat.le_trans hm2.2 hm.2; omega) (by have := hm.1; omega) (by have := hm.2; omega) hW
      · rename_i r hst
        obtain ⟨hfine, rfl⟩ := hev
        rcases xa_retf hst with ⟨rfl, v, rfl, rfl⟩ | ⟨rfl, rfl, rfl⟩
        · refine ⟨⟨Nat.le_refl _, Nat.le_refl _⟩, ?_⟩
          intro rl H locs cells slots hl hR hS hc1 hc2
          unfold xa_okB at hok
          simp only [Bool.and_eq_true, decide_eq_true_eq] at hok
          obtain ⟨rfl, hok⟩ := hok
          obtain ⟨ty, ht1, ht2⟩ := xa_narrow (k := a.getD 0 0) (v := v) (ret := ret) (by
            generalize a.getD 0 0 = k at hok ⊢
            match k, hok with
            | 0, hok => have h9 : ret = some .int := of_decide_eq_true hok; exact h9
            | 1, hok => have h9 : ret = some .boolean := of_decide_eq_true hok; exact h9
            | 2, hok => have h9 : ret = some .char := of_decide_eq_true hok; exact h9
            | k + 3, hok => have h9 : ret = some .byte := of_decide_eq_true hok; exact h9) hfine
          exact hfin1 pc rl H locs cells slots v ty hdg hR hS hc1 hc2 rfl ht1 ht2
        · refine ⟨⟨Nat.le_refl _, Nat.le_refl _⟩, ?_⟩
          intro rl H locs cells slots hl hR hS hc1 hc2
          obtain ⟨rfl, h2⟩ : len = 1 ∧ ret = none := of_decide_eq_true hok
          exact hfin2 pc rl H locs cells slots hdg hR hS hc1 hc2 rfl h2
      · rename_i mi as pc' ls' st' hst
        obtain ⟨r, h', hc, hev⟩ := hev
        obtain ⟨⟨hm1, hm2⟩, hMet⟩ := hC mi as h r h' hc
        obtain ⟨⟨hm3, hm4⟩, hW⟩ := ih _ hev
        dsimp only at hm3 hm4
        refine ⟨⟨Nat.le_trans hm1 hm3, Nat.le_trans hm2 hm4⟩, ?_⟩
        obtain ⟨rfl, hcase⟩ := xa_callf hst
        rcases hcase with ⟨k, rfl, ⟨n2, n3, n4⟩, hcall⟩ | ⟨k, rfl, hcall⟩ | ⟨k, rfl, n9, hcall⟩
        · unfold xa_okB at hok
          simp only [Bool.and_eq_true, decide_eq_true_eq] at hok
          obtain ⟨rfl, hok⟩ := hok
          unfold xa_call at hcall
          split at hcall
          · rename_i hcc
            cases hcall
            split at hok
            · rename_i z; exact absurd z n2
            · rename_i z; exact absurd z n3
            · rename_i z; exact absurd z n4
            · split at hok
              · rename_i M hM
                simp only [Bool.and_eq_true] at hok
                exact xs_calls false hx hb hml hf hown hts hI (xa_cw_of (hms M (List.mem_of_getElem? hM))) hok.1.1 (fun _ => xa_in_gw hok.1.2) (fun z => by cases z) (xa_in_gw hok.2) hRf hRl (hMet M hM) hm1 hm2 (by omega) (by omega) (Nat.le_of_ble_eq_true hcc.1) hcc.2 hdg hW
              · cases hok
            · split at hok
              · rename_i M hM
                simp only [Bool.and_eq_true, decide_eq_true_eq] at hok
                exact xs_calls true hx hb hml hf hown hts hI (xa_cw_of (hms M (List.mem_of_getElem? hM))) hok.1.1 (fun z => by cases z) (fun _ => xa_nest_of hok.1.2) (xa_in_gw hok.2) hRf hRl (hMet M hM) hm1 hm2 (by omega) (by omega) (Nat.le_of_ble_eq_true hcc.1) hcc.2 hdg hW
              · cases hok
            · cases hok
          · cases hcall
        · unfold xa_okB at hok
          simp only [Bool.and_eq_true, decide_eq_true_eq] at hok
          obtain ⟨rfl, hok⟩ := hok
          unfold xa_vcall xa_call at hcall
          split at hcall
          · rename_i o ho
            split at hcall
            · rename_i ci fs hcell
              split at hcall
              · rename_i hci
                split at hcall
                · rename_i hcc
                  cases hcall
                  split at hok
                  · rename_i M hM
                    simp only [Bool.and_eq_true] at hok
                    obtain ⟨⟨⟨⟨h1, h2⟩, h3⟩, h4⟩, h5⟩ := hok
                    refine xs_callv hx hb hml hf hown hts hI (xa_cw_of (hms M (List.mem_of_getElem? hM))) h1 (xa_in_gw h2) (xa_in_gw h3) (xa_in_gw h4) (ci := ci) ?_ hRf hRl (hMet M hM) hm1 hm2 (by omega) (by omega) ho hcell hcc.2 hdg hW
                    split at h5
                    · rename_i z
                      exact Or.inl ⟨hci.trans z, of_decide_eq_true h5⟩
                    · simp only [Bool.and_eq_true, decide_eq_true_eq] at h5
                      refine Or.inr ⟨by rw [hci]; exact h5.1, ?_⟩
                      have h6 := h5.2
                      split at h6
                      · rename_i q hq
                        exact ⟨q, by rw [hci]; exact hq, of_decide_eq_true h6⟩
                      · cases h6
                  · cases hok
                · cases hcall
              · cases hcall
            · cases hcall
          · cases hcall
        · unfold xa_okB at hok
          simp only [Bool.and_eq_true, decide_eq_true_eq] at hok
          obtain ⟨rfl, hok⟩ := hok
          unfold xa_icall xa_call at hcall
          split at hcall
          · rename_i o ho
            split at hcall
            · rename_i hcc
              cases hcall
              split at hok
              · rename_i z; exact absurd z n9
              · split at hok
                · rename_i M hM
                  simp only [Bool.and_eq_true, decide_eq_true_eq] at hok
                  exact xs_calli false hx hb hml hf hown hts hI (xa_cw_of (hms M (List.mem_of_getElem? hM))) hok.1.1.1 (fun _ => xa_in_gw hok.1.1.2) (fun z => by cases z) (xa_in_gw hok.1.2) hok.2.1 hok.2.2 hRf hRl (hMet M hM) hm1 hm2 (by omega) (by omega) ho hcc.2 hdg hW
                · cases hok
              · split at hok
                · rename_i M hM
                  simp only [Bool.and_eq_true, decide_eq_true_eq] at hok
                  exact xs_calli true hx hb hml hf hown hts hI (xa_cw_of (hms M (List.mem_of_getElem? hM))) hok.1.1.1 (fun z => by cases z) (fun _ => xa_nest_of hok.1.1.2) (xa_in_gw hok.1.2) hok.2.1 hok.2.2 hRf hRl (hMet M hM) hm1 hm2 (by omega) (by omega) ho hcc.2 hdg hW
                · cases hok
              · cases hok
            · cases hcall
          · cases hcall
end XA9
/-- a method and its table -/
def xa_okT (ms : List xa_M) (M : xa_M) : Bool := plainName M.1.cls && xa_okC M && M.2.2.2.2.all (fun w => (match w.2.1 with
  | .nop => true
  | _ => false) || xa_okI ms M.1 M.2.1 M.2.2.2.1 w)
theorem xa_okT_tb {ms : List xa_M} {M : xa_M} (htb : M.2.2.2.2.all (fun w => (match w.2.1 with
  | .nop => true
  | _ => false) || xa_okI ms M.1 M.2.1 M.2.2.2.1 w) = true) : ∀ w ∈ M.2.2.2.2, w.2.1 = .nop ∨ xa_okI ms M.1 M.2.1 M.2.2.2.1 w = true := by
  intro w hw
  have h1 := List.all_eq_true.mp htb w hw
  rcases Bool.or_eq_true _ _ ▸ h1 with h2 | h2
  · left
    split at h2
    · assumption
    · cases h2
  · exact Or.inr h2
theorem xa_okT_c {ms : List xa_M} {M : xa_M} (h : xa_okT ms M = true) : xa_okC M = true := by
  unfold xa_okT at h
  simp only [Bool.and_eq_true] at h
  exact h.1.2
/-- the slots that arguments take -/
theorem xa_en_sl {tr : Nat → Nat} {fmt : Value} (hf : fmt.category = 1) : ∀ (as : List Value) (j k : Nat) (v : Value), (∀ v ∈ as, xa_kn v = true) → (as.flatMap xa_ar)[k]? = some v → xa_kn v = true → (j + k, xa_v tr fmt v) ∈ lv_args j (as.map (xa_v tr fmt)) := by
  intro as
  induction as with
  | nil => intro j k v _ h; simp at h
  | cons w ws ih =>
    intro j k v hd h hn
    have hd' : ∀ v ∈ ws, xa_kn v = true := fun v hv => hd v (List.mem_cons_of_mem _ hv)
    have hw := hd w List.mem_cons_self
    rw [List.map_cons]
    unfold lv_args
    rw [xa_cat hf]
    rw [List.flatMap_cons] at h
    by_cases hl : ∃ x, w = .long x
    · obtain ⟨x, rfl⟩ := hl
      match k, h with
      | 0, h =>
        simp [xa_ar] at h
        subst h
        exact List.mem_cons_self
      | 1, h =>
        simp [xa_ar] at h
        subst h
        simp [xa_kn] at hn
      | k + 2, h =>
        refine List.mem_cons_of_mem _ ?_
        have h' := ih (j + 2) k v hd' (by simpa [xa_ar] using h) hn
        rw [show j + (k + 2) = j + 2 + k by omega]
        simpa [Value.category] using h'
    · have he : xa_ar w = [w] := by
        cases w <;> first | rfl | exact absurd ⟨_, rfl⟩ hl
      have hc : w.category ≠ 2 := by
        cases w <;> first | (simp [Value.category]; done) | exact absurd ⟨_, rfl⟩ hl | (simp [xa_kn] at hw)
      rw [he] at h
      rw [if_neg hc]
      match k, h with
      | 0, h =>
        simp at h
        subst h
        exact List.mem_cons_self
      | k + 1, h =>
        refine List.mem_cons_of_mem _ ?_
        have h' := ih (j + 1) k v hd' (by simpa using h) hn
        rw [show j + (k + 1) = j + 1 + k by omega]
        exact h'
theorem xa_en_len {tr : Nat → Nat} {fmt : Value} (hf : fmt.category = 1) : ∀ (as : List Value), (∀ v ∈ as, xa_kn v = true) → (lg_sl (as.map (xa_v tr fmt))).length = (as.flatMap xa_ar).length := by
  intro as
  induction as with
  | nil => intro _; rfl
  | cons w ws ih =>
    intro hd
    have hw := hd w List.mem_cons_self
    have h1 := ih (fun v hv => hd v (List.mem_cons_of_mem _ hv))
    unfold lg_sl at h1 ⊢
    rw [List.map_cons, List.flatMap_cons, List.flatMap_cons, List.length_append, List.length_append, h1, xa_cat hf]
    congr 1
    cases w <;> first | rfl | (simp [xa_kn] at hw)
theorem xa_entry {tr : Nat → Nat} {fmt : Value} (hf : fmt.category = 1) {as : List Value} {n : Nat} (hlen : (xa_en as n).length = n) (hd : as.all xa_kn = true) : xa_L tr fmt n (xa_en as n) ((lg_sl (as.map (xa_v tr fmt)) ++ List.replicate (n - (lg_sl (as.map (xa_v tr fmt))).length) Slot.unset).toArray) := by
  have hd' : ∀ v ∈ as, xa_kn v = true := fun v hv => List.all_eq_true.mp hd v hv
  have hle : (lg_sl (as.map (xa_v tr fmt))).length ≤ n := by
    rw [xa_en_len hf as hd']
    unfold xa_en at hlen
    rw [List.length_append, List.length_replicate] at hlen
    omega
  have h := lv_entry (as.map (xa_v tr fmt)) hle
  refine ⟨hlen, h.1, h.2.1, fun k v hk hn => ?_⟩
  unfold xa_en at hk
  by_cases hlt : k < (as.flatMap xa_ar).length
  · rw [List.getElem?_append_left hlt] at hk
    have := xa_en_sl (tr := tr) (fmt := fmt) hf as 0 k v hd' hk hn
    rw [Nat.zero_add] at this
    exact h.2.2 _ this
  · rw [List.getElem?_append_right (by omega)] at hk
    have := (List.mem_replicate.mp (List.mem_of_getElem? hk)).2
    subst this
    simp [xa_kn] at hn
theorem xa_evmono {C : Nat → List Value → xa_H → Option Value → xa_H → Prop} {tb : List xa_I} (hC : ∀ mi as h r h', C mi as h r h' → h.length ≤ h'.length ∧ xa_sl h ≤ xa_sl h') : ∀ (n : Nat) (σ : xa_S) (q : xa_R), xa_ev C tb n σ q → σ.2.2.2.length ≤ q.2.length ∧ xa_sl σ.2.2.2 ≤ xa_sl q.2 := by
  intro n
  induction n with
  | zero => intro σ q h; exact h.elim
  | succ n ih =>
    intro σ q hev
    obtain ⟨pc, ls, st, h⟩ := σ
    unfold xa_ev at hev
    split at hev
    · exact hev.elim
    · split at hev
      · exact hev.elim
      · rename_i σ' hst
        have h1 := ih σ' q hev
        have h2 := xa_mono hst
        exact ⟨Nat.le_trans h2.1 h1.1, Nat.le_trans h2.2 h1.2⟩
      · rename_i r hst
        obtain ⟨-, rfl⟩ := hev
        rcases xa_retf hst with ⟨-, v, -, rfl⟩ | ⟨-, -, rfl⟩
        · exact ⟨Nat.le_refl _, Nat.le_refl _⟩
        · exact ⟨Nat.le_refl _, Nat.le_refl _⟩
      · obtain ⟨r, h', hc, hev⟩ := hev
        have h1 := hC _ _ _ _ _ hc
        have h2 := ih _ q hev
        exact ⟨Nat.le_trans h1.1 h2.1, Nat.le_trans h1.2 h2.2⟩
theorem xa_rnmono {ms : List xa_M} : ∀ (d mi : Nat) (as : List Value) (h : xa_H) (r : Option Value) (h' : xa_H), xa_rn ms d mi as h r h' → h.length ≤ h'.length ∧ xa_sl h ≤ xa_sl h' := by
  intro d
  induction d with
  | zero => intro mi as h r h' hr; exact hr.elim
  | succ d ih =>
    intro mi as h r h' hr
    obtain ⟨M, n, hM, -, hev⟩ := hr
    exact xa_evmono ih n _ _ hev
set_option maxHeartbeats 4000000 in
theorem xa_sound {l : Launch} {D : va_G} {cI cP : ClassId} {tr : Nat → Nat} {fmt : Value} {b0 : Nat} {ms : List xa_M} (hms : ∀ M ∈ ms, xa_okT ms M = true) (hf : fmt.category = 1) (hT : xa_tr tr b0) :
    ∀ (d mi : Nat) (as : List Value) (h : xa_H) (r : Option Value) (h' : xa_H), xa_rn ms d mi as h r h' → (h.length ≤ h'.length ∧ xa_sl h ≤ xa_sl h') ∧ ∀ M, ms[mi]? = some M → xa_Met l D cI cP tr fmt b0 d M as h r h' := by
  intro d
  induction d with
  | zero => intro mi as h r h' hr; exact hr.elim
  | succ d ih =>
    intro mi as h r h' hr
    obtain ⟨M, n, hM, ⟨hlen, hkn⟩, hev⟩ := hr
    have hokT := hms M (List.mem_of_getElem? hM)
    unfold xa_okT at hokT
    simp only [Bool.and_eq_true] at hokT
    obtain ⟨⟨hpl, -⟩, htb⟩ := hokT
    have htb' : ∀ w ∈ M.2.2.2.2, w.2.1 = .nop ∨ xa_okI ms M.1 M.2.1 M.2.2.2.1 w = true := xa_okT_tb htb
    have hmc : ∀ M ∈ ms, xa_okC M = true := fun M hM => xa_okT_c (hms M hM)
    refine ⟨?_, ?_⟩
    · exact xa_rnmono (d + 1) mi as h r h' ⟨M, n, hM, ⟨hlen, hkn⟩, hev⟩
    · intro M2 hM2
      have e2 : M2 = M := Option.some.inj (hM2.symm.trans hM)
      subst e2
      unfold xa_Met
      refine Met.ofW (cc := M2.2.1) (maxL := M2.2.2.1) (ret := M2.2.2.2.1) hpl rfl ?_
      intro p e s m args below meth c s₁ B hml hv
      obtain ⟨rfl, hHR, hI⟩ := hv
      have hts0 := atoms_spec (ws := .code M2.1 M2.2.1 M2.2.2.1 M2.2.2.2.1 :: xa_gw) B.pre
      have hts : ∀ w ∈ xa_gw, w.before (as.map (xa_v tr fmt)).toArray s = true := fun w hw => hts0 w (List.mem_cons_of_mem _ hw)
      have hown : s.vm.findClass M2.1.cls = some m.cls := findClass_of_methodNamed B.named
      have hnm : meth.name = M2.1.name := (name_of_methodNamed B.named B.method).1
      have hlocks := B.notSynchronized
      have hr := B.returns
      rw [lg_entry_eq]
      have hL := xa_entry (tr := tr) hf hlen hkn
      have main := xs_main (p := p) (l := l) (e := e) (R := xa_rm (d + 1) (h'.length - h.length) (xa_sl h' - xa_sl h)) (s := s) (m := m) (args := (as.map (xa_v tr fmt)).toArray) (below := below) (meth := meth) (c := c) (Q := MQ below (xa_Qc D cI cP tr fmt b0 r h') (as.map (xa_v tr fmt)).toArray s (h'.length - h.length) (xa_sl h' - xa_sl h) (fun q => b0 ≤ q)) (n0 := h.length) (s0 := xa_sl h) (d := d) (q := (r, h')) B.exec B.bytes hml hf hown hnm hts hI hT (Nat.le_refl _) (Nat.le_refl _) hmc htb' ih
        (by show h'.length ≤ h.length + (h'.length - h.length); omega) (by show xa_sl h' ≤ xa_sl h + (xa_sl h' - xa_sl h); omega)
        (by
          intro pc rl H locs cells slots v ty hdg hR hS hc1 hc2 hq hty hn
          dsimp only at hR hc1 hc2 hq
          have e1 : cells = h'.length - h.length := by omega
          have e2 : slots = xa_sl h' - xa_sl h := by omega
          subst e1
          subst e2
          subst hq
          exact W.zret B.exec B.bytes (hr.trans hty) hn (fun t ht hW => ⟨rfl, by rw [ht]; exact hR.moved hW.alike, hS.F ht⟩) hS.2.2 hdg)
        (by
          intro pc rl H locs cells slots hdg hR hS hc1 hc2 hq hty
          dsimp only at hR hc1 hc2 hq
          have e1 : cells = h'.length - h.length := by omega
          have e2 : slots = xa_sl h' - xa_sl h := by omega
          subst e1
          subst e2
          subst hq
          exact W.vret B.exec B.bytes (hr.trans hty) (fun t ht hW => ⟨rfl, by rw [ht]; exact hR.moved hW.alike, hS.F ht⟩) hS.2.2 hdg)
        n _ hev
      exact main.2 _ s.heap [] 0 0 hL hHR va_S.rf rfl rfl
end
