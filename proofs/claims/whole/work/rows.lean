section
-- ===== PART A: goes FIRST, ahead of the names: the tables' words, and 'selects' of the private methods out of them =====
/-- a private method of a class that the tables say can be made, by its rows of tables_1 -/
def lw_okq (q : MethodName × Nat) : Prop := (q.1.cls ≠ "java/lang/invoke/MethodHandle" ∧ q.1.cls ≠ "java/lang/invoke/VarHandle") ∧ Cond.instantiable q.1.cls q.2 ∈ tables_1 ∧ Cond.privateMethod q.1 ∈ tables_1 ∧ Cond.instanceMethod q.1 ∈ tables_1
theorem lw_p0 : lw_okq (⟨"MayMust$Tokens", "cut", "(LMayMust$Text;I)I"⟩, 5) := ⟨⟨by decide +kernel, by decide +kernel⟩, List.mem_of_getElem? (i := 68) (by decide +kernel), List.mem_of_getElem? (i := 272) (by decide +kernel), List.mem_of_getElem? (i := 273) (by decide +kernel)⟩
theorem lw_p1 : lw_okq (⟨"MayMust$Tokens", "cutNumber", "(LMayMust$Text;I)I"⟩, 5) := ⟨⟨by decide +kernel, by decide +kernel⟩, List.mem_of_getElem? (i := 68) (by decide +kernel), List.mem_of_getElem? (i := 279) (by decide +kernel), List.mem_of_getElem? (i := 280) (by decide +kernel)⟩
theorem lw_p2 : lw_okq (⟨"MayMust$Tokens", "keep", "(III)V"⟩, 5) := ⟨⟨by decide +kernel, by decide +kernel⟩, List.mem_of_getElem? (i := 68) (by decide +kernel), List.mem_of_getElem? (i := 286) (by decide +kernel), List.mem_of_getElem? (i := 287) (by decide +kernel)⟩
theorem lw_p3 : lw_okq (⟨"MayMust$Tokens", "cutWord", "(LMayMust$Text;I)I"⟩, 5) := ⟨⟨by decide +kernel, by decide +kernel⟩, List.mem_of_getElem? (i := 68) (by decide +kernel), List.mem_of_getElem? (i := 293) (by decide +kernel), List.mem_of_getElem? (i := 294) (by decide +kernel)⟩
theorem lw_p4 : lw_okq (⟨"MayMust$Reader", "readHead", "(LMayMust$Plan;)Z"⟩, 1) := ⟨⟨by decide +kernel, by decide +kernel⟩, List.mem_of_getElem? (i := 62) (by decide +kernel), List.mem_of_getElem? (i := 414) (by decide +kernel), List.mem_of_getElem? (i := 415) (by decide +kernel)⟩
theorem lw_p5 : lw_okq (⟨"MayMust$Reader", "readItem", "(LMayMust$Plan;)Z"⟩, 1) := ⟨⟨by decide +kernel, by decide +kernel⟩, List.mem_of_getElem? (i := 62) (by decide +kernel), List.mem_of_getElem? (i := 452) (by decide +kernel), List.mem_of_getElem? (i := 453) (by decide +kernel)⟩
theorem lw_p6 : lw_okq (⟨"MayMust$Reader", "readBoths", "(LMayMust$Saying;I)Z"⟩, 1) := ⟨⟨by decide +kernel, by decide +kernel⟩, List.mem_of_getElem? (i := 62) (by decide +kernel), List.mem_of_getElem? (i := 487) (by decide +kernel), List.mem_of_getElem? (i := 488) (by decide +kernel)⟩
theorem lw_p7 : lw_okq (⟨"MayMust$Reader", "readBoth", "(LMayMust$Saying;I)Z"⟩, 1) := ⟨⟨by decide +kernel, by decide +kernel⟩, List.mem_of_getElem? (i := 62) (by decide +kernel), List.mem_of_getElem? (i := 491) (by decide +kernel), List.mem_of_getElem? (i := 492) (by decide +kernel)⟩
theorem lw_p8 : lw_okq (⟨"MayMust$Reader", "readUnit", "(LMayMust$Saying;I)Z"⟩, 1) := ⟨⟨by decide +kernel, by decide +kernel⟩, List.mem_of_getElem? (i := 62) (by decide +kernel), List.mem_of_getElem? (i := 495) (by decide +kernel), List.mem_of_getElem? (i := 496) (by decide +kernel)⟩
theorem lw_p9 : lw_okq (⟨"MayMust$Reader", "readBit", "(LMayMust$Saying;)Z"⟩, 1) := ⟨⟨by decide +kernel, by decide +kernel⟩, List.mem_of_getElem? (i := 62) (by decide +kernel), List.mem_of_getElem? (i := 499) (by decide +kernel), List.mem_of_getElem? (i := 500) (by decide +kernel)⟩
theorem lw_p10 : lw_okq (⟨"MayMust$Reader", "readNot", "(LMayMust$Saying;I)Z"⟩, 1) := ⟨⟨by decide +kernel, by decide +kernel⟩, List.mem_of_getElem? (i := 62) (by decide +kernel), List.mem_of_getElem? (i := 508) (by decide +kernel), List.mem_of_getElem? (i := 509) (by decide +kernel)⟩
theorem lw_p11 : lw_okq (⟨"MayMust$Reader", "readArrow", "(LMayMust$Saying;III)Z"⟩, 1) := ⟨⟨by decide +kernel, by decide +kernel⟩, List.mem_of_getElem? (i := 62) (by decide +kernel), List.mem_of_getElem? (i := 512) (by decide +kernel), List.mem_of_getElem? (i := 513) (by decide +kernel)⟩
theorem lw_p12 : lw_okq (⟨"MayMust", "noArrow", "(IIII)Z"⟩, 10) := ⟨⟨by decide +kernel, by decide +kernel⟩, List.mem_of_getElem? (i := 23) (by decide +kernel), List.mem_of_getElem? (i := 547) (by decide +kernel), List.mem_of_getElem? (i := 548) (by decide +kernel)⟩
theorem lw_p13 : lw_okq (⟨"MayMust", "noState", "(II)Z"⟩, 10) := ⟨⟨by decide +kernel, by decide +kernel⟩, List.mem_of_getElem? (i := 23) (by decide +kernel), List.mem_of_getElem? (i := 551) (by decide +kernel), List.mem_of_getElem? (i := 552) (by decide +kernel)⟩
theorem lw_p14 : lw_okq (⟨"MayMust$Rounds", "playOne", "(LMayMust$Plan;LMayMust$Plan;I)Z"⟩, 4) := ⟨⟨by decide +kernel, by decide +kernel⟩, List.mem_of_getElem? (i := 120) (by decide +kernel), List.mem_of_getElem? (i := 596) (by decide +kernel), List.mem_of_getElem? (i := 597) (by decide +kernel)⟩
theorem lw_p15 : lw_okq (⟨"MayMust$Rounds", "hasToGo", "(LMayMust$Plan;LMayMust$Plan;II)Z"⟩, 4) := ⟨⟨by decide +kernel, by decide +kernel⟩, List.mem_of_getElem? (i := 120) (by decide +kernel), List.mem_of_getElem? (i := 608) (by decide +kernel), List.mem_of_getElem? (i := 609) (by decide +kernel)⟩
def lw_privs_1 : List (MethodName × Nat) := [(⟨"MayMust$Tokens", "cut", "(LMayMust$Text;I)I"⟩, 5), (⟨"MayMust$Tokens", "cutNumber", "(LMayMust$Text;I)I"⟩, 5), (⟨"MayMust$Tokens", "keep", "(III)V"⟩, 5), (⟨"MayMust$Tokens", "cutWord", "(LMayMust$Text;I)I"⟩, 5), (⟨"MayMust$Reader", "readHead", "(LMayMust$Plan;)Z"⟩, 1), (⟨"MayMust$Reader", "readItem", "(LMayMust$Plan;)Z"⟩, 1), (⟨"MayMust$Reader", "readBoths", "(LMayMust$Saying;I)Z"⟩, 1), (⟨"MayMust$Reader", "readBoth", "(LMayMust$Saying;I)Z"⟩, 1), (⟨"MayMust$Reader", "readUnit", "(LMayMust$Saying;I)Z"⟩, 1), (⟨"MayMust$Reader", "readBit", "(LMayMust$Saying;)Z"⟩, 1), (⟨"MayMust$Reader", "readNot", "(LMayMust$Saying;I)Z"⟩, 1), (⟨"MayMust$Reader", "readArrow", "(LMayMust$Saying;III)Z"⟩, 1), (⟨"MayMust", "noArrow", "(IIII)Z"⟩, 10), (⟨"MayMust", "noState", "(II)Z"⟩, 10), (⟨"MayMust$Rounds", "playOne", "(LMayMust$Plan;LMayMust$Plan;I)Z"⟩, 4), (⟨"MayMust$Rounds", "hasToGo", "(LMayMust$Plan;LMayMust$Plan;II)Z"⟩, 4)]
theorem lw_r1 : ∀ q ∈ lw_privs_1, lw_okq q := List.forall_mem_cons.mpr ⟨lw_p0, List.forall_mem_cons.mpr ⟨lw_p1, List.forall_mem_cons.mpr ⟨lw_p2, List.forall_mem_cons.mpr ⟨lw_p3, List.forall_mem_cons.mpr ⟨lw_p4, List.forall_mem_cons.mpr ⟨lw_p5, List.forall_mem_cons.mpr ⟨lw_p6, List.forall_mem_cons.mpr ⟨lw_p7, List.forall_mem_cons.mpr ⟨lw_p8, List.forall_mem_cons.mpr ⟨lw_p9, List.forall_mem_cons.mpr ⟨lw_p10, List.forall_mem_cons.mpr ⟨lw_p11, List.forall_mem_cons.mpr ⟨lw_p12, List.forall_mem_cons.mpr ⟨lw_p13, List.forall_mem_cons.mpr ⟨lw_p14, List.forall_mem_cons.mpr ⟨lw_p15, fun _ h => absurd h List.not_mem_nil⟩⟩⟩⟩⟩⟩⟩⟩⟩⟩⟩⟩⟩⟩⟩⟩
theorem lw_p16 : lw_okq (⟨"MayMust$Rounds", "sideOf", "(LMayMust$Plan;LMayMust$Plan;III)I"⟩, 4) := ⟨⟨by decide +kernel, by decide +kernel⟩, List.mem_of_getElem? (i := 120) (by decide +kernel), List.mem_of_getElem? (i := 612) (by decide +kernel), List.mem_of_getElem? (i := 613) (by decide +kernel)⟩
theorem lw_p17 : lw_okq (⟨"MayMust$Rounds", "dropThoseOf", "(I)V"⟩, 4) := ⟨⟨by decide +kernel, by decide +kernel⟩, List.mem_of_getElem? (i := 120) (by decide +kernel), List.mem_of_getElem? (i := 629) (by decide +kernel), List.mem_of_getElem? (i := 630) (by decide +kernel)⟩
theorem lw_p18 : lw_okq (⟨"MayMust$Shrinker", "findLeast", "(LMayMust$Plan;LMayMust$Rounds;)V"⟩, 1) := ⟨⟨by decide +kernel, by decide +kernel⟩, List.mem_of_getElem? (i := 152) (by decide +kernel), List.mem_of_getElem? (i := 665) (by decide +kernel), List.mem_of_getElem? (i := 666) (by decide +kernel)⟩
theorem lw_p19 : lw_okq (⟨"MayMust$Shrinker", "reachedIn", "(LMayMust$Plan;)I"⟩, 1) := ⟨⟨by decide +kernel, by decide +kernel⟩, List.mem_of_getElem? (i := 152) (by decide +kernel), List.mem_of_getElem? (i := 675) (by decide +kernel), List.mem_of_getElem? (i := 676) (by decide +kernel)⟩
theorem lw_p20 : lw_okq (⟨"MayMust$Shrinker", "nextOf", "(LMayMust$Plan;I)I"⟩, 1) := ⟨⟨by decide +kernel, by decide +kernel⟩, List.mem_of_getElem? (i := 152) (by decide +kernel), List.mem_of_getElem? (i := 680) (by decide +kernel), List.mem_of_getElem? (i := 681) (by decide +kernel)⟩
theorem lw_p21 : lw_okq (⟨"MayMust$Shrinker", "carryArrows", "(LMayMust$Plan;IILMayMust$Plan;)V"⟩, 1) := ⟨⟨by decide +kernel, by decide +kernel⟩, List.mem_of_getElem? (i := 152) (by decide +kernel), List.mem_of_getElem? (i := 687) (by decide +kernel), List.mem_of_getElem? (i := 688) (by decide +kernel)⟩
theorem lw_p22 : lw_okq (⟨"MayMust$Joiner", "dropClashes", "(LMayMust$Plan;LMayMust$Plan;)V"⟩, 4) := ⟨⟨by decide +kernel, by decide +kernel⟩, List.mem_of_getElem? (i := 162) (by decide +kernel), List.mem_of_getElem? (i := 710) (by decide +kernel), List.mem_of_getElem? (i := 711) (by decide +kernel)⟩
theorem lw_p23 : lw_okq (⟨"MayMust$Joiner", "dropSome", "(LMayMust$Plan;LMayMust$Plan;)Z"⟩, 4) := ⟨⟨by decide +kernel, by decide +kernel⟩, List.mem_of_getElem? (i := 162) (by decide +kernel), List.mem_of_getElem? (i := 714) (by decide +kernel), List.mem_of_getElem? (i := 715) (by decide +kernel)⟩
theorem lw_p24 : lw_okq (⟨"MayMust$Joiner", "clashes", "(LMayMust$Plan;LMayMust$Plan;II)Z"⟩, 4) := ⟨⟨by decide +kernel, by decide +kernel⟩, List.mem_of_getElem? (i := 162) (by decide +kernel), List.mem_of_getElem? (i := 719) (by decide +kernel), List.mem_of_getElem? (i := 720) (by decide +kernel)⟩
theorem lw_p25 : lw_okq (⟨"MayMust$Joiner", "numberOf", "(II)I"⟩, 4) := ⟨⟨by decide +kernel, by decide +kernel⟩, List.mem_of_getElem? (i := 162) (by decide +kernel), List.mem_of_getElem? (i := 729) (by decide +kernel), List.mem_of_getElem? (i := 730) (by decide +kernel)⟩
theorem lw_p26 : lw_okq (⟨"MayMust$Joiner", "spread", "(LMayMust$Plan;LMayMust$Plan;ZILMayMust$Plan;)Z"⟩, 4) := ⟨⟨by decide +kernel, by decide +kernel⟩, List.mem_of_getElem? (i := 162) (by decide +kernel), List.mem_of_getElem? (i := 734) (by decide +kernel), List.mem_of_getElem? (i := 735) (by decide +kernel)⟩
theorem lw_p27 : lw_okq (⟨"MayMust$Saying", "valuesOf", "(ILMayMust$Plan;)I"⟩, 5) := ⟨⟨by decide +kernel, by decide +kernel⟩, List.mem_of_getElem? (i := 94) (by decide +kernel), List.mem_of_getElem? (i := 754) (by decide +kernel), List.mem_of_getElem? (i := 755) (by decide +kernel)⟩
theorem lw_p28 : lw_okq (⟨"MayMust$Saying", "pop", "()I"⟩, 5) := ⟨⟨by decide +kernel, by decide +kernel⟩, List.mem_of_getElem? (i := 94) (by decide +kernel), List.mem_of_getElem? (i := 761) (by decide +kernel), List.mem_of_getElem? (i := 762) (by decide +kernel)⟩
theorem lw_p29 : lw_okq (⟨"MayMust$Saying", "push", "(I)V"⟩, 5) := ⟨⟨by decide +kernel, by decide +kernel⟩, List.mem_of_getElem? (i := 94) (by decide +kernel), List.mem_of_getElem? (i := 780) (by decide +kernel), List.mem_of_getElem? (i := 781) (by decide +kernel)⟩
theorem lw_p30 : lw_okq (⟨"MayMust$Walker", "nextBy", "(I)I"⟩, 3) := ⟨⟨by decide +kernel, by decide +kernel⟩, List.mem_of_getElem? (i := 183) (by decide +kernel), List.mem_of_getElem? (i := 809) (by decide +kernel), List.mem_of_getElem? (i := 810) (by decide +kernel)⟩
theorem lw_p31 : lw_okq (⟨"MayMust$Walker", "isInAll", "(I)Z"⟩, 3) := ⟨⟨by decide +kernel, by decide +kernel⟩, List.mem_of_getElem? (i := 183) (by decide +kernel), List.mem_of_getElem? (i := 832) (by decide +kernel), List.mem_of_getElem? (i := 833) (by decide +kernel)⟩
def lw_privs_2 : List (MethodName × Nat) := [(⟨"MayMust$Rounds", "sideOf", "(LMayMust$Plan;LMayMust$Plan;III)I"⟩, 4), (⟨"MayMust$Rounds", "dropThoseOf", "(I)V"⟩, 4), (⟨"MayMust$Shrinker", "findLeast", "(LMayMust$Plan;LMayMust$Rounds;)V"⟩, 1), (⟨"MayMust$Shrinker", "reachedIn", "(LMayMust$Plan;)I"⟩, 1), (⟨"MayMust$Shrinker", "nextOf", "(LMayMust$Plan;I)I"⟩, 1), (⟨"MayMust$Shrinker", "carryArrows", "(LMayMust$Plan;IILMayMust$Plan;)V"⟩, 1), (⟨"MayMust$Joiner", "dropClashes", "(LMayMust$Plan;LMayMust$Plan;)V"⟩, 4), (⟨"MayMust$Joiner", "dropSome", "(LMayMust$Plan;LMayMust$Plan;)Z"⟩, 4), (⟨"MayMust$Joiner", "clashes", "(LMayMust$Plan;LMayMust$Plan;II)Z"⟩, 4), (⟨"MayMust$Joiner", "numberOf", "(II)I"⟩, 4), (⟨"MayMust$Joiner", "spread", "(LMayMust$Plan;LMayMust$Plan;ZILMayMust$Plan;)Z"⟩, 4), (⟨"MayMust$Saying", "valuesOf", "(ILMayMust$Plan;)I"⟩, 5), (⟨"MayMust$Saying", "pop", "()I"⟩, 5), (⟨"MayMust$Saying", "push", "(I)V"⟩, 5), (⟨"MayMust$Walker", "nextBy", "(I)I"⟩, 3), (⟨"MayMust$Walker", "isInAll", "(I)Z"⟩, 3)]
theorem lw_r2 : ∀ q ∈ lw_privs_2, lw_okq q := List.forall_mem_cons.mpr ⟨lw_p16, List.forall_mem_cons.mpr ⟨lw_p17, List.forall_mem_cons.mpr ⟨lw_p18, List.forall_mem_cons.mpr ⟨lw_p19, List.forall_mem_cons.mpr ⟨lw_p20, List.forall_mem_cons.mpr ⟨lw_p21, List.forall_mem_cons.mpr ⟨lw_p22, List.forall_mem_cons.mpr ⟨lw_p23, List.forall_mem_cons.mpr ⟨lw_p24, List.forall_mem_cons.mpr ⟨lw_p25, List.forall_mem_cons.mpr ⟨lw_p26, List.forall_mem_cons.mpr ⟨lw_p27, List.forall_mem_cons.mpr ⟨lw_p28, List.forall_mem_cons.mpr ⟨lw_p29, List.forall_mem_cons.mpr ⟨lw_p30, List.forall_mem_cons.mpr ⟨lw_p31, fun _ h => absurd h List.not_mem_nil⟩⟩⟩⟩⟩⟩⟩⟩⟩⟩⟩⟩⟩⟩⟩⟩
theorem lw_p32 : lw_okq (⟨"MayMust", "statesOfAll", "()I"⟩, 10) := ⟨⟨by decide +kernel, by decide +kernel⟩, List.mem_of_getElem? (i := 23) (by decide +kernel), List.mem_of_getElem? (i := 845) (by decide +kernel), List.mem_of_getElem? (i := 846) (by decide +kernel)⟩
theorem lw_p33 : lw_okq (⟨"MayMustModel", "begins", "()V"⟩, 25) := ⟨⟨by decide +kernel, by decide +kernel⟩, List.mem_of_getElem? (i := 850) (by decide +kernel), List.mem_of_getElem? (i := 951) (by decide +kernel), List.mem_of_getElem? (i := 952) (by decide +kernel)⟩
theorem lw_p34 : lw_okq (⟨"MayMustModel", "advances", "()V"⟩, 25) := ⟨⟨by decide +kernel, by decide +kernel⟩, List.mem_of_getElem? (i := 850) (by decide +kernel), List.mem_of_getElem? (i := 955) (by decide +kernel), List.mem_of_getElem? (i := 956) (by decide +kernel)⟩
theorem lw_p35 : lw_okq (⟨"MayMustModel", "byteAt", "(I)I"⟩, 25) := ⟨⟨by decide +kernel, by decide +kernel⟩, List.mem_of_getElem? (i := 850) (by decide +kernel), List.mem_of_getElem? (i := 959) (by decide +kernel), List.mem_of_getElem? (i := 960) (by decide +kernel)⟩
theorem lw_p36 : lw_okq (⟨"MayMustModel", "words", "(I)V"⟩, 25) := ⟨⟨by decide +kernel, by decide +kernel⟩, List.mem_of_getElem? (i := 850) (by decide +kernel), List.mem_of_getElem? (i := 963) (by decide +kernel), List.mem_of_getElem? (i := 964) (by decide +kernel)⟩
theorem lw_p37 : lw_okq (⟨"MayMustModel", "isWord", "(IIII)Z"⟩, 25) := ⟨⟨by decide +kernel, by decide +kernel⟩, List.mem_of_getElem? (i := 850) (by decide +kernel), List.mem_of_getElem? (i := 967) (by decide +kernel), List.mem_of_getElem? (i := 968) (by decide +kernel)⟩
theorem lw_p38 : lw_okq (⟨"MayMustModel", "takes", "(Z)I"⟩, 25) := ⟨⟨by decide +kernel, by decide +kernel⟩, List.mem_of_getElem? (i := 850) (by decide +kernel), List.mem_of_getElem? (i := 971) (by decide +kernel), List.mem_of_getElem? (i := 972) (by decide +kernel)⟩
theorem lw_p39 : lw_okq (⟨"MayMustModel", "isWell", "()Z"⟩, 25) := ⟨⟨by decide +kernel, by decide +kernel⟩, List.mem_of_getElem? (i := 850) (by decide +kernel), List.mem_of_getElem? (i := 975) (by decide +kernel), List.mem_of_getElem? (i := 976) (by decide +kernel)⟩
theorem lw_p40 : lw_okq (⟨"MayMustModel", "isSign", "(I)Z"⟩, 25) := ⟨⟨by decide +kernel, by decide +kernel⟩, List.mem_of_getElem? (i := 850) (by decide +kernel), List.mem_of_getElem? (i := 979) (by decide +kernel), List.mem_of_getElem? (i := 980) (by decide +kernel)⟩
theorem lw_p41 : lw_okq (⟨"MayMustModel", "empties", "(II)V"⟩, 25) := ⟨⟨by decide +kernel, by decide +kernel⟩, List.mem_of_getElem? (i := 850) (by decide +kernel), List.mem_of_getElem? (i := 983) (by decide +kernel), List.mem_of_getElem? (i := 984) (by decide +kernel)⟩
theorem lw_p42 : lw_okq (⟨"MayMustModel", "copies", "(II)V"⟩, 25) := ⟨⟨by decide +kernel, by decide +kernel⟩, List.mem_of_getElem? (i := 850) (by decide +kernel), List.mem_of_getElem? (i := 990) (by decide +kernel), List.mem_of_getElem? (i := 991) (by decide +kernel)⟩
theorem lw_p43 : lw_okq (⟨"MayMustModel", "wantsUnit", "(Z)Z"⟩, 25) := ⟨⟨by decide +kernel, by decide +kernel⟩, List.mem_of_getElem? (i := 850) (by decide +kernel), List.mem_of_getElem? (i := 998) (by decide +kernel), List.mem_of_getElem? (i := 999) (by decide +kernel)⟩
theorem lw_p44 : lw_okq (⟨"MayMustModel", "unit", "()V"⟩, 25) := ⟨⟨by decide +kernel, by decide +kernel⟩, List.mem_of_getElem? (i := 850) (by decide +kernel), List.mem_of_getElem? (i := 1002) (by decide +kernel), List.mem_of_getElem? (i := 1003) (by decide +kernel)⟩
theorem lw_p45 : lw_okq (⟨"MayMustModel", "puts", "(I)V"⟩, 25) := ⟨⟨by decide +kernel, by decide +kernel⟩, List.mem_of_getElem? (i := 850) (by decide +kernel), List.mem_of_getElem? (i := 1006) (by decide +kernel), List.mem_of_getElem? (i := 1007) (by decide +kernel)⟩
theorem lw_p46 : lw_okq (⟨"MayMustModel", "settles", "()V"⟩, 25) := ⟨⟨by decide +kernel, by decide +kernel⟩, List.mem_of_getElem? (i := 850) (by decide +kernel), List.mem_of_getElem? (i := 1010) (by decide +kernel), List.mem_of_getElem? (i := 1011) (by decide +kernel)⟩
theorem lw_p47 : lw_okq (⟨"MayMustModel", "bracket", "()I"⟩, 25) := ⟨⟨by decide +kernel, by decide +kernel⟩, List.mem_of_getElem? (i := 850) (by decide +kernel), List.mem_of_getElem? (i := 1014) (by decide +kernel), List.mem_of_getElem? (i := 1015) (by decide +kernel)⟩
def lw_privs_3 : List (MethodName × Nat) := [(⟨"MayMust", "statesOfAll", "()I"⟩, 10), (⟨"MayMustModel", "begins", "()V"⟩, 25), (⟨"MayMustModel", "advances", "()V"⟩, 25), (⟨"MayMustModel", "byteAt", "(I)I"⟩, 25), (⟨"MayMustModel", "words", "(I)V"⟩, 25), (⟨"MayMustModel", "isWord", "(IIII)Z"⟩, 25), (⟨"MayMustModel", "takes", "(Z)I"⟩, 25), (⟨"MayMustModel", "isWell", "()Z"⟩, 25), (⟨"MayMustModel", "isSign", "(I)Z"⟩, 25), (⟨"MayMustModel", "empties", "(II)V"⟩, 25), (⟨"MayMustModel", "copies", "(II)V"⟩, 25), (⟨"MayMustModel", "wantsUnit", "(Z)Z"⟩, 25), (⟨"MayMustModel", "unit", "()V"⟩, 25), (⟨"MayMustModel", "puts", "(I)V"⟩, 25), (⟨"MayMustModel", "settles", "()V"⟩, 25), (⟨"MayMustModel", "bracket", "()I"⟩, 25)]
theorem lw_r3 : ∀ q ∈ lw_privs_3, lw_okq q := List.forall_mem_cons.mpr ⟨lw_p32, List.forall_mem_cons.mpr ⟨lw_p33, List.forall_mem_cons.mpr ⟨lw_p34, List.forall_mem_cons.mpr ⟨lw_p35, List.forall_mem_cons.mpr ⟨lw_p36, List.forall_mem_cons.mpr ⟨lw_p37, List.forall_mem_cons.mpr ⟨lw_p38, List.forall_mem_cons.mpr ⟨lw_p39, List.forall_mem_cons.mpr ⟨lw_p40, List.forall_mem_cons.mpr ⟨lw_p41, List.forall_mem_cons.mpr ⟨lw_p42, List.forall_mem_cons.mpr ⟨lw_p43, List.forall_mem_cons.mpr ⟨lw_p44, List.forall_mem_cons.mpr ⟨lw_p45, List.forall_mem_cons.mpr ⟨lw_p46, List.forall_mem_cons.mpr ⟨lw_p47, fun _ h => absurd h List.not_mem_nil⟩⟩⟩⟩⟩⟩⟩⟩⟩⟩⟩⟩⟩⟩⟩⟩
theorem lw_p48 : lw_okq (⟨"MayMustModel", "many", "(II)I"⟩, 25) := ⟨⟨by decide +kernel, by decide +kernel⟩, List.mem_of_getElem? (i := 850) (by decide +kernel), List.mem_of_getElem? (i := 1022) (by decide +kernel), List.mem_of_getElem? (i := 1023) (by decide +kernel)⟩
theorem lw_p49 : lw_okq (⟨"MayMustModel", "isState", "(II)Z"⟩, 25) := ⟨⟨by decide +kernel, by decide +kernel⟩, List.mem_of_getElem? (i := 850) (by decide +kernel), List.mem_of_getElem? (i := 1030) (by decide +kernel), List.mem_of_getElem? (i := 1031) (by decide +kernel)⟩
theorem lw_p50 : lw_okq (⟨"MayMustModel", "of", "(IIII)I"⟩, 25) := ⟨⟨by decide +kernel, by decide +kernel⟩, List.mem_of_getElem? (i := 850) (by decide +kernel), List.mem_of_getElem? (i := 1034) (by decide +kernel), List.mem_of_getElem? (i := 1035) (by decide +kernel)⟩
theorem lw_p51 : lw_okq (⟨"MayMustModel", "goes", "(II)V"⟩, 25) := ⟨⟨by decide +kernel, by decide +kernel⟩, List.mem_of_getElem? (i := 850) (by decide +kernel), List.mem_of_getElem? (i := 1046) (by decide +kernel), List.mem_of_getElem? (i := 1047) (by decide +kernel)⟩
theorem lw_p52 : lw_okq (⟨"MayMustModel", "why", "(IIIIII)I"⟩, 25) := ⟨⟨by decide +kernel, by decide +kernel⟩, List.mem_of_getElem? (i := 850) (by decide +kernel), List.mem_of_getElem? (i := 1050) (by decide +kernel), List.mem_of_getElem? (i := 1051) (by decide +kernel)⟩
theorem lw_p53 : lw_okq (⟨"MayMustModel", "isThere", "(III)Z"⟩, 25) := ⟨⟨by decide +kernel, by decide +kernel⟩, List.mem_of_getElem? (i := 850) (by decide +kernel), List.mem_of_getElem? (i := 1054) (by decide +kernel), List.mem_of_getElem? (i := 1055) (by decide +kernel)⟩
theorem lw_p54 : lw_okq (⟨"MayMustModel", "smalls", "(I)V"⟩, 25) := ⟨⟨by decide +kernel, by decide +kernel⟩, List.mem_of_getElem? (i := 850) (by decide +kernel), List.mem_of_getElem? (i := 1070) (by decide +kernel), List.mem_of_getElem? (i := 1071) (by decide +kernel)⟩
theorem lw_p55 : lw_okq (⟨"MayMustModel", "clash", "(II)V"⟩, 25) := ⟨⟨by decide +kernel, by decide +kernel⟩, List.mem_of_getElem? (i := 850) (by decide +kernel), List.mem_of_getElem? (i := 1078) (by decide +kernel), List.mem_of_getElem? (i := 1079) (by decide +kernel)⟩
theorem lw_p56 : lw_okq (⟨"MayMustModel", "isClash", "(IIIII)Z"⟩, 25) := ⟨⟨by decide +kernel, by decide +kernel⟩, List.mem_of_getElem? (i := 850) (by decide +kernel), List.mem_of_getElem? (i := 1082) (by decide +kernel), List.mem_of_getElem? (i := 1083) (by decide +kernel)⟩
theorem lw_p57 : lw_okq (⟨"MayMustModel", "values", "(I)V"⟩, 25) := ⟨⟨by decide +kernel, by decide +kernel⟩, List.mem_of_getElem? (i := 850) (by decide +kernel), List.mem_of_getElem? (i := 1090) (by decide +kernel), List.mem_of_getElem? (i := 1091) (by decide +kernel)⟩
theorem lw_p58 : lw_okq (⟨"MayMustModel", "goingTo", "(IIIZI)I"⟩, 25) := ⟨⟨by decide +kernel, by decide +kernel⟩, List.mem_of_getElem? (i := 850) (by decide +kernel), List.mem_of_getElem? (i := 1094) (by decide +kernel), List.mem_of_getElem? (i := 1095) (by decide +kernel)⟩
theorem lw_p59 : lw_okq (⟨"MayMustModel", "onward", "(I)I"⟩, 25) := ⟨⟨by decide +kernel, by decide +kernel⟩, List.mem_of_getElem? (i := 850) (by decide +kernel), List.mem_of_getElem? (i := 1110) (by decide +kernel), List.mem_of_getElem? (i := 1111) (by decide +kernel)⟩
theorem lw_p60 : lw_okq (⟨"MayMustModel", "isSure", "(I)Z"⟩, 25) := ⟨⟨by decide +kernel, by decide +kernel⟩, List.mem_of_getElem? (i := 850) (by decide +kernel), List.mem_of_getElem? (i := 1121) (by decide +kernel), List.mem_of_getElem? (i := 1122) (by decide +kernel)⟩
def lw_privs_4 : List (MethodName × Nat) := [(⟨"MayMustModel", "many", "(II)I"⟩, 25), (⟨"MayMustModel", "isState", "(II)Z"⟩, 25), (⟨"MayMustModel", "of", "(IIII)I"⟩, 25), (⟨"MayMustModel", "goes", "(II)V"⟩, 25), (⟨"MayMustModel", "why", "(IIIIII)I"⟩, 25), (⟨"MayMustModel", "isThere", "(III)Z"⟩, 25), (⟨"MayMustModel", "smalls", "(I)V"⟩, 25), (⟨"MayMustModel", "clash", "(II)V"⟩, 25), (⟨"MayMustModel", "isClash", "(IIIII)Z"⟩, 25), (⟨"MayMustModel", "values", "(I)V"⟩, 25), (⟨"MayMustModel", "goingTo", "(IIIZI)I"⟩, 25), (⟨"MayMustModel", "onward", "(I)I"⟩, 25), (⟨"MayMustModel", "isSure", "(I)Z"⟩, 25)]
theorem lw_r4 : ∀ q ∈ lw_privs_4, lw_okq q := List.forall_mem_cons.mpr ⟨lw_p48, List.forall_mem_cons.mpr ⟨lw_p49, List.forall_mem_cons.mpr ⟨lw_p50, List.forall_mem_cons.mpr ⟨lw_p51, List.forall_mem_cons.mpr ⟨lw_p52, List.forall_mem_cons.mpr ⟨lw_p53, List.forall_mem_cons.mpr ⟨lw_p54, List.forall_mem_cons.mpr ⟨lw_p55, List.forall_mem_cons.mpr ⟨lw_p56, List.forall_mem_cons.mpr ⟨lw_p57, List.forall_mem_cons.mpr ⟨lw_p58, List.forall_mem_cons.mpr ⟨lw_p59, List.forall_mem_cons.mpr ⟨lw_p60, fun _ h => absurd h List.not_mem_nil⟩⟩⟩⟩⟩⟩⟩⟩⟩⟩⟩⟩⟩
def lw_privs : List (MethodName × Nat) := lw_privs_1 ++ (lw_privs_2 ++ (lw_privs_3 ++ (lw_privs_4)))
def lw_tbl : List Cond := k2_sels lw_privs ++ tables_1
theorem lw_privs_ok : ∀ q ∈ lw_privs, lw_okq q := by
  show ∀ q ∈ lw_privs_1 ++ (lw_privs_2 ++ (lw_privs_3 ++ (lw_privs_4))), lw_okq q
  exact List.forall_mem_append.mpr ⟨lw_r1, List.forall_mem_append.mpr ⟨lw_r2, List.forall_mem_append.mpr ⟨lw_r3, lw_r4⟩⟩⟩
end
section
def RX0 : String := "MayMust$Joiner"
def TX0 : u_T := fun k => match k with
  | 0 => ("MayMust$Joiner", "pairs", "LMayMust$Pairs;", true)
  | 1 => ("MayMust$Joiner", "numbers", "[I", true)
  | 2 => ("MayMust$Joiner", "order", "[I", true)
  | _ => ("MayMust$Joiner", "size", "I", false)
def tyX0 : Nat → FieldType := fun k => match k with
  | 0 => .object "MayMust$Pairs"
  | 1 => .array .int
  | 2 => .array .int
  | _ => .int
abbrev wsX00 : List Cond := u_ws RX0 TX0 4
theorem nmX0 : ∀ a, a < 4 → ∀ b, b < 4 → a ≠ b → (TX0 a).2.1 ≠ (TX0 b).2.1 := by decide +kernel
theorem tyX0_ok : ∀ k, k < 4 → parseFieldDescriptor (TX0 k).2.2.1 = some (tyX0 k) := by decide +kernel
def RX1 : String := "MayMust$Pairs"
def TX1 : u_T := fun k => match k with
  | 0 => ("MayMust$Pairs", "ofLeft", "[I", true)
  | _ => ("MayMust$Pairs", "ofRight", "[I", true)
def tyX1 : Nat → FieldType := fun k => match k with
  | 0 => .array .int
  | _ => .array .int
abbrev wsX10 : List Cond := u_ws RX1 TX1 2
theorem nmX1 : ∀ a, a < 2 → ∀ b, b < 2 → a ≠ b → (TX1 a).2.1 ≠ (TX1 b).2.1 := by decide +kernel
theorem tyX1_ok : ∀ k, k < 2 → parseFieldDescriptor (TX1 k).2.2.1 = some (tyX1 k) := by decide +kernel
def RX2 : String := "MayMust$Plan"
def TX2 : u_T := fun k => match k with
  | 0 => ("MayMust$Plan", "size", "I", false)
  | 1 => ("MayMust$Plan", "any", "[I", true)
  | _ => ("MayMust$Plan", "must", "[I", true)
def tyX2 : Nat → FieldType := fun k => match k with
  | 0 => .int
  | 1 => .array .int
  | _ => .array .int
abbrev wsX20 : List Cond := u_ws RX2 TX2 3
theorem nmX2 : ∀ a, a < 3 → ∀ b, b < 3 → a ≠ b → (TX2 a).2.1 ≠ (TX2 b).2.1 := by decide +kernel
theorem tyX2_ok : ∀ k, k < 3 → parseFieldDescriptor (TX2 k).2.2.1 = some (tyX2 k) := by decide +kernel
def RX3 : String := "MayMust$Reader"
def TX3 : u_T := fun k => match k with
  | _ => ("MayMust$Reader", "tokens", "LMayMust$Tokens;", true)
def tyX3 : Nat → FieldType := fun k => match k with
  | _ => .object "MayMust$Tokens"
abbrev wsX30 : List Cond := u_ws RX3 TX3 1
theorem nmX3 : ∀ a, a < 1 → ∀ b, b < 1 → a ≠ b → (TX3 a).2.1 ≠ (TX3 b).2.1 := by decide +kernel
theorem tyX3_ok : ∀ k, k < 1 → parseFieldDescriptor (TX3 k).2.2.1 = some (tyX3 k) := by decide +kernel
def RX4 : String := "MayMust$Rounds"
def TX4 : u_T := fun k => match k with
  | 0 => ("MayMust$Rounds", "pairs", "LMayMust$Pairs;", true)
  | 1 => ("MayMust$Rounds", "went", "[I", true)
  | 2 => ("MayMust$Rounds", "whyLetter", "I", false)
  | _ => ("MayMust$Rounds", "whySide", "I", false)
def tyX4 : Nat → FieldType := fun k => match k with
  | 0 => .object "MayMust$Pairs"
  | 1 => .array .int
  | 2 => .int
  | _ => .int
abbrev wsX40 : List Cond := u_ws RX4 TX4 4
theorem nmX4 : ∀ a, a < 4 → ∀ b, b < 4 → a ≠ b → (TX4 a).2.1 ≠ (TX4 b).2.1 := by decide +kernel
theorem tyX4_ok : ∀ k, k < 4 → parseFieldDescriptor (TX4 k).2.2.1 = some (tyX4 k) := by decide +kernel
def RX5 : String := "MayMust$Saying"
def TX5 : u_T := fun k => match k with
  | 0 => ("MayMust$Saying", "steps", "[I", true)
  | 1 => ("MayMust$Saying", "size", "I", false)
  | 2 => ("MayMust$Saying", "bits", "I", false)
  | 3 => ("MayMust$Saying", "stack", "[I", true)
  | _ => ("MayMust$Saying", "height", "I", false)
def tyX5 : Nat → FieldType := fun k => match k with
  | 0 => .array .int
  | 1 => .int
  | 2 => .int
  | 3 => .array .int
  | _ => .int
abbrev wsX50 : List Cond := u_ws RX5 TX5 5
theorem nmX5 : ∀ a, a < 5 → ∀ b, b < 5 → a ≠ b → (TX5 a).2.1 ≠ (TX5 b).2.1 := by decide +kernel
theorem tyX5_ok : ∀ k, k < 5 → parseFieldDescriptor (TX5 k).2.2.1 = some (tyX5 k) := by decide +kernel
def RX6 : String := "MayMust$Shrinker"
def TX6 : u_T := fun k => match k with
  | _ => ("MayMust$Shrinker", "least", "[I", true)
def tyX6 : Nat → FieldType := fun k => match k with
  | _ => .array .int
abbrev wsX60 : List Cond := u_ws RX6 TX6 1
theorem nmX6 : ∀ a, a < 1 → ∀ b, b < 1 → a ≠ b → (TX6 a).2.1 ≠ (TX6 b).2.1 := by decide +kernel
theorem tyX6_ok : ∀ k, k < 1 → parseFieldDescriptor (TX6 k).2.2.1 = some (tyX6 k) := by decide +kernel
def RX7 : String := "MayMust$Text"
def TX7 : u_T := fun k => match k with
  | 0 => ("MayMust$Text", "bytes", "[I", true)
  | _ => ("MayMust$Text", "size", "I", false)
def tyX7 : Nat → FieldType := fun k => match k with
  | 0 => .array .int
  | _ => .int
abbrev wsX70 : List Cond := u_ws RX7 TX7 2
theorem nmX7 : ∀ a, a < 2 → ∀ b, b < 2 → a ≠ b → (TX7 a).2.1 ≠ (TX7 b).2.1 := by decide +kernel
theorem tyX7_ok : ∀ k, k < 2 → parseFieldDescriptor (TX7 k).2.2.1 = some (tyX7 k) := by decide +kernel
def RX8 : String := "MayMust$Tokens"
def TX8 : u_T := fun k => match k with
  | 0 => ("MayMust$Tokens", "kinds", "[I", true)
  | 1 => ("MayMust$Tokens", "places", "[I", true)
  | 2 => ("MayMust$Tokens", "worths", "[I", true)
  | 3 => ("MayMust$Tokens", "size", "I", false)
  | _ => ("MayMust$Tokens", "here", "I", false)
def tyX8 : Nat → FieldType := fun k => match k with
  | 0 => .array .int
  | 1 => .array .int
  | 2 => .array .int
  | 3 => .int
  | _ => .int
abbrev wsX80 : List Cond := u_ws RX8 TX8 5
theorem nmX8 : ∀ a, a < 5 → ∀ b, b < 5 → a ≠ b → (TX8 a).2.1 ≠ (TX8 b).2.1 := by decide +kernel
theorem tyX8_ok : ∀ k, k < 5 → parseFieldDescriptor (TX8 k).2.2.1 = some (tyX8 k) := by decide +kernel
def RX9 : String := "MayMust$Walker"
def TX9 : u_T := fun k => match k with
  | 0 => ("MayMust$Walker", "ground", "LMayMust$Plan;", true)
  | 1 => ("MayMust$Walker", "where", "I", false)
  | _ => ("MayMust$Walker", "gone", "I", false)
def tyX9 : Nat → FieldType := fun k => match k with
  | 0 => .object "MayMust$Plan"
  | 1 => .int
  | _ => .int
abbrev wsX90 : List Cond := u_ws RX9 TX9 3
theorem nmX9 : ∀ a, a < 3 → ∀ b, b < 3 → a ≠ b → (TX9 a).2.1 ≠ (TX9 b).2.1 := by decide +kernel
theorem tyX9_ok : ∀ k, k < 3 → parseFieldDescriptor (TX9 k).2.2.1 = some (tyX9 k) := by decide +kernel
def RX10 : String := "MayMust"
def TX10 : u_T := fun k => match k with
  | 0 => ("MayMust", "plans", "[LMayMust$Plan;", true)
  | 1 => ("MayMust", "draft", "LMayMust$Plan;", true)
  | 2 => ("MayMust", "text", "LMayMust$Text;", true)
  | 3 => ("MayMust", "reader", "LMayMust$Reader;", true)
  | 4 => ("MayMust", "saying", "LMayMust$Saying;", true)
  | 5 => ("MayMust", "draftSaying", "LMayMust$Saying;", true)
  | 6 => ("MayMust", "rounds", "LMayMust$Rounds;", true)
  | 7 => ("MayMust", "shrinker", "LMayMust$Shrinker;", true)
  | 8 => ("MayMust", "joiner", "LMayMust$Joiner;", true)
  | _ => ("MayMust", "walker", "LMayMust$Walker;", true)
def tyX10 : Nat → FieldType := fun k => match k with
  | 0 => .array (.object "MayMust$Plan")
  | 1 => .object "MayMust$Plan"
  | 2 => .object "MayMust$Text"
  | 3 => .object "MayMust$Reader"
  | 4 => .object "MayMust$Saying"
  | 5 => .object "MayMust$Saying"
  | 6 => .object "MayMust$Rounds"
  | 7 => .object "MayMust$Shrinker"
  | 8 => .object "MayMust$Joiner"
  | _ => .object "MayMust$Walker"
abbrev wsX100 : List Cond := u_ws RX10 TX10 10
theorem nmX10 : ∀ a, a < 10 → ∀ b, b < 10 → a ≠ b → (TX10 a).2.1 ≠ (TX10 b).2.1 := by decide +kernel
theorem tyX10_ok : ∀ k, k < 10 → parseFieldDescriptor (TX10 k).2.2.1 = some (tyX10 k) := by decide +kernel
def RX11 : String := "MayMustModel"
def TX11 : u_T := fun k => match k with
  | 0 => ("MayMustModel", "thrown", "I", false)
  | 1 => ("MayMustModel", "arrow", "[I", true)
  | 2 => ("MayMustModel", "size", "[I", true)
  | 3 => ("MayMustModel", "text", "[I", true)
  | 4 => ("MayMustModel", "typed", "I", false)
  | 5 => ("MayMustModel", "next", "I", false)
  | 6 => ("MayMustModel", "token", "I", false)
  | 7 => ("MayMustModel", "place", "I", false)
  | 8 => ("MayMustModel", "value", "I", false)
  | 9 => ("MayMustModel", "fault", "I", false)
  | 10 => ("MayMustModel", "post", "[I", true)
  | 11 => ("MayMustModel", "draft", "[I", true)
  | 12 => ("MayMustModel", "posts", "I", false)
  | 13 => ("MayMustModel", "draftMany", "I", false)
  | 14 => ("MayMustModel", "plains", "I", false)
  | 15 => ("MayMustModel", "draftPlains", "I", false)
  | 16 => ("MayMustModel", "signs", "[I", true)
  | 17 => ("MayMustModel", "signMany", "I", false)
  | 18 => ("MayMustModel", "open", "I", false)
  | 19 => ("MayMustModel", "stack", "[I", true)
  | 20 => ("MayMustModel", "went", "[I", true)
  | 21 => ("MayMustModel", "queue", "[I", true)
  | 22 => ("MayMustModel", "number", "[I", true)
  | 23 => ("MayMustModel", "could", "I", false)
  | _ => ("MayMustModel", "gone", "I", false)
def tyX11 : Nat → FieldType := fun k => match k with
  | 0 => .int
  | 1 => .array .int
  | 2 => .array .int
  | 3 => .array .int
  | 4 => .int
  | 5 => .int
  | 6 => .int
  | 7 => .int
  | 8 => .int
  | 9 => .int
  | 10 => .array .int
  | 11 => .array .int
  | 12 => .int
  | 13 => .int
  | 14 => .int
  | 15 => .int
  | 16 => .array .int
  | 17 => .int
  | 18 => .int
  | 19 => .array .int
  | 20 => .array .int
  | 21 => .array .int
  | 22 => .array .int
  | 23 => .int
  | _ => .int
abbrev wsX110 : List Cond := u_ws RX11 TX11 25
theorem nmX11 : ∀ a, a < 25 → ∀ b, b < 25 → a ≠ b → (TX11 a).2.1 ≠ (TX11 b).2.1 := by decide +kernel
theorem tyX11_ok : ∀ k, k < 25 → parseFieldDescriptor (TX11 k).2.2.1 = some (tyX11 k) := by decide +kernel
abbrev vwCl : List vw_C := [(RX0, TX0, 4), (RX1, TX1, 2), (RX2, TX2, 3), (RX3, TX3, 1), (RX4, TX4, 4), (RX5, TX5, 5), (RX6, TX6, 1), (RX7, TX7, 2), (RX8, TX8, 5), (RX9, TX9, 3), (RX10, TX10, 10), (RX11, TX11, 25)]
end
section
/-! ===== a small machine: its cells, its instructions, its runs (the machine itself is held against it in the parts behind) ===== -/
/-- a cell: an array (kind 0: int, made; 1: the bytes of a String constant; 2: the script), its length, its contents; or an object (number of its class, fields); 50: the array of plans; 60: a String constant -/
abbrev xa_C : Type := (Nat × Nat × (Nat → Int32)) ⊕ (Nat × List Value)
abbrev xa_H : Type := List xa_C
/-- pc, instruction, length, numbers that belong to it, its constant -/
abbrev xa_I : Type := Nat × Jvm.ClassFile.Instr × Nat × List Nat × Int32
/-- pc, locals (a float: unknown), stack, cells -/
abbrev xa_S : Type := Nat × List Value × List Value × xa_H
abbrev xa_R : Type := Option Value × xa_H
/-- a call: which method, its arguments, where it goes on -/
abbrev xa_K : Type := Nat × List Value × (Nat × List Value × List Value)
abbrev xa_O : Type := Option (xa_S ⊕ (xa_R ⊕ xa_K))
abbrev xa_M : Type := MethodName × ByteArray × Nat × Option FieldType × List xa_I
def xa_nx (pc : Nat) (ls st : List Value) (h : xa_H) : xa_O := some (.inl (pc, ls, st, h))
def xa_free (ls : List Value) (k : Nat) : Bool := match k with
  | 0 => Nat.blt 0 ls.length
  | j + 1 => Nat.blt (j + 1) ls.length && (match ls[j]? with
    | some (.long _) => false
    | _ => true)
def xa_c1 (v : Value) : Bool := match v with
  | .int _ => true
  | .ref _ => true
  | _ => false
/-- what only the stack sees -/
def xa_alu (i : Jvm.ClassFile.Instr) (a : List Nat) (cv : Int32) (st : List Value) : Option (List Value) := match i with
  | .iconst _ => some (.int cv :: st)
  | .bipush _ => some (.int cv :: st)
  | .sipush _ => some (.int cv :: st)
  | .ldc_w _ => some (.int cv :: st)
  | .ldc2_w _ => some (.long (Int64.ofNat (a.headD 0)) :: st)
  | .iadd => (match st with
    | .int y :: .int x :: r => some (.int (x + y) :: r)
    | _ => none)
  | .isub => (match st with
    | .int y :: .int x :: r => some (.int (x - y) :: r)
    | _ => none)
  | .imul => (match st with
    | .int y :: .int x :: r => some (.int (x * y) :: r)
    | _ => none)
  | .iand => (match st with
    | .int y :: .int x :: r => some (.int (x &&& y) :: r)
    | _ => none)
  | .ior => (match st with
    | .int y :: .int x :: r => some (.int (x ||| y) :: r)
    | _ => none)
  | .ixor => (match st with
    | .int y :: .int x :: r => some (.int (x ^^^ y) :: r)
    | _ => none)
  | .ishl => (match st with
    | .int y :: .int x :: r => some (.int (x <<< (y &&& 31)) :: r)
    | _ => none)
  | .ishr => (match st with
    | .int y :: .int x :: r => some (.int (x >>> (y &&& 31)) :: r)
    | _ => none)
  | .iushr => (match st with
    | .int y :: .int x :: r => some (.int (x.toUInt32 >>> (y.toUInt32 &&& Int32.toUInt32 31)).toInt32 :: r)
    | _ => none)
  | .idiv => (match st with
    | .int y :: .int x :: r => if y = 0 then none else some (.int (x / y) :: r)
    | _ => none)
  | .irem => (match st with
    | .int y :: .int x :: r => if y = 0 then none else some (.int (x - x / y * y) :: r)
    | _ => none)
  | .i2l => (match st with
    | .int x :: r => some (.long x.toInt64 :: r)
    | _ => none)
  | .l2i => (match st with
    | .long x :: r => some (.int x.toInt32 :: r)
    | _ => none)
  | .i2b => (match st with
    | .int x :: r => some (.int x.toInt8.toInt32 :: r)
    | _ => none)
  | .i2c => (match st with
    | .int x :: r => some (.int (x.toUInt32 % 65536).toInt32 :: r)
    | _ => none)
  | .land => (match st with
    | .long y :: .long x :: r => some (.long (x &&& y) :: r)
    | _ => none)
  | .lor => (match st with
    | .long y :: .long x :: r => some (.long (x ||| y) :: r)
    | _ => none)
  | .lshl => (match st with
    | .int y :: .long x :: r => some (.long (x <<< (y.toInt64 &&& 63)) :: r)
    | _ => none)
  | .lshr => (match st with
    | .int y :: .long x :: r => some (.long (x >>> (y.toInt64 &&& 63)) :: r)
    | _ => none)
  | .lushr => (match st with
    | .int y :: .long x :: r => some (.long (x.toUInt64 >>> (y.toInt64.toUInt64 &&& Int64.toUInt64 63)).toInt64 :: r)
    | _ => none)
  | .dup => (match st with
    | v :: r => if xa_c1 v = true then some (v :: v :: r) else none
    | _ => none)
  | .pop => (match st with
    | v :: r => if xa_c1 v = true then some r else none
    | _ => none)
  | .dup2 => (match st with
    | v :: w :: r => if xa_c1 v = true ∧ xa_c1 w = true then some (v :: w :: v :: w :: r) else none
    | _ => none)
  | _ => none
def xa_ldi (pc : Nat) (k : Nat) (ls st : List Value) (h : xa_H) : xa_O := match ls[k]? with
  | some (.int x) => xa_nx pc ls (.int x :: st) h
  | _ => none
def xa_ldl (pc : Nat) (k : Nat) (ls st : List Value) (h : xa_H) : xa_O := match ls[k]? with
  | some (.long x) => xa_nx pc ls (.long x :: st) h
  | _ => none
def xa_lda (pc : Nat) (k : Nat) (ls st : List Value) (h : xa_H) : xa_O := match ls[k]? with
  | some (.ref x) => xa_nx pc ls (.ref x :: st) h
  | _ => none
def xa_sti (pc : Nat) (k : Nat) (ls st : List Value) (h : xa_H) : xa_O := match st with
  | .int x :: r => if xa_free ls k = true then xa_nx pc (ls.set k (.int x)) r h else none
  | _ => none
def xa_sta (pc : Nat) (k : Nat) (ls st : List Value) (h : xa_H) : xa_O := match st with
  | .ref x :: r => if xa_free ls k = true then xa_nx pc (ls.set k (.ref x)) r h else none
  | _ => none
def xa_inc (pc : Nat) (k : Nat) (cv : Int32) (ls st : List Value) (h : xa_H) : xa_O := match ls[k]? with
  | some (.int x) => if xa_free ls k = true then xa_nx pc (ls.set k (.int (x + cv))) st h else none
  | _ => none
def xa_cmp (c : Jvm.ClassFile.Cond) (x y : Int32) : Bool := match c with
  | .eq => decide (x = y)
  | .ne => decide (¬ x = y)
  | .lt => decide (x < y)
  | .ge => decide (y ≤ x)
  | .gt => decide (y < x)
  | .le => decide (x ≤ y)
def xa_if1 (c : Jvm.ClassFile.Cond) (pc tgt : Nat) (ls st : List Value) (h : xa_H) : xa_O := match st with
  | .int x :: r => xa_nx (if xa_cmp c x 0 = true then tgt else pc) ls r h
  | _ => none
def xa_if2 (c : Jvm.ClassFile.Cond) (pc tgt : Nat) (ls st : List Value) (h : xa_H) : xa_O := match st with
  | .int y :: .int x :: r => xa_nx (if xa_cmp c x y = true then tgt else pc) ls r h
  | _ => none
def xa_sw (ts : List Nat) (ls st : List Value) (h : xa_H) : xa_O := match st with
  | .int x :: r => if x.toInt < 0 ∨ (ts.length : Int) - 2 < x.toInt then xa_nx (ts.getD 0 0) ls r h else xa_nx (ts.getD (x.toInt.toNat + 1) 0) ls r h
  | _ => none
def xa_getf (pc ci k : Nat) (ls st : List Value) (h : xa_H) : xa_O := match st with
  | .ref o :: r => (match h[o]? with
    | some (.inr (c, fs)) => if c = ci then (match fs[k]? with
      | some v => xa_nx pc ls (v :: r) h
      | none => none) else none
    | _ => none)
  | _ => none
def xa_kd (kd : Nat) (v : Value) : Bool := match v with
  | .int _ => Nat.beq kd 0
  | .ref _ => Nat.beq kd 1
  | _ => false
def xa_putf (pc ci k kd : Nat) (ls st : List Value) (h : xa_H) : xa_O := match st with
  | v :: .ref o :: r => (match h[o]? with
    | some (.inr (c, fs)) => if c = ci ∧ k < fs.length ∧ xa_kd kd v = true then xa_nx pc ls r (h.set o (.inr (c, fs.set k v))) else none
    | _ => none)
  | _ => none
def xa_iald (pc : Nat) (ls st : List Value) (h : xa_H) : xa_O := match st with
  | .int i :: .ref o :: r => (match h[o]? with
    | some (.inl (kd, n, f)) => if (kd = 0 ∨ kd = 2) ∧ ¬ (i < 0 ∨ n ≤ i.toNatClampNeg) then xa_nx pc ls (.int (f i.toNatClampNeg) :: r) h else none
    | _ => none)
  | _ => none
def xa_bald (pc : Nat) (ls st : List Value) (h : xa_H) : xa_O := match st with
  | .int i :: .ref o :: r => (match h[o]? with
    | some (.inl (kd, n, f)) => if kd = 1 ∧ ¬ (i < 0 ∨ n ≤ i.toNatClampNeg) then xa_nx pc ls (.int (f i.toNatClampNeg) :: r) h else none
    | _ => none)
  | _ => none
def xa_iast (pc : Nat) (ls st : List Value) (h : xa_H) : xa_O := match st with
  | .int x :: .int i :: .ref o :: r => (match h[o]? with
    | some (.inl (kd, n, f)) => if kd = 0 ∧ ¬ (i < 0 ∨ n ≤ i.toNatClampNeg) then xa_nx pc ls r (h.set o (.inl (kd, n, upd f i.toNatClampNeg x))) else none
    | _ => none)
  | _ => none
def xa_alen (pc : Nat) (ls st : List Value) (h : xa_H) : xa_O := match st with
  | .ref o :: r => (match h[o]? with
    | some (.inl (_, n, _)) => xa_nx pc ls (.int (nI n) :: r) h
    | _ => none)
  | _ => none
def xa_newa (pc : Nat) (ls st : List Value) (h : xa_H) : xa_O := match st with
  | .int n :: r => if ¬ n < 0 ∧ n.toNatClampNeg ≤ 1000 then xa_nx pc ls (.ref h.length :: r) (h ++ [.inl (0, n.toNatClampNeg, fun _ => 0)]) else none
  | _ => none
def xa_newq (pc : Nat) (ls st : List Value) (h : xa_H) : xa_O := match st with
  | .int n :: r => if ¬ n < 0 ∧ n.toNatClampNeg ≤ 1000 then xa_nx pc ls (.ref h.length :: r) (h ++ [.inr (50, List.replicate n.toNatClampNeg .null)]) else none
  | _ => none
def xa_aald (pc : Nat) (ls st : List Value) (h : xa_H) : xa_O := match st with
  | .int i :: .ref o :: r => (match h[o]? with
    | some (.inr (c, fs)) => if c = 50 ∧ ¬ i < 0 then (match fs[i.toNatClampNeg]? with
      | some (.ref q) => xa_nx pc ls (.ref q :: r) h
      | _ => none) else none
    | _ => none)
  | _ => none
def xa_aast (pc : Nat) (ls st : List Value) (h : xa_H) : xa_O := match st with
  | .ref v :: .int i :: .ref o :: r => (match h[o]?, h[v]? with
    | some (.inr (c, fs)), some (.inr (c2, _)) => if (c = 50 ∧ c2 = 2) ∧ ¬ i < 0 ∧ i.toNatClampNeg < fs.length then xa_nx pc ls r (h.set o (.inr (c, fs.set i.toNatClampNeg (.ref v)))) else none
    | _, _ => none)
  | _ => none
/-- the fields of a new object, by its class -/
def xa_df (ci : Nat) : List Value := match ci with
  | 0 => [.null, .null, .null, .int 0]
  | 1 => [.null, .null]
  | 2 => [.int 0, .null, .null]
  | 3 => [.null]
  | 4 => [.null, .null, .int 0, .int 0]
  | 5 => [.null, .int 0, .int 0, .null, .int 0]
  | 6 => [.null]
  | 7 => [.null, .int 0]
  | 8 => [.null, .null, .null, .int 0, .int 0]
  | 9 => [.null, .int 0, .int 0]
  | 10 => [.null, .null, .null, .null, .null, .null, .null, .null, .null, .null]
  | 11 => [.int 0, .null, .null, .null, .int 0, .int 0, .int 0, .int 0, .int 0, .int 0, .null, .null, .int 0, .int 0, .int 0, .int 0, .null, .int 0, .int 0, .null, .null, .null, .null, .int 0, .int 0]
  | _ => []
def xa_new (pc ci : Nat) (ls st : List Value) (h : xa_H) : xa_O := xa_nx pc ls (.ref h.length :: st) (h ++ [.inr (ci, xa_df ci)])
def xa_gets (pc which : Nat) (ls st : List Value) (h : xa_H) : xa_O := match which with
  | 0 => xa_nx pc ls (.int 1 :: st) h
  | _ => xa_nx pc ls (.retAddr 0 :: st) h
def xa_ldc (pc which : Nat) (cv : Int32) (ls st : List Value) (h : xa_H) : xa_O := match which with
  | 0 => xa_nx pc ls (.int cv :: st) h
  | k + 1 => xa_nx pc ls (.ref (k + 1) :: st) h
def xa_room (r : List Value) : Bool := Nat.ble (r.map fun v => v.category).sum 8
def xa_call (pc mi n : Nat) (ls st : List Value) : xa_O := if Nat.ble n st.length = true ∧ xa_room (st.drop n) = true then some (.inr (.inr (mi, (st.take n).reverse, (pc, ls, st.drop n)))) else none
def xa_vcall (pc mi n ci : Nat) (ls st : List Value) (h : xa_H) : xa_O := match st[n]? with
  | some (.ref o) => (match h[o]? with
    | some (.inr (c, _)) => if c = ci then xa_call pc mi (n + 1) ls st else none
    | _ => none)
  | _ => none
def xa_icall (pc mi n : Nat) (ls st : List Value) : xa_O := match st[n]? with
  | some (.ref _) => xa_call pc mi (n + 1) ls st
  | _ => none
def xa_oinit (pc : Nat) (ls st : List Value) (h : xa_H) : xa_O := match st with
  | .ref _ :: r => if xa_room r = true then xa_nx pc ls r h else none
  | _ => none
def xa_copy (pc : Nat) (ls st : List Value) (h : xa_H) : xa_O := match st with
  | .int n :: .int dp :: .ref a :: .int sp :: .ref b :: r => (match h[b]?, h[a]? with
    | some (.inl (k0, n0, f)), some (.inl (k1, n1, g)) => if (k0 = 0 ∧ k1 = 0) ∧ (¬ sp < 0 ∧ ¬ dp < 0 ∧ ¬ n < 0) ∧ sp.toNatClampNeg + n.toNatClampNeg ≤ n0 ∧ dp.toNatClampNeg + n.toNatClampNeg ≤ n1 ∧ xa_room r = true then xa_nx pc ls r (h.set a (.inl (k1, n1, va_cpy f g sp.toNatClampNeg dp.toNatClampNeg n.toNatClampNeg))) else none
    | _, _ => none)
  | _ => none
def xa_max (pc : Nat) (ls st : List Value) (h : xa_H) : xa_O := match st with
  | .int y :: .int x :: r => if xa_room r = true then xa_nx pc ls (.int (if x < y then y else x) :: r) h else none
  | _ => none
def xa_min (pc : Nat) (ls st : List Value) (h : xa_H) : xa_O := match st with
  | .int y :: .int x :: r => if xa_room r = true then xa_nx pc ls (.int (if y < x then y else x) :: r) h else none
  | _ => none
/-- which ints a method may answer: 0 any, 1 booleans, 2 chars, 3 bytes -/
def xa_rok (k : Nat) (v : Int32) : Prop := match k with
  | 0 => True
  | 1 => v = 0 ∨ v = 1
  | 2 => (v.toUInt32 % 65536).toInt32 = v
  | _ => v.toInt8.toInt32 = v
/-- the step of one instruction; an answer of a kind is looked at where it is used -/
def xa_step (i : Jvm.ClassFile.Instr) (len : Nat) (a : List Nat) (cv : Int32) (pc : Nat) (ls st : List Value) (h : xa_H) : xa_O := match i with
  | .iload _ => xa_ldi (pc + len) (a.getD 0 0) ls st h
  | .iload_n _ => xa_ldi (pc + len) (a.getD 0 0) ls st h
  | .lload_n _ => xa_ldl (pc + len) (a.getD 0 0) ls st h
  | .aload _ => xa_lda (pc + len) (a.getD 0 0) ls st h
  | .aload_n _ => xa_lda (pc + len) (a.getD 0 0) ls st h
  | .istore _ => xa_sti (pc + len) (a.getD 0 0) ls st h
  | .istore_n _ => xa_sti (pc + len) (a.getD 0 0) ls st h
  | .astore_n _ => xa_sta (pc + len) (a.getD 0 0) ls st h
  | .iinc _ _ => xa_inc (pc + len) (a.getD 0 0) cv ls st h
  | .goto _ => xa_nx (a.getD 0 0) ls st h
  | .ifCond c _ => xa_if1 c (pc + len) (a.getD 0 0) ls st h
  | .if_icmp c _ => xa_if2 c (pc + len) (a.getD 0 0) ls st h
  | .tableswitch _ _ _ _ => xa_sw a ls st h
  | .getfield _ => xa_getf (pc + len) (a.getD 0 0) (a.getD 1 0) ls st h
  | .putfield _ => xa_putf (pc + len) (a.getD 0 0) (a.getD 1 0) (a.getD 2 0) ls st h
  | .iaload => xa_iald (pc + len) ls st h
  | .baload => xa_bald (pc + len) ls st h
  | .iastore => xa_iast (pc + len) ls st h
  | .arraylength => xa_alen (pc + len) ls st h
  | .newarray _ => xa_newa (pc + len) ls st h
  | .anewarray _ => xa_newq (pc + len) ls st h
  | .aaload => xa_aald (pc + len) ls st h
  | .aastore => xa_aast (pc + len) ls st h
  | .new _ => xa_new (pc + len) (a.getD 0 0) ls st h
  | .getstatic _ => xa_gets (pc + len) (a.getD 0 0) ls st h
  | .ldc _ => xa_ldc (pc + len) (a.getD 0 0) cv ls st h
  | .invokestatic _ => (match a.getD 0 0 with
    | 2 => xa_copy (pc + len) ls st h
    | 3 => xa_max (pc + len) ls st h
    | 4 => xa_min (pc + len) ls st h
    | _ => xa_call (pc + len) (a.getD 1 0) (a.getD 2 0) ls st)
  | .invokevirtual _ => xa_vcall (pc + len) (a.getD 1 0) (a.getD 2 0) (a.getD 3 0) ls st h
  | .invokespecial _ => (match a.getD 0 0 with
    | 9 => xa_oinit (pc + len) ls st h
    | _ => xa_icall (pc + len) (a.getD 1 0) (a.getD 2 0) ls st)
  | .ireturn => (match st with
    | [.int v] => some (.inr (.inl (some (.int v), h)))
    | _ => none)
  | .return_ => (match st with
    | [] => some (.inr (.inl (none, h)))
    | _ => none)
  | i => (match xa_alu i a cv st with
    | some st' => xa_nx (pc + len) ls st' h
    | none => none)
def xa_lk (tb : List xa_I) (pc : Nat) : Option (Jvm.ClassFile.Instr × Nat × List Nat × Int32) := match tb with
  | [] => none
  | e :: es => bif Nat.beq e.1 pc then some e.2 else xa_lk es pc
/-- which answers a return allows: by the instruction's number -/
def xa_fine (i : Jvm.ClassFile.Instr) (a : List Nat) (r : Option Value) : Prop := match i, r with
  | .ireturn, some (.int v) => xa_rok (a.getD 0 0) v
  | _, _ => True
/-- n instructions lead from a state to an answer; calls by a relation -/
def xa_ev (C : Nat → List Value → xa_H → Option Value → xa_H → Prop) (tb : List xa_I) : Nat → xa_S → xa_R → Prop
  | 0, _, _ => False
  | n + 1, (pc, ls, st, h), q => match xa_lk tb pc with
    | none => False
    | some (i, len, a, cv) => match xa_step i len a cv pc ls st h with
      | none => False
      | some (.inl s') => xa_ev C tb n s' q
      | some (.inr (.inl r)) => xa_fine i a r.1 ∧ q = r
      | some (.inr (.inr (mi, as, (pc', ls', st')))) => ∃ (r : Option Value) (h' : xa_H), C mi as h r h' ∧ xa_ev C tb n (pc', ls', r.toList ++ st', h') q
/-- a method's locals at its entry -/
def xa_en (as : List Value) (n : Nat) : List Value :=
  let l := as.flatMap fun v => match v with
    | .long x => [.long x, .float 0]
    | v => [v]
  l ++ List.replicate (n - l.length) (.float 0)
def xa_rn (ms : List xa_M) : Nat → Nat → List Value → xa_H → Option Value → xa_H → Prop
  | 0 => fun _ _ _ _ _ => False
  | d + 1 => fun mi as h r h' => ∃ (M : xa_M) (n : Nat), ms[mi]? = some M ∧ xa_ev (xa_rn ms d) M.2.2.2.2 n (0, xa_en as M.2.2.1, [], h) (r, h')
end
