section
-- ===== PART A: goes FIRST, ahead of the names: the tables' words, and 'selects' of the private methods out of them =====
/-- a private method of a class that the tables say can be made, by its rows of tables_1 -/
def lw_okq (q : MethodName × Nat) : Prop := (q.1.cls ≠ "java/lang/invoke/MethodHandle" ∧ q.1.cls ≠ "java/lang/invoke/VarHandle") ∧ Cond.instantiable q.1.cls q.2 ∈ tables_1 ∧ Cond.privateMethod q.1 ∈ tables_1 ∧ Cond.instanceMethod q.1 ∈ tables_1
theorem lw_p0 : lw_okq (⟨"MayMust$Tokens", "cut", "(LMayMust$Text;I)I"⟩, 5) := ⟨⟨by decide +kernel, by decide +kernel⟩, List.mem_of_getElem? (i := 68) (by decide +kernel), List.mem_of_getElem? (i := 272) (by decide +kernel), List.mem_of_getElem? (i := 273) (by decide +kernel)⟩
theorem lw_p1 : lw_okq (⟨"MayMust$Tokens", "cutNumber", "(LMayMust$Text;I)I"⟩, 5) := ⟨⟨by decide +kernel, by decide +kernel⟩, List.mem_of_getElem? (i := 68) (by decide +kernel), List.mem_of_getElem? (i := 279) (by decide +kernel), List.mem_of_getElem? (i := 280) (by decide +kernel)⟩
theorem lw_p2 : lw_okq (⟨"MayMust$Tokens", "keep", "(III)V"⟩, 5) := ⟨⟨by decide +kernel, by decide +kernel⟩, List.mem_of_getElem? (i := 68) (by decide +kernel), List.mem_of_getElem? (i := 286) (by decide +kernel), List.mem_of_getElem? (i := 287) (by decide +kernel)⟩
theorem lw_p3 : lw_okq (⟨"MayMust$Tokens", "cutWord", "(LMayMust$Text;I)I"⟩, 5) := ⟨⟨by decide +kernel, by decide +kernel⟩, List.mem_of_getElem? (i := 68) (by decide +kernel), List.mem_of_getElem? (i := 293) (by decide +kernel), List.mem_of_getElem? (i := 294) (by decide +kernel)⟩
theorem lw_p4 : lw_okq (⟨"MayMust$Reader", "readHead", "(LMayMust$Plan;)Z"⟩, 1) := ⟨⟨by decide +kernel, by decide +kernel⟩, List.mem_of_getElem? (i := 62) (by decide +kernel), List.mem_of_getElem? (i := 414) (by decide +kernel), List.mem_of_getElem? (i := 415) (by decide +kernel)⟩
theorem lw_p5 : lw_okq (⟨"MayMust$Reader", "readItem", "(LMayMust$Plan;)Z"⟩, 1) := ⟨⟨by decide +kernel, by decide +kernel⟩, List.mem_of_getElem? (i := 62) (by decide +kernel), List.mem_of_getElem? (i := 452) (by decide +kernel), List.mem_of_getElem? (i := 453) (by decide +kernel)⟩
theorem lw_p6 : lw_okq (⟨"MayMust$Reader", "readBoths", "(LMayMust$Saying;I)Z"⟩, 1) := ⟨⟨by decide +kernel, by decide +kernel⟩, List.mem_of_getElem? (i := 62) (by decide +kernel), List.mem_of_getElem? (i := 487) (by decide +kernel), List.mem_of_getElem? (i := 488) (by decide +kernel)⟩
theorem lw_p7 : lw_okq (⟨"MayMust$Reader", "readBoth", "(LMayMust$Saying;I)Z"⟩, 1) := ⟨⟨by decide +kernel, by decide +kernel⟩, List.mem_of_getElem? (i := 62) (by decide +kernel), List.mem_of_getElem? (i := 491) (by decide +kernel), List.mem_of_getElem? (i := 492) (by decide +kernel)⟩
theorem lw_p8 : lw_okq (⟨"MayMust$Reader", "readUnit", "(LMayMust$Saying;I)Z"⟩, 1) := ⟨⟨by decide +kernel, by decide +kernel⟩, List.mem_of_getElem? (i := 62) (by decide +kernel), List.mem_of_getElem? (i := 495) (by decide +kernel), List.mem_of_getElem? (i := 496) (by decide +kernel)⟩
theorem lw_p9 : lw_okq (⟨"MayMust$Reader", "readBit", "(LMayMust$Saying;)Z"⟩, 1) := ⟨⟨by decide +kernel, by decide +kernel⟩, List.mem_of_getElem? (i := 62) (by decide +kernel), List.mem_of_getElem? (i := 499) (by decide +kernel), List.mem_of_getElem? (i := 500) (by decide +kernel)⟩
theorem lw_p10 : lw_okq (⟨"MayMust$Reader", "readNot", "(LMayMust$Saying;I)Z"⟩, 1) := ⟨⟨by decide +kernel, by decide +kernel⟩, List.mem_of_getElem? (i := 62) (by decide +kernel), List.mem_of_getElem? (i := 508) (by decide +kernel), List.mem_of_getElem? (i := 509) (by decide +kernel)⟩
theorem lw_p11 : lw_okq (⟨"MayMust$Reader", "readArrow", "(LMayMust$Saying;III)Z"⟩, 1) := ⟨⟨by decide +kernel, by decide +kernel⟩, List.mem_of_getElem? (i := 62) (by decide +kernel), List.mem_of_getElem? (i := 512) (by decide +kernel), List.mem_of_getElem? (i := 513) (by decide +kernel)⟩
theorem lw_p12 : lw_okq (⟨"MayMust", "noArrow", "(IIII)Z"⟩, 10) := ⟨⟨by decide +kernel, by decide +kernel⟩, List.mem_of_getElem? (i := 23) (by decide +kernel), List.mem_of_getElem? (i := 547) (by decide +kernel), List.mem_of_getElem? (i := 548) (by decide +kernel)⟩
theorem lw_p13 : lw_okq (⟨"MayMust", "noState", "(II)Z"⟩, 10) := ⟨⟨by decide +kernel, by decide +kernel⟩, List.mem_of_getElem? (i := 23) (by decide +kernel), List.mem_of_getElem? (i := 551) (by decide +kernel), List.mem_of_getElem? (i := 552) (by decide +kernel)⟩
theorem lw_p14 : lw_okq (⟨"MayMust$Rounds", "playOne", "(LMayMust$Plan;LMayMust$Plan;I)Z"⟩, 4) := ⟨⟨by decide +kernel, by decide +kernel⟩, List.mem_of_getElem? (i := 120) (by decide +kernel), List.mem_of_getElem? (i := 596) (by decide +kernel), List.mem_of_getElem? (i := 597) (by decide +kernel)⟩
theorem lw_p15 : lw_okq (⟨"MayMust$Rounds", "hasToGo", "(LMayMust$Plan;LMayMust$Plan;II)Z"⟩, 4) := ⟨⟨by decide +kernel, by decide +kernel⟩, List.mem_of_getElem? (i := 120) (by decide +kernel), List.mem_of_getElem? (i := 608) (by decide +kernel), List.mem_of_getElem? (i := 609) (by decide +kernel)⟩
def lw_privs_1 : List (MethodName × Nat) := [(⟨"MayMust$Tokens", "cut", "(LMayMust$Text;I)I"⟩, 5), (⟨"MayMust$Tokens", "cutNumber", "(LMayMust$Text;I)I"⟩, 5), (⟨"MayMust$Tokens", "keep", "(III)V"⟩, 5), (⟨"MayMust$Tokens", "cutWord", "(LMayMust$Text;I)I"⟩, 5), (⟨"MayMust$Reader", "readHead", "(LMayMust$Plan;)Z"⟩, 1), (⟨"MayMust$Reader", "readItem", "(LMayMust$Plan;)Z"⟩, 1), (⟨"MayMust$Reader", "readBoths", "(LMayMust$Saying;I)Z"⟩, 1), (⟨"MayMust$Reader", "readBoth", "(LMayMust$Saying;I)Z"⟩, 1), (⟨"MayMust$Reader", "readUnit", "(LMayMust$Saying;I)Z"⟩, 1), (⟨"MayMust$Reader", "readBit", "(LMayMust$Saying;)Z"⟩, 1), (⟨"MayMust$Reader", "readNot", "(LMayMust$Saying;I)Z"⟩, 1), (⟨"MayMust$Reader", "readArrow", "(LMayMust$Saying;III)Z"⟩, 1), (⟨"MayMust", "noArrow", "(IIII)Z"⟩, 10), (⟨"MayMust", "noState", "(II)Z"⟩, 10), (⟨"MayMust$Rounds", "playOne", "(LMayMust$Plan;LMayMust$Plan;I)Z"⟩, 4), (⟨"MayMust$Rounds", "hasToGo", "(LMayMust$Plan;LMayMust$Plan;II)Z"⟩, 4)]
theorem lw_r1 : ∀ q ∈ lw_privs_1, lw_okq q := List.forall_mem_cons.mpr ⟨lw_p0, List.forall_mem_cons.mpr ⟨lw_p1, List.forall_mem_cons.mpr ⟨lw_p2, List.forall_mem_cons.mpr ⟨lw_p3, List.forall_mem_cons.mpr ⟨lw_p4, List.forall_mem_cons.mpr ⟨lw_p5, List.forall_mem_cons.mpr ⟨lw_p6, List.forall_mem_cons.mpr ⟨lw_p7, List.forall_mem_cons.mpr ⟨lw_p8, List.forall_mem_cons.mpr ⟨lw_p9, List.forall_mem_cons.mpr ⟨lw_p10, List.forall_mem_cons.mpr ⟨lw_p11, List.forall_mem_cons.mpr ⟨lw_p12, List.forall_mem_cons.mpr ⟨lw_p13, List.forall_mem_cons.mpr ⟨lw_p14, List.forall_mem_cons.mpr ⟨lw_p15, fun _ h => absurd h List.not_mem_nil⟩⟩⟩⟩⟩⟩⟩⟩⟩⟩⟩⟩⟩⟩⟩⟩
theorem lw_p16 : lw_okq (⟨"MayMust$Rounds", "sideOf", "(LMayMust$Plan;LMayMust$Plan;III)I"⟩, 4) := ⟨⟨by decide +kernel, by decide +kernel⟩, List.mem_of_getElem? (i := 120) (by decide +kernel), List.mem_of_getElem? (i := 612) (by decide +kernel), List.mem_of_getElem? (i := 613) (by decide +kernel)⟩
theorem lw_p17 : lw_okq (⟨"MayMust$Rounds", "dropThoseOf", "(I)V"⟩, 4) := ⟨⟨by decide +kernel, by decide +kernel⟩, List.mem_of_getElem? (i := 120) (by decide +kernel), List.mem_of_getElem? (i := 629) (by decide +kernel), List.mem_of_getElem? (i := 630) (by decide +kernel)⟩
theorem lw_p18 : lw_okq (⟨"MayMust$Shrinker", "findLeast", "(LMayMust$Plan;LMayMust$Rounds;)V"⟩, 1) := ⟨⟨by decide +kernel, by decide +kernel⟩, List.mem_of_getElem? (i := 152) (by decide +kernel), List.mem_of_getElem? (i := 665) (by decide +kernel), List.mem_of_getElem? (i := 666) (by decide +kernel)⟩
theorem lw_p19 : lw_okq (⟨"MayMust$Shrinker", "reachedIn", "(LMayMust$Plan;)I"⟩, 1) := ⟨⟨by decide +kernel, by decide +kernel⟩, List.mem_of_getElem? (i := 152) (by decide +kernel), List.mem_of_getElem? (i := 675) (by decide +kernel), List.mem_of_getElem? (i := 676) (by decide +kernel)⟩
theorem lw_p20 : lw_okq (⟨"MayMust$Shrinker", "nextOf", "(LMayMust$Plan;I)I"⟩, 1) := ⟨⟨by decide +kernel, by decide +kernel⟩, List.mem_of_getElem? (i := 152) (by decide +kernel), List.mem_of_getElem? (i := 680) (by decide +kernel), List.mem_of_getElem? (i := 681) (by decide +kernel)⟩
theorem lw_p21 : lw_okq (⟨"MayMust$Shrinker", "carryArrows", "(LMayMust$Plan;IILMayMust$Plan;)V"⟩, 1) := ⟨⟨by decide +kernel, by decide +kernel⟩, List.mem_of_getElem? (i := 152) (by decide +kernel), List.mem_of_getElem? (i := 687) (by decide +kernel), List.mem_of_getElem? (i := 688) (by decide +kernel)⟩
theorem lw_p22 : lw_okq (⟨"MayMust$Joiner", "dropClashes", "(LMayMust$Plan;LMayMust$Plan;)V"⟩, 4) := ⟨⟨by decide +kernel, by decide +kernel⟩, List.mem_of_getElem? (i := 162) (by decide +kernel), List.mem_of_getElem? (i := 710) (by decide +kernel), List.mem_of_getElem? (i := 711) (by decide +kernel)⟩
theorem lw_p23 : lw_okq (⟨"MayMust$Joiner", "dropSome", "(LMayMust$Plan;LMayMust$Plan;)Z"⟩, 4) := ⟨⟨by decide +kernel, by decide +kernel⟩, List.mem_of_getElem? (i := 162) (by decide +kernel), List.mem_of_getElem? (i := 714) (by decide +kernel), List.mem_of_getElem? (i := 715) (by decide +kernel)⟩
theorem lw_p24 : lw_okq (⟨"MayMust$Joiner", "clashes", "(LMayMust$Plan;LMayMust$Plan;II)Z"⟩, 4) := ⟨⟨by decide +kernel, by decide +kernel⟩, List.mem_of_getElem? (i := 162) (by decide +kernel), List.mem_of_getElem? (i := 719) (by decide +kernel), List.mem_of_getElem? (i := 720) (by decide +kernel)⟩
theorem lw_p25 : lw_okq (⟨"MayMust$Joiner", "numberOf", "(II)I"⟩, 4) := ⟨⟨by decide +kernel, by decide +kernel⟩, List.mem_of_getElem? (i := 162) (by decide +kernel), List.mem_of_getElem? (i := 729) (by decide +kernel), List.mem_of_getElem? (i := 730) (by decide +kernel)⟩
theorem lw_p26 : lw_okq (⟨"MayMust$Joiner", "spread", "(LMayMust$Plan;LMayMust$Plan;ZILMayMust$Plan;)Z"⟩, 4) := ⟨⟨by decide +kernel, by decide +kernel⟩, List.mem_of_getElem? (i := 162) (by decide +kernel), List.mem_of_getElem? (i := 734) (by decide +kernel), List.mem_of_getElem? (i := 735) (by decide +kernel)⟩
theorem lw_p27 : lw_okq (⟨"MayMust$Saying", "valuesOf", "(ILMayMust$Plan;)I"⟩, 5) := ⟨⟨by decide +kernel, by decide +kernel⟩, List.mem_of_getElem? (i := 94) (by decide +kernel), List.mem_of_getElem? (i := 754) (by decide +kernel), List.mem_of_getElem? (i := 755) (by decide +kernel)⟩
theorem lw_p28 : lw_okq (⟨"MayMust$Saying", "pop", "()I"⟩, 5) := ⟨⟨by decide +kernel, by decide +kernel⟩, List.mem_of_getElem? (i := 94) (by decide +kernel), List.mem_of_getElem? (i := 761) (by decide +kernel), List.mem_of_getElem? (i := 762) (by decide +kernel)⟩
theorem lw_p29 : lw_okq (⟨"MayMust$Saying", "push", "(I)V"⟩, 5) := ⟨⟨by decide +kernel, by decide +kernel⟩, List.mem_of_getElem? (i := 94) (by decide +kernel), List.mem_of_getElem? (i := 780) (by decide +kernel), List.mem_of_getElem? (i := 781) (by decide +kernel)⟩
theorem lw_p30 : lw_okq (⟨"MayMust$Walker", "nextBy", "(I)I"⟩, 3) := ⟨⟨by decide +kernel, by decide +kernel⟩, List.mem_of_getElem? (i := 183) (by decide +kernel), List.mem_of_getElem? (i := 809) (by decide +kernel), List.mem_of_getElem? (i := 810) (by decide +kernel)⟩
theorem lw_p31 : lw_okq (⟨"MayMust$Walker", "isInAll", "(I)Z"⟩, 3) := ⟨⟨by decide +kernel, by decide +kernel⟩, List.mem_of_getElem? (i := 183) (by decide +kernel), List.mem_of_getElem? (i := 832) (by decide +kernel), List.mem_of_getElem? (i := 833) (by decide +kernel)⟩
def lw_privs_2 : List (MethodName × Nat) := [(⟨"MayMust$Rounds", "sideOf", "(LMayMust$Plan;LMayMust$Plan;III)I"⟩, 4), (⟨"MayMust$Rounds", "dropThoseOf", "(I)V"⟩, 4), (⟨"MayMust$Shrinker", "findLeast", "(LMayMust$Plan;LMayMust$Rounds;)V"⟩, 1), (⟨"MayMust$Shrinker", "reachedIn", "(LMayMust$Plan;)I"⟩, 1), (⟨"MayMust$Shrinker", "nextOf", "(LMayMust$Plan;I)I"⟩, 1), (⟨"MayMust$Shrinker", "carryArrows", "(LMayMust$Plan;IILMayMust$Plan;)V"⟩, 1), (⟨"MayMust$Joiner", "dropClashes", "(LMayMust$Plan;LMayMust$Plan;)V"⟩, 4), (⟨"MayMust$Joiner", "dropSome", "(LMayMust$Plan;LMayMust$Plan;)Z"⟩, 4), (⟨"MayMust$Joiner", "clashes", "(LMayMust$Plan;LMayMust$Plan;II)Z"⟩, 4), (⟨"MayMust$Joiner", "numberOf", "(II)I"⟩, 4), (⟨"MayMust$Joiner", "spread", "(LMayMust$Plan;LMayMust$Plan;ZILMayMust$Plan;)Z"⟩, 4), (⟨"MayMust$Saying", "valuesOf", "(ILMayMust$Plan;)I"⟩, 5), (⟨"MayMust$Saying", "pop", "()I"⟩, 5), (⟨"MayMust$Saying", "push", "(I)V"⟩, 5), (⟨"MayMust$Walker", "nextBy", "(I)I"⟩, 3), (⟨"MayMust$Walker", "isInAll", "(I)Z"⟩, 3)]
theorem lw_r2 : ∀ q ∈ lw_privs_2, lw_okq q := List.forall_mem_cons.mpr ⟨lw_p16, List.forall_mem_cons.mpr ⟨lw_p17, List.forall_mem_cons.mpr ⟨lw_p18, List.forall_mem_cons.mpr ⟨lw_p19, List.forall_mem_cons.mpr ⟨lw_p20, List.forall_mem_cons.mpr ⟨lw_p21, List.forall_mem_cons.mpr ⟨lw_p22, List.forall_mem_cons.mpr ⟨lw_p23, List.forall_mem_cons.mpr ⟨lw_p24, List.forall_mem_cons.mpr ⟨lw_p25, List.forall_mem_cons.mpr ⟨lw_p26, List.forall_mem_cons.mpr ⟨lw_p27, List.forall_mem_cons.mpr ⟨lw_p28, List.forall_mem_cons.mpr ⟨lw_p29, List.forall_mem_cons.mpr ⟨lw_p30, List.forall_mem_cons.mpr ⟨lw_p31, fun _ h => absurd h List.not_mem_nil⟩⟩⟩⟩⟩⟩⟩⟩⟩⟩⟩⟩⟩⟩⟩⟩
theorem lw_p32 : lw_okq (⟨"MayMust", "statesOfAll", "()I"⟩, 10) := ⟨⟨by decide +kernel, by decide +kernel⟩, List.mem_of_getElem? (i := 23) (by decide +kernel), List.mem_of_getElem? (i := 845) (by decide +kernel), List.mem_of_getElem? (i := 846) (by decide +kernel)⟩
theorem lw_p33 : lw_okq (⟨"MayMustModel", "begins", "()V"⟩, 25) := ⟨⟨by decide +kernel, by decide +kernel⟩, List.mem_of_getElem? (i := 850) (by decide +kernel), List.mem_of_getElem? (i := 951) (by decide +kernel), List.mem_of_getElem? (i := 952) (by decide +kernel)⟩
theorem lw_p34 : lw_okq (⟨"MayMustModel", "advances", "()V"⟩, 25) := ⟨⟨by decide +kernel, by decide +kernel⟩, List.mem_of_getElem? (i := 850) (by decide +kernel), List.mem_of_getElem? (i := 955) (by decide +kernel), List.mem_of_getElem? (i := 956) (by decide +kernel)⟩
theorem lw_p35 : lw_okq (⟨"MayMustModel", "byteAt", "(I)I"⟩, 25) := ⟨⟨by decide +kernel, by decide +kernel⟩, List.mem_of_getElem? (i := 850) (by decide +kernel), List.mem_of_getElem? (i := 959) (by decide +kernel), List.mem_of_getElem? (i := 960) (by decide +kernel)⟩
theorem lw_p36 : lw_okq (⟨"MayMustModel", "words", "(I)V"⟩, 25) := ⟨⟨by decide +kernel, by decide +kernel⟩, List.mem_of_getElem? (i := 850) (by decide +kernel), List.mem_of_getElem? (i := 963) (by decide +kernel), List.mem_of_getElem? (i := 964) (by decide +kernel)⟩
theorem lw_p37 : lw_okq (⟨"MayMustModel", "isWord", "(IIII)Z"⟩, 25) := ⟨⟨by decide +kernel, by decide +kernel⟩, List.mem_of_getElem? (i := 850) (by decide +kernel), List.mem_of_getElem? (i := 967) (by decide +kernel), List.mem_of_getElem? (i := 968) (by decide +kernel)⟩
theorem lw_p38 : lw_okq (⟨"MayMustModel", "takes", "(Z)I"⟩, 25) := ⟨⟨by decide +kernel, by decide +kernel⟩, List.mem_of_getElem? (i := 850) (by decide +kernel), List.mem_of_getElem? (i := 971) (by decide +kernel), List.mem_of_getElem? (i := 972) (by decide +kernel)⟩
theorem lw_p39 : lw_okq (⟨"MayMustModel", "isWell", "()Z"⟩, 25) := ⟨⟨by decide +kernel, by decide +kernel⟩, List.mem_of_getElem? (i := 850) (by decide +kernel), List.mem_of_getElem? (i := 975) (by decide +kernel), List.mem_of_getElem? (i := 976) (by decide +kernel)⟩
theorem lw_p40 : lw_okq (⟨"MayMustModel", "isSign", "(I)Z"⟩, 25) := ⟨⟨by decide +kernel, by decide +kernel⟩, List.mem_of_getElem? (i := 850) (by decide +kernel), List.mem_of_getElem? (i := 979) (by decide +kernel), List.mem_of_getElem? (i := 980) (by decide +kernel)⟩
theorem lw_p41 : lw_okq (⟨"MayMustModel", "empties", "(II)V"⟩, 25) := ⟨⟨by decide +kernel, by decide +kernel⟩, List.mem_of_getElem? (i := 850) (by decide +kernel), List.mem_of_getElem? (i := 983) (by decide +kernel), List.mem_of_getElem? (i := 984) (by decide +kernel)⟩
theorem lw_p42 : lw_okq (⟨"MayMustModel", "copies", "(II)V"⟩, 25) := ⟨⟨by decide +kernel, by decide +kernel⟩, List.mem_of_getElem? (i := 850) (by decide +kernel), List.mem_of_getElem? (i := 990) (by decide +kernel), List.mem_of_getElem? (i := 991) (by decide +kernel)⟩
theorem lw_p43 : lw_okq (⟨"MayMustModel", "wantsUnit", "(Z)Z"⟩, 25) := ⟨⟨by decide +kernel, by decide +kernel⟩, List.mem_of_getElem? (i := 850) (by decide +kernel), List.mem_of_getElem? (i := 998) (by decide +kernel), List.mem_of_getElem? (i := 999) (by decide +kernel)⟩
theorem lw_p44 : lw_okq (⟨"MayMustModel", "unit", "()V"⟩, 25) := ⟨⟨by decide +kernel, by decide +kernel⟩, List.mem_of_getElem? (i := 850) (by decide +kernel), List.mem_of_getElem? (i := 1002) (by decide +kernel), List.mem_of_getElem? (i := 1003) (by decide +kernel)⟩
theorem lw_p45 : lw_okq (⟨"MayMustModel", "puts", "(I)V"⟩, 25) := ⟨⟨by decide +kernel, by decide +kernel⟩, List.mem_of_getElem? (i := 850) (by decide +kernel), List.mem_of_getElem? (i := 1006) (by decide +kernel), List.mem_of_getElem? (i := 1007) (by decide +kernel)⟩
theorem lw_p46 : lw_okq (⟨"MayMustModel", "settles", "()V"⟩, 25) := ⟨⟨by decide +kernel, by decide +kernel⟩, List.mem_of_getElem? (i := 850) (by decide +kernel), List.mem_of_getElem? (i := 1010) (by decide +kernel), List.mem_of_getElem? (i := 1011) (by decide +kernel)⟩
theorem lw_p47 : lw_okq (⟨"MayMustModel", "bracket", "()I"⟩, 25) := ⟨⟨by decide +kernel, by decide +kernel⟩, List.mem_of_getElem? (i := 850) (by decide +kernel), List.mem_of_getElem? (i := 1014) (by decide +kernel), List.mem_of_getElem? (i := 1015) (by decide +kernel)⟩
def lw_privs_3 : List (MethodName × Nat) := [(⟨"MayMust", "statesOfAll", "()I"⟩, 10), (⟨"MayMustModel", "begins", "()V"⟩, 25), (⟨"MayMustModel", "advances", "()V"⟩, 25), (⟨"MayMustModel", "byteAt", "(I)I"⟩, 25), (⟨"MayMustModel", "words", "(I)V"⟩, 25), (⟨"MayMustModel", "isWord", "(IIII)Z"⟩, 25), (⟨"MayMustModel", "takes", "(Z)I"⟩, 25), (⟨"MayMustModel", "isWell", "()Z"⟩, 25), (⟨"MayMustModel", "isSign", "(I)Z"⟩, 25), (⟨"MayMustModel", "empties", "(II)V"⟩, 25), (⟨"MayMustModel", "copies", "(II)V"⟩, 25), (⟨"MayMustModel", "wantsUnit", "(Z)Z"⟩, 25), (⟨"MayMustModel", "unit", "()V"⟩, 25), (⟨"MayMustModel", "puts", "(I)V"⟩, 25), (⟨"MayMustModel", "settles", "()V"⟩, 25), (⟨"MayMustModel", "bracket", "()I"⟩, 25)]
theorem lw_r3 : ∀ q ∈ lw_privs_3, lw_okq q := List.forall_mem_cons.mpr ⟨lw_p32, List.forall_mem_cons.mpr ⟨lw_p33, List.forall_mem_cons.mpr ⟨lw_p34, List.forall_mem_cons.mpr ⟨lw_p35, List.forall_mem_cons.mpr ⟨lw_p36, List.forall_mem_cons.mpr ⟨lw_p37, List.forall_mem_cons.mpr ⟨lw_p38, List.forall_mem_cons.mpr ⟨lw_p39, List.forall_mem_cons.mpr ⟨lw_p40, List.forall_mem_cons.mpr ⟨lw_p41, List.forall_mem_cons.mpr ⟨lw_p42, List.forall_mem_cons.mpr ⟨lw_p43, List.forall_mem_cons.mpr ⟨lw_p44, List.forall_mem_cons.mpr ⟨lw_p45, List.forall_mem_cons.mpr ⟨lw_p46, List.forall_mem_cons.mpr ⟨lw_p47, fun _ h => absurd h List.not_mem_nil⟩⟩⟩⟩⟩⟩⟩⟩⟩⟩⟩⟩⟩⟩⟩⟩
theorem lw_p48 : lw_okq (⟨"MayMustModel", "many", "(II)I"⟩, 25) := ⟨⟨by decide +kernel, by decide +kernel⟩, List.mem_of_getElem? (i := 850) (by decide +kernel), List.mem_of_getElem? (i := 1022) (by decide +kernel), List.mem_of_getElem? (i := 1023) (by decide +kernel)⟩
theorem lw_p49 : lw_okq (⟨"MayMustModel", "isState", "(II)Z"⟩, 25) := ⟨⟨by decide +kernel, by decide +kernel⟩, List.mem_of_getElem? (i := 850) (by decide +kernel), List.mem_of_getElem? (i := 1030) (by decide +kernel), List.mem_of_getElem? (i := 1031) (by decide +kernel)⟩
theorem lw_p50 : lw_okq (⟨"MayMustModel", "of", "(IIII)I"⟩, 25) := ⟨⟨by decide +kernel, by decide +kernel⟩, List.mem_of_getElem? (i := 850) (by decide +kernel), List.mem_of_getElem? (i := 1034) (by decide +kernel), List.mem_of_getElem? (i := 1035) (by decide +kernel)⟩
theorem lw_p51 : lw_okq (⟨"MayMustModel", "goes", "(II)V"⟩, 25) := ⟨⟨by decide +kernel, by decide +kernel⟩, List.mem_of_getElem? (i := 850) (by decide +kernel), List.mem_of_getElem? (i := 1046) (by decide +kernel), List.mem_of_getElem? (i := 1047) (by decide +kernel)⟩
theorem lw_p52 : lw_okq (⟨"MayMustModel", "why", "(IIIIII)I"⟩, 25) := ⟨⟨by decide +kernel, by decide +kernel⟩, List.mem_of_getElem? (i := 850) (by decide +kernel), List.mem_of_getElem? (i := 1050) (by decide +kernel), List.mem_of_getElem? (i := 1051) (by decide +kernel)⟩
theorem lw_p53 : lw_okq (⟨"MayMustModel", "isThere", "(III)Z"⟩, 25) := ⟨⟨by decide +kernel, by decide +kernel⟩, List.mem_of_getElem? (i := 850) (by decide +kernel), List.mem_of_getElem? (i := 1054) (by decide +kernel), List.mem_of_getElem? (i := 1055) (by decide +kernel)⟩
theorem lw_p54 : lw_okq (⟨"MayMustModel", "smalls", "(I)V"⟩, 25) := ⟨⟨by decide +kernel, by decide +kernel⟩, List.mem_of_getElem? (i := 850) (by decide +kernel), List.mem_of_getElem? (i := 1070) (by decide +kernel), List.mem_of_getElem? (i := 1071) (by decide +kernel)⟩
theorem lw_p55 : lw_okq (⟨"MayMustModel", "clash", "(II)V"⟩, 25) := ⟨⟨by decide +kernel, by decide +kernel⟩, List.mem_of_getElem? (i := 850) (by decide +kernel), List.mem_of_getElem? (i := 1078) (by decide +kernel), List.mem_of_getElem? (i := 1079) (by decide +kernel)⟩
theorem lw_p56 : lw_okq (⟨"MayMustModel", "isClash", "(IIIII)Z"⟩, 25) := ⟨⟨by decide +kernel, by decide +kernel⟩, List.mem_of_getElem? (i := 850) (by decide +kernel), List.mem_of_getElem? (i := 1082) (by decide +kernel), List.mem_of_getElem? (i := 1083) (by decide +kernel)⟩
theorem lw_p57 : lw_okq (⟨"MayMustModel", "values", "(I)V"⟩, 25) := ⟨⟨by decide +kernel, by decide +kernel⟩, List.mem_of_getElem? (i := 850) (by decide +kernel), List.mem_of_getElem? (i := 1090) (by decide +kernel), List.mem_of_getElem? (i := 1091) (by decide +kernel)⟩
theorem lw_p58 : lw_okq (⟨"MayMustModel", "goingTo", "(IIIZI)I"⟩, 25) := ⟨⟨by decide +kernel, by decide +kernel⟩, List.mem_of_getElem? (i := 850) (by decide +kernel), List.mem_of_getElem? (i := 1094) (by decide +kernel), List.mem_of_getElem? (i := 1095) (by decide +kernel)⟩
theorem lw_p59 : lw_okq (⟨"MayMustModel", "onward", "(I)I"⟩, 25) := ⟨⟨by decide +kernel, by decide +kernel⟩, List.mem_of_getElem? (i := 850) (by decide +kernel), List.mem_of_getElem? (i := 1110) (by decide +kernel), List.mem_of_getElem? (i := 1111) (by decide +kernel)⟩
theorem lw_p60 : lw_okq (⟨"MayMustModel", "isSure", "(I)Z"⟩, 25) := ⟨⟨by decide +kernel, by decide +kernel⟩, List.mem_of_getElem? (i := 850) (by decide +kernel), List.mem_of_getElem? (i := 1121) (by decide +kernel), List.mem_of_getElem? (i := 1122) (by decide +kernel)⟩
def lw_privs_4 : List (MethodName × Nat) := [(⟨"MayMustModel", "many", "(II)I"⟩, 25), (⟨"MayMustModel", "isState", "(II)Z"⟩, 25), (⟨"MayMustModel", "of", "(IIII)I"⟩, 25), (⟨"MayMustModel", "goes", "(II)V"⟩, 25), (⟨"MayMustModel", "why", "(IIIIII)I"⟩, 25), (⟨"MayMustModel", "isThere", "(III)Z"⟩, 25), (⟨"MayMustModel", "smalls", "(I)V"⟩, 25), (⟨"MayMustModel", "clash", "(II)V"⟩, 25), (⟨"MayMustModel", "isClash", "(IIIII)Z"⟩, 25), (⟨"MayMustModel", "values", "(I)V"⟩, 25), (⟨"MayMustModel", "goingTo", "(IIIZI)I"⟩, 25), (⟨"MayMustModel", "onward", "(I)I"⟩, 25), (⟨"MayMustModel", "isSure", "(I)Z"⟩, 25)]
theorem lw_r4 : ∀ q ∈ lw_privs_4, lw_okq q := List.forall_mem_cons.mpr ⟨lw_p48, List.forall_mem_cons.mpr ⟨lw_p49, List.forall_mem_cons.mpr ⟨lw_p50, List.forall_mem_cons.mpr ⟨lw_p51, List.forall_mem_cons.mpr ⟨lw_p52, List.forall_mem_cons.mpr ⟨lw_p53, List.forall_mem_cons.mpr ⟨lw_p54, List.forall_mem_cons.mpr ⟨lw_p55, List.forall_mem_cons.mpr ⟨lw_p56, List.forall_mem_cons.mpr ⟨lw_p57, List.forall_mem_cons.mpr ⟨lw_p58, List.forall_mem_cons.mpr ⟨lw_p59, List.forall_mem_cons.mpr ⟨lw_p60, fun _ h => absurd h List.not_mem_nil⟩⟩⟩⟩⟩⟩⟩⟩⟩⟩⟩⟩⟩
def lw_privs : List (MethodName × Nat) := lw_privs_1 ++ (lw_privs_2 ++ (lw_privs_3 ++ (lw_privs_4)))
def lw_tbl : List Cond := k2_sels lw_privs ++ tables_1
theorem lw_privs_ok : ∀ q ∈ lw_privs, lw_okq q := by
  show ∀ q ∈ lw_privs_1 ++ (lw_privs_2 ++ (lw_privs_3 ++ (lw_privs_4))), lw_okq q
  exact List.forall_mem_append.mpr ⟨lw_r1, List.forall_mem_append.mpr ⟨lw_r2, List.forall_mem_append.mpr ⟨lw_r3, lw_r4⟩⟩⟩
end
section
def RX0 : String := "MayMust$Joiner"
def TX0 : u_T := fun k => match k with
  | 0 => ("MayMust$Joiner", "pairs", "LMayMust$Pairs;", true)
  | 1 => ("MayMust$Joiner", "numbers", "[I", true)
  | 2 => ("MayMust$Joiner", "order", "[I", true)
  | _ => ("MayMust$Joiner", "size", "I", false)
def tyX0 : Nat → FieldType := fun k => match k with
  | 0 => .object "MayMust$Pairs"
  | 1 => .array .int
  | 2 => .array .int
  | _ => .int
abbrev wsX00 : List Cond := u_ws RX0 TX0 4
theorem nmX0 : ∀ a, a < 4 → ∀ b, b < 4 → a ≠ b → (TX0 a).2.1 ≠ (TX0 b).2.1 := by decide +kernel
theorem tyX0_ok : ∀ k, k < 4 → parseFieldDescriptor (TX0 k).2.2.1 = some (tyX0 k) := by decide +kernel
def RX1 : String := "MayMust$Pairs"
def TX1 : u_T := fun k => match k with
  | 0 => ("MayMust$Pairs", "ofLeft", "[I", true)
  | _ => ("MayMust$Pairs", "ofRight", "[I", true)
def tyX1 : Nat → FieldType := fun k => match k with
  | 0 => .array .int
  | _ => .array .int
abbrev wsX10 : List Cond := u_ws RX1 TX1 2
theorem nmX1 : ∀ a, a < 2 → ∀ b, b < 2 → a ≠ b → (TX1 a).2.1 ≠ (TX1 b).2.1 := by decide +kernel
theorem tyX1_ok : ∀ k, k < 2 → parseFieldDescriptor (TX1 k).2.2.1 = some (tyX1 k) := by decide +kernel
def RX2 : String := "MayMust$Plan"
def TX2 : u_T := fun k => match k with
  | 0 => ("MayMust$Plan", "size", "I", false)
  | 1 => ("MayMust$Plan", "any", "[I", true)
  | _ => ("MayMust$Plan", "must", "[I", true)
def tyX2 : Nat → FieldType := fun k => match k with
  | 0 => .int
  | 1 => .array .int
  | _ => .array .int
abbrev wsX20 : List Cond := u_ws RX2 TX2 3
theorem nmX2 : ∀ a, a < 3 → ∀ b, b < 3 → a ≠ b → (TX2 a).2.1 ≠ (TX2 b).2.1 := by decide +kernel
theorem tyX2_ok : ∀ k, k < 3 → parseFieldDescriptor (TX2 k).2.2.1 = some (tyX2 k) := by decide +kernel
def RX3 : String := "MayMust$Reader"
def TX3 : u_T := fun k => match k with
  | _ => ("MayMust$Reader", "tokens", "LMayMust$Tokens;", true)
def tyX3 : Nat → FieldType := fun k => match k with
  | _ => .object "MayMust$Tokens"
abbrev wsX30 : List Cond := u_ws RX3 TX3 1
theorem nmX3 : ∀ a, a < 1 → ∀ b, b < 1 → a ≠ b → (TX3 a).2.1 ≠ (TX3 b).2.1 := by decide +kernel
theorem tyX3_ok : ∀ k, k < 1 → parseFieldDescriptor (TX3 k).2.2.1 = some (tyX3 k) := by decide +kernel
def RX4 : String := "MayMust$Rounds"
def TX4 : u_T := fun k => match k with
  | 0 => ("MayMust$Rounds", "pairs", "LMayMust$Pairs;", true)
  | 1 => ("MayMust$Rounds", "went", "[I", true)
  | 2 => ("MayMust$Rounds", "whyLetter", "I", false)
  | _ => ("MayMust$Rounds", "whySide", "I", false)
def tyX4 : Nat → FieldType := fun k => match k with
  | 0 => .object "MayMust$Pairs"
  | 1 => .array .int
  | 2 => .int
  | _ => .int
abbrev wsX40 : List Cond := u_ws RX4 TX4 4
theorem nmX4 : ∀ a, a < 4 → ∀ b, b < 4 → a ≠ b → (TX4 a).2.1 ≠ (TX4 b).2.1 := by decide +kernel
theorem tyX4_ok : ∀ k, k < 4 → parseFieldDescriptor (TX4 k).2.2.1 = some (tyX4 k) := by decide +kernel
def RX5 : String := "MayMust$Saying"
def TX5 : u_T := fun k => match k with
  | 0 => ("MayMust$Saying", "steps", "[I", true)
  | 1 => ("MayMust$Saying", "size", "I", false)
  | 2 => ("MayMust$Saying", "bits", "I", false)
  | 3 => ("MayMust$Saying", "stack", "[I", true)
  | _ => ("MayMust$Saying", "height", "I", false)
def tyX5 : Nat → FieldType := fun k => match k with
  | 0 => .array .int
  | 1 => .int
  | 2 => .int
  | 3 => .array .int
  | _ => .int
abbrev wsX50 : List Cond := u_ws RX5 TX5 5
theorem nmX5 : ∀ a, a < 5 → ∀ b, b < 5 → a ≠ b → (TX5 a).2.1 ≠ (TX5 b).2.1 := by decide +kernel
theorem tyX5_ok : ∀ k, k < 5 → parseFieldDescriptor (TX5 k).2.2.1 = some (tyX5 k) := by decide +kernel
def RX6 : String := "MayMust$Shrinker"
def TX6 : u_T := fun k => match k with
  | _ => ("MayMust$Shrinker", "least", "[I", true)
def tyX6 : Nat → FieldType := fun k => match k with
  | _ => .array .int
abbrev wsX60 : List Cond := u_ws RX6 TX6 1
theorem nmX6 : ∀ a, a < 1 → ∀ b, b < 1 → a ≠ b → (TX6 a).2.1 ≠ (TX6 b).2.1 := by decide +kernel
theorem tyX6_ok : ∀ k, k < 1 → parseFieldDescriptor (TX6 k).2.2.1 = some (tyX6 k) := by decide +kernel
def RX7 : String := "MayMust$Text"
def TX7 : u_T := fun k => match k with
  | 0 => ("MayMust$Text", "bytes", "[I", true)
  | _ => ("MayMust$Text", "size", "I", false)
def tyX7 : Nat → FieldType := fun k => match k with
  | 0 => .array .int
  | _ => .int
abbrev wsX70 : List Cond := u_ws RX7 TX7 2
theorem nmX7 : ∀ a, a < 2 → ∀ b, b < 2 → a ≠ b → (TX7 a).2.1 ≠ (TX7 b).2.1 := by decide +kernel
theorem tyX7_ok : ∀ k, k < 2 → parseFieldDescriptor (TX7 k).2.2.1 = some (tyX7 k) := by decide +kernel
def RX8 : String := "MayMust$Tokens"
def TX8 : u_T := fun k => match k with
  | 0 => ("MayMust$Tokens", "kinds", "[I", true)
  | 1 => ("MayMust$Tokens", "places", "[I", true)
  | 2 => ("MayMust$Tokens", "worths", "[I", true)
  | 3 => ("MayMust$Tokens", "size", "I", false)
  | _ => ("MayMust$Tokens", "here", "I", false)
def tyX8 : Nat → FieldType := fun k => match k with
  | 0 => .array .int
  | 1 => .array .int
  | 2 => .array .int
  | 3 => .int
  | _ => .int
abbrev wsX80 : List Cond := u_ws RX8 TX8 5
theorem nmX8 : ∀ a, a < 5 → ∀ b, b < 5 → a ≠ b → (TX8 a).2.1 ≠ (TX8 b).2.1 := by decide +kernel
theorem tyX8_ok : ∀ k, k < 5 → parseFieldDescriptor (TX8 k).2.2.1 = some (tyX8 k) := by decide +kernel
def RX9 : String := "MayMust$Walker"
def TX9 : u_T := fun k => match k with
  | 0 => ("MayMust$Walker", "ground", "LMayMust$Plan;", true)
  | 1 => ("MayMust$Walker", "where", "I", false)
  | _ => ("MayMust$Walker", "gone", "I", false)
def tyX9 : Nat → FieldType := fun k => match k with
  | 0 => .object "MayMust$Plan"
  | 1 => .int
  | _ => .int
abbrev wsX90 : List Cond := u_ws RX9 TX9 3
theorem nmX9 : ∀ a, a < 3 → ∀ b, b < 3 → a ≠ b → (TX9 a).2.1 ≠ (TX9 b).2.1 := by decide +kernel
theorem tyX9_ok : ∀ k, k < 3 → parseFieldDescriptor (TX9 k).2.2.1 = some (tyX9 k) := by decide +kernel
def RX10 : String := "MayMust"
def TX10 : u_T := fun k => match k with
  | 0 => ("MayMust", "plans", "[LMayMust$Plan;", true)
  | 1 => ("MayMust", "draft", "LMayMust$Plan;", true)
  | 2 => ("MayMust", "text", "LMayMust$Text;", true)
  | 3 => ("MayMust", "reader", "LMayMust$Reader;", true)
  | 4 => ("MayMust", "saying", "LMayMust$Saying;", true)
  | 5 => ("MayMust", "draftSaying", "LMayMust$Saying;", true)
  | 6 => ("MayMust", "rounds", "LMayMust$Rounds;", true)
  | 7 => ("MayMust", "shrinker", "LMayMust$Shrinker;", true)
  | 8 => ("MayMust", "joiner", "LMayMust$Joiner;", true)
  | _ => ("MayMust", "walker", "LMayMust$Walker;", true)
def tyX10 : Nat → FieldType := fun k => match k with
  | 0 => .array (.object "MayMust$Plan")
  | 1 => .object "MayMust$Plan"
  | 2 => .object "MayMust$Text"
  | 3 => .object "MayMust$Reader"
  | 4 => .object "MayMust$Saying"
  | 5 => .object "MayMust$Saying"
  | 6 => .object "MayMust$Rounds"
  | 7 => .object "MayMust$Shrinker"
  | 8 => .object "MayMust$Joiner"
  | _ => .object "MayMust$Walker"
abbrev wsX100 : List Cond := u_ws RX10 TX10 10
theorem nmX10 : ∀ a, a < 10 → ∀ b, b < 10 → a ≠ b → (TX10 a).2.1 ≠ (TX10 b).2.1 := by decide +kernel
theorem tyX10_ok : ∀ k, k < 10 → parseFieldDescriptor (TX10 k).2.2.1 = some (tyX10 k) := by decide +kernel
def RX11 : String := "MayMustModel"
def TX11 : u_T := fun k => match k with
  | 0 => ("MayMustModel", "thrown", "I", false)
  | 1 => ("MayMustModel", "arrow", "[I", true)
  | 2 => ("MayMustModel", "size", "[I", true)
  | 3 => ("MayMustModel", "text", "[I", true)
  | 4 => ("MayMustModel", "typed", "I", false)
  | 5 => ("MayMustModel", "next", "I", false)
  | 6 => ("MayMustModel", "token", "I", false)
  | 7 => ("MayMustModel", "place", "I", false)
  | 8 => ("MayMustModel", "value", "I", false)
  | 9 => ("MayMustModel", "fault", "I", false)
  | 10 => ("MayMustModel", "post", "[I", true)
  | 11 => ("MayMustModel", "draft", "[I", true)
  | 12 => ("MayMustModel", "posts", "I", false)
  | 13 => ("MayMustModel", "draftMany", "I", false)
  | 14 => ("MayMustModel", "plains", "I", false)
  | 15 => ("MayMustModel", "draftPlains", "I", false)
  | 16 => ("MayMustModel", "signs", "[I", true)
  | 17 => ("MayMustModel", "signMany", "I", false)
  | 18 => ("MayMustModel", "open", "I", false)
  | 19 => ("MayMustModel", "stack", "[I", true)
  | 20 => ("MayMustModel", "went", "[I", true)
  | 21 => ("MayMustModel", "queue", "[I", true)
  | 22 => ("MayMustModel", "number", "[I", true)
  | 23 => ("MayMustModel", "could", "I", false)
  | _ => ("MayMustModel", "gone", "I", false)
def tyX11 : Nat → FieldType := fun k => match k with
  | 0 => .int
  | 1 => .array .int
  | 2 => .array .int
  | 3 => .array .int
  | 4 => .int
  | 5 => .int
  | 6 => .int
  | 7 => .int
  | 8 => .int
  | 9 => .int
  | 10 => .array .int
  | 11 => .array .int
  | 12 => .int
  | 13 => .int
  | 14 => .int
  | 15 => .int
  | 16 => .array .int
  | 17 => .int
  | 18 => .int
  | 19 => .array .int
  | 20 => .array .int
  | 21 => .array .int
  | 22 => .array .int
  | 23 => .int
  | _ => .int
abbrev wsX110 : List Cond := u_ws RX11 TX11 25
theorem nmX11 : ∀ a, a < 25 → ∀ b, b < 25 → a ≠ b → (TX11 a).2.1 ≠ (TX11 b).2.1 := by decide +kernel
theorem tyX11_ok : ∀ k, k < 25 → parseFieldDescriptor (TX11 k).2.2.1 = some (tyX11 k) := by decide +kernel
abbrev vwCl : List vw_C := [(RX0, TX0, 4), (RX1, TX1, 2), (RX2, TX2, 3), (RX3, TX3, 1), (RX4, TX4, 4), (RX5, TX5, 5), (RX6, TX6, 1), (RX7, TX7, 2), (RX8, TX8, 5), (RX9, TX9, 3), (RX10, TX10, 10), (RX11, TX11, 25)]
/-- the String constants: pool number, text, cell -/
def xa_strs : List (Nat × String × Nat) := [(81, "states", 1), (87, "may", 2), (89, "must", 3), (64, ";|&!()<>[]", 4)]
/-- where the words of the classes' fields stand -/
def xa_clsp : List (List Nat) := [[234, 236, 238, 240], [194, 196], [101, 103, 105], [151], [203, 205, 207, 209], [169, 171, 173, 175, 177], [219], [117, 119], [139, 141, 143, 145, 147], [254, 256, 258], [271, 273, 275, 277, 279, 281, 283, 285, 287, 289], [941, 943, 945, 947, 949, 951, 953, 955, 957, 959, 961, 963, 965, 967, 969, 971, 973, 975, 977, 979, 981, 983, 985, 987, 989]]
end
section
/-! ===== a small machine: its cells, its instructions, its runs (the machine itself is held against it in the parts behind) ===== -/
/-- a cell: an array (kind 0: int, made; 1: the bytes of a String constant; 2: the script), its length, its contents; or an object (number of its class, fields); 50: the array of plans; 60: a String constant -/
abbrev xa_C : Type := (Nat × Nat × (Nat → Int32)) ⊕ (Nat × List Value)
abbrev xa_H : Type := List xa_C
/-- pc, instruction, length, numbers that belong to it, its constant -/
abbrev xa_I : Type := Nat × Jvm.ClassFile.Instr × Nat × List Nat × Int32
/-- pc, locals (a float: unknown), stack, cells -/
abbrev xa_S : Type := Nat × List Value × List Value × xa_H
abbrev xa_R : Type := Option Value × xa_H
/-- a call: which method, its arguments, where it goes on -/
abbrev xa_K : Type := Nat × List Value × (Nat × List Value × List Value)
abbrev xa_O : Type := Option (xa_S ⊕ (xa_R ⊕ xa_K))
abbrev xa_M : Type := MethodName × ByteArray × Nat × Option FieldType × List xa_I
def xa_nx (pc : Nat) (ls st : List Value) (h : xa_H) : xa_O := some (.inl (pc, ls, st, h))
def xa_free (ls : List Value) (k : Nat) : Bool := match k with
  | 0 => Nat.blt 0 ls.length
  | j + 1 => Nat.blt (j + 1) ls.length && (match ls[j]? with
    | some (.long _) => false
    | _ => true)
def xa_c1 (v : Value) : Bool := match v with
  | .int _ => true
  | .ref _ => true
  | _ => false
/-- what only the stack sees -/
def xa_alu (i : Jvm.ClassFile.Instr) (a : List Nat) (cv : Int32) (st : List Value) : Option (List Value) := match i with
  | .iconst _ => some (.int cv :: st)
  | .bipush _ => some (.int cv :: st)
  | .sipush _ => some (.int cv :: st)
  | .ldc_w _ => some (.int cv :: st)
  | .ldc2_w _ => some (.long (Int64.ofNat (a.headD 0)) :: st)
  | .iadd => (match st with
    | .int y :: .int x :: r => some (.int (x + y) :: r)
    | _ => none)
  | .isub => (match st with
    | .int y :: .int x :: r => some (.int (x - y) :: r)
    | _ => none)
  | .imul => (match st with
    | .int y :: .int x :: r => some (.int (x * y) :: r)
    | _ => none)
  | .iand => (match st with
    | .int y :: .int x :: r => some (.int (x &&& y) :: r)
    | _ => none)
  | .ior => (match st with
    | .int y :: .int x :: r => some (.int (x ||| y) :: r)
    | _ => none)
  | .ixor => (match st with
    | .int y :: .int x :: r => some (.int (x ^^^ y) :: r)
    | _ => none)
  | .ishl => (match st with
    | .int y :: .int x :: r => some (.int (x <<< (y &&& 31)) :: r)
    | _ => none)
  | .ishr => (match st with
    | .int y :: .int x :: r => some (.int (x >>> (y &&& 31)) :: r)
    | _ => none)
  | .iushr => (match st with
    | .int y :: .int x :: r => some (.int (x.toUInt32 >>> (y.toUInt32 &&& Int32.toUInt32 31)).toInt32 :: r)
    | _ => none)
  | .idiv => (match st with
    | .int y :: .int x :: r => if y = 0 then none else some (.int (x / y) :: r)
    | _ => none)
  | .irem => (match st with
    | .int y :: .int x :: r => if y = 0 then none else some (.int (x - x / y * y) :: r)
    | _ => none)
  | .i2l => (match st with
    | .int x :: r => some (.long x.toInt64 :: r)
    | _ => none)
  | .l2i => (match st with
    | .long x :: r => some (.int x.toInt32 :: r)
    | _ => none)
  | .i2b => (match st with
    | .int x :: r => some (.int x.toInt8.toInt32 :: r)
    | _ => none)
  | .i2c => (match st with
    | .int x :: r => some (.int (x.toUInt32 % 65536).toInt32 :: r)
    | _ => none)
  | .land => (match st with
    | .long y :: .long x :: r => some (.long (x &&& y) :: r)
    | _ => none)
  | .lor => (match st with
    | .long y :: .long x :: r => some (.long (x ||| y) :: r)
    | _ => none)
  | .lshl => (match st with
    | .int y :: .long x :: r => some (.long (x <<< (y.toInt64 &&& 63)) :: r)
    | _ => none)
  | .lshr => (match st with
    | .int y :: .long x :: r => some (.long (x >>> (y.toInt64 &&& 63)) :: r)
    | _ => none)
  | .lushr => (match st with
    | .int y :: .long x :: r => some (.long (x.toUInt64 >>> (y.toInt64.toUInt64 &&& Int64.toUInt64 63)).toInt64 :: r)
    | _ => none)
  | .dup => (match st with
    | v :: r => if xa_c1 v = true then some (v :: v :: r) else none
    | _ => none)
  | .pop => (match st with
    | v :: r => if xa_c1 v = true then some r else none
    | _ => none)
  | .dup2 => (match st with
    | v :: w :: r => if xa_c1 v = true ∧ xa_c1 w = true then some (v :: w :: v :: w :: r) else none
    | _ => none)
  | _ => none
def xa_ldi (pc : Nat) (k : Nat) (ls st : List Value) (h : xa_H) : xa_O := match ls[k]? with
  | some (.int x) => xa_nx pc ls (.int x :: st) h
  | _ => none
def xa_ldl (pc : Nat) (k : Nat) (ls st : List Value) (h : xa_H) : xa_O := match ls[k]? with
  | some (.long x) => xa_nx pc ls (.long x :: st) h
  | _ => none
def xa_lda (pc : Nat) (k : Nat) (ls st : List Value) (h : xa_H) : xa_O := match ls[k]? with
  | some (.ref x) => xa_nx pc ls (.ref x :: st) h
  | _ => none
def xa_sti (pc : Nat) (k : Nat) (ls st : List Value) (h : xa_H) : xa_O := match st with
  | .int x :: r => if xa_free ls k = true then xa_nx pc (ls.set k (.int x)) r h else none
  | _ => none
def xa_sta (pc : Nat) (k : Nat) (ls st : List Value) (h : xa_H) : xa_O := match st with
  | .ref x :: r => if xa_free ls k = true then xa_nx pc (ls.set k (.ref x)) r h else none
  | _ => none
def xa_inc (pc : Nat) (k : Nat) (cv : Int32) (ls st : List Value) (h : xa_H) : xa_O := match ls[k]? with
  | some (.int x) => if xa_free ls k = true then xa_nx pc (ls.set k (.int (x + cv))) st h else none
  | _ => none
def xa_cmp (c : Jvm.ClassFile.Cond) (x y : Int32) : Bool := match c with
  | .eq => decide (x = y)
  | .ne => decide (¬ x = y)
  | .lt => decide (x < y)
  | .ge => decide (y ≤ x)
  | .gt => decide (y < x)
  | .le => decide (x ≤ y)
def xa_if1 (c : Jvm.ClassFile.Cond) (pc tgt : Nat) (ls st : List Value) (h : xa_H) : xa_O := match st with
  | .int x :: r => xa_nx (if xa_cmp c x 0 = true then tgt else pc) ls r h
  | _ => none
def xa_if2 (c : Jvm.ClassFile.Cond) (pc tgt : Nat) (ls st : List Value) (h : xa_H) : xa_O := match st with
  | .int y :: .int x :: r => xa_nx (if xa_cmp c x y = true then tgt else pc) ls r h
  | _ => none
def xa_sw (ts : List Nat) (ls st : List Value) (h : xa_H) : xa_O := match st with
  | .int x :: r => if x.toInt < 0 ∨ (ts.length : Int) - 2 < x.toInt then xa_nx (ts.getD 0 0) ls r h else xa_nx (ts.getD (x.toInt.toNat + 1) 0) ls r h
  | _ => none
def xa_getf (pc ci k : Nat) (ls st : List Value) (h : xa_H) : xa_O := match st with
  | .ref o :: r => (match h[o]? with
    | some (.inr (c, fs)) => if c = ci then (match fs[k]? with
      | some v => xa_nx pc ls (v :: r) h
      | none => none) else none
    | _ => none)
  | _ => none
def xa_kd (kd : Nat) (v : Value) : Bool := match v with
  | .int _ => Nat.beq kd 0
  | .ref _ => Nat.beq kd 1
  | _ => false
def xa_putf (pc ci k kd : Nat) (ls st : List Value) (h : xa_H) : xa_O := match st with
  | v :: .ref o :: r => (match h[o]? with
    | some (.inr (c, fs)) => if c = ci ∧ k < fs.length ∧ xa_kd kd v = true then xa_nx pc ls r (h.set o (.inr (c, fs.set k v))) else none
    | _ => none)
  | _ => none
def xa_iald (pc : Nat) (ls st : List Value) (h : xa_H) : xa_O := match st with
  | .int i :: .ref o :: r => (match h[o]? with
    | some (.inl (kd, n, f)) => if (kd = 0 ∨ kd = 2) ∧ ¬ (i < 0 ∨ n ≤ i.toNatClampNeg) then xa_nx pc ls (.int (f i.toNatClampNeg) :: r) h else none
    | _ => none)
  | _ => none
def xa_bald (pc : Nat) (ls st : List Value) (h : xa_H) : xa_O := match st with
  | .int i :: .ref o :: r => (match h[o]? with
    | some (.inl (kd, n, f)) => if kd = 1 ∧ ¬ (i < 0 ∨ n ≤ i.toNatClampNeg) then xa_nx pc ls (.int (f i.toNatClampNeg) :: r) h else none
    | _ => none)
  | _ => none
def xa_iast (pc : Nat) (ls st : List Value) (h : xa_H) : xa_O := match st with
  | .int x :: .int i :: .ref o :: r => (match h[o]? with
    | some (.inl (kd, n, f)) => if kd = 0 ∧ ¬ (i < 0 ∨ n ≤ i.toNatClampNeg) then xa_nx pc ls r (h.set o (.inl (kd, n, upd f i.toNatClampNeg x))) else none
    | _ => none)
  | _ => none
def xa_alen (pc : Nat) (ls st : List Value) (h : xa_H) : xa_O := match st with
  | .ref o :: r => (match h[o]? with
    | some (.inl (_, n, _)) => xa_nx pc ls (.int (nI n) :: r) h
    | _ => none)
  | _ => none
def xa_newa (pc : Nat) (ls st : List Value) (h : xa_H) : xa_O := match st with
  | .int n :: r => if ¬ n < 0 ∧ n.toNatClampNeg ≤ 1000 then xa_nx pc ls (.ref h.length :: r) (h ++ [.inl (0, n.toNatClampNeg, fun _ => 0)]) else none
  | _ => none
def xa_newq (pc : Nat) (ls st : List Value) (h : xa_H) : xa_O := match st with
  | .int n :: r => if ¬ n < 0 ∧ n.toNatClampNeg ≤ 1000 then xa_nx pc ls (.ref h.length :: r) (h ++ [.inr (50, List.replicate n.toNatClampNeg .null)]) else none
  | _ => none
def xa_aald (pc : Nat) (ls st : List Value) (h : xa_H) : xa_O := match st with
  | .int i :: .ref o :: r => (match h[o]? with
    | some (.inr (c, fs)) => if c = 50 ∧ ¬ i < 0 then (match fs[i.toNatClampNeg]? with
      | some (.ref q) => xa_nx pc ls (.ref q :: r) h
      | _ => none) else none
    | _ => none)
  | _ => none
def xa_aast (pc : Nat) (ls st : List Value) (h : xa_H) : xa_O := match st with
  | .ref v :: .int i :: .ref o :: r => (match h[o]?, h[v]? with
    | some (.inr (c, fs)), some (.inr (c2, _)) => if (c = 50 ∧ c2 = 2) ∧ ¬ i < 0 ∧ i.toNatClampNeg < fs.length then xa_nx pc ls r (h.set o (.inr (c, fs.set i.toNatClampNeg (.ref v)))) else none
    | _, _ => none)
  | _ => none
/-- the fields of a new object, by its class -/
def xa_df (ci : Nat) : List Value := match ci with
  | 0 => [.null, .null, .null, .int 0]
  | 1 => [.null, .null]
  | 2 => [.int 0, .null, .null]
  | 3 => [.null]
  | 4 => [.null, .null, .int 0, .int 0]
  | 5 => [.null, .int 0, .int 0, .null, .int 0]
  | 6 => [.null]
  | 7 => [.null, .int 0]
  | 8 => [.null, .null, .null, .int 0, .int 0]
  | 9 => [.null, .int 0, .int 0]
  | 10 => [.null, .null, .null, .null, .null, .null, .null, .null, .null, .null]
  | 11 => [.int 0, .null, .null, .null, .int 0, .int 0, .int 0, .int 0, .int 0, .int 0, .null, .null, .int 0, .int 0, .int 0, .int 0, .null, .int 0, .int 0, .null, .null, .null, .null, .int 0, .int 0]
  | _ => []
def xa_new (pc ci : Nat) (ls st : List Value) (h : xa_H) : xa_O := xa_nx pc ls (.ref h.length :: st) (h ++ [.inr (ci, xa_df ci)])
def xa_gets (pc which : Nat) (ls st : List Value) (h : xa_H) : xa_O := match which with
  | 0 => xa_nx pc ls (.int 1 :: st) h
  | _ => xa_nx pc ls (.retAddr 0 :: st) h
def xa_ldc (pc which : Nat) (cv : Int32) (ls st : List Value) (h : xa_H) : xa_O := match which with
  | 0 => xa_nx pc ls (.int cv :: st) h
  | k + 1 => xa_nx pc ls (.ref (k + 1) :: st) h
def xa_room (r : List Value) : Bool := Nat.ble (r.map fun v => v.category).sum 8
def xa_call (pc mi n : Nat) (ls st : List Value) : xa_O := if Nat.ble n st.length = true ∧ xa_room (st.drop n) = true then some (.inr (.inr (mi, (st.take n).reverse, (pc, ls, st.drop n)))) else none
def xa_vcall (pc mi n ci : Nat) (ls st : List Value) (h : xa_H) : xa_O := match st[n]? with
  | some (.ref o) => (match h[o]? with
    | some (.inr (c, _)) => if c = ci then xa_call pc mi (n + 1) ls st else none
    | _ => none)
  | _ => none
def xa_icall (pc mi n : Nat) (ls st : List Value) : xa_O := match st[n]? with
  | some (.ref _) => xa_call pc mi (n + 1) ls st
  | _ => none
def xa_oinit (pc : Nat) (ls st : List Value) (h : xa_H) : xa_O := match st with
  | .ref _ :: r => if xa_room r = true then xa_nx pc ls r h else none
  | _ => none
def xa_copy (pc : Nat) (ls st : List Value) (h : xa_H) : xa_O := match st with
  | .int n :: .int dp :: .ref a :: .int sp :: .ref b :: r => (match h[b]?, h[a]? with
    | some (.inl (k0, n0, f)), some (.inl (k1, n1, g)) => if (k0 = 0 ∧ k1 = 0) ∧ (¬ sp < 0 ∧ ¬ dp < 0 ∧ ¬ n < 0) ∧ sp.toNatClampNeg + n.toNatClampNeg ≤ n0 ∧ dp.toNatClampNeg + n.toNatClampNeg ≤ n1 ∧ xa_room r = true then xa_nx pc ls r (h.set a (.inl (k1, n1, va_cpy f g sp.toNatClampNeg dp.toNatClampNeg n.toNatClampNeg))) else none
    | _, _ => none)
  | _ => none
def xa_max (pc : Nat) (ls st : List Value) (h : xa_H) : xa_O := match st with
  | .int y :: .int x :: r => if xa_room r = true then xa_nx pc ls (.int (if x < y then y else x) :: r) h else none
  | _ => none
def xa_min (pc : Nat) (ls st : List Value) (h : xa_H) : xa_O := match st with
  | .int y :: .int x :: r => if xa_room r = true then xa_nx pc ls (.int (if y < x then y else x) :: r) h else none
  | _ => none
/-- which ints a method may answer: 0 any, 1 booleans, 2 chars, 3 bytes -/
def xa_rok (k : Nat) (v : Int32) : Prop := match k with
  | 0 => True
  | 1 => v = 0 ∨ v = 1
  | 2 => (v.toUInt32 % 65536).toInt32 = v
  | _ => v.toInt8.toInt32 = v
/-- the step of one instruction; an answer of a kind is looked at where it is used -/
def xa_step (i : Jvm.ClassFile.Instr) (len : Nat) (a : List Nat) (cv : Int32) (pc : Nat) (ls st : List Value) (h : xa_H) : xa_O := match i with
  | .iload _ => xa_ldi (pc + len) (a.getD 0 0) ls st h
  | .iload_n _ => xa_ldi (pc + len) (a.getD 0 0) ls st h
  | .lload_n _ => xa_ldl (pc + len) (a.getD 0 0) ls st h
  | .aload _ => xa_lda (pc + len) (a.getD 0 0) ls st h
  | .aload_n _ => xa_lda (pc + len) (a.getD 0 0) ls st h
  | .istore _ => xa_sti (pc + len) (a.getD 0 0) ls st h
  | .istore_n _ => xa_sti (pc + len) (a.getD 0 0) ls st h
  | .astore_n _ => xa_sta (pc + len) (a.getD 0 0) ls st h
  | .iinc _ _ => xa_inc (pc + len) (a.getD 0 0) cv ls st h
  | .goto _ => xa_nx (a.getD 0 0) ls st h
  | .ifCond c _ => xa_if1 c (pc + len) (a.getD 0 0) ls st h
  | .if_icmp c _ => xa_if2 c (pc + len) (a.getD 0 0) ls st h
  | .tableswitch _ _ _ _ => xa_sw a ls st h
  | .getfield _ => xa_getf (pc + len) (a.getD 0 0) (a.getD 1 0) ls st h
  | .putfield _ => xa_putf (pc + len) (a.getD 0 0) (a.getD 1 0) (a.getD 2 0) ls st h
  | .iaload => xa_iald (pc + len) ls st h
  | .baload => xa_bald (pc + len) ls st h
  | .iastore => xa_iast (pc + len) ls st h
  | .arraylength => xa_alen (pc + len) ls st h
  | .newarray _ => xa_newa (pc + len) ls st h
  | .anewarray _ => xa_newq (pc + len) ls st h
  | .aaload => xa_aald (pc + len) ls st h
  | .aastore => xa_aast (pc + len) ls st h
  | .new _ => xa_new (pc + len) (a.getD 0 0) ls st h
  | .getstatic _ => xa_gets (pc + len) (a.getD 0 0) ls st h
  | .ldc _ => xa_ldc (pc + len) (a.getD 0 0) cv ls st h
  | .invokestatic _ => (match a.getD 0 0 with
    | 2 => xa_copy (pc + len) ls st h
    | 3 => xa_max (pc + len) ls st h
    | 4 => xa_min (pc + len) ls st h
    | _ => xa_call (pc + len) (a.getD 1 0) (a.getD 2 0) ls st)
  | .invokevirtual _ => xa_vcall (pc + len) (a.getD 1 0) (a.getD 2 0) (a.getD 3 0) ls st h
  | .invokespecial _ => (match a.getD 0 0 with
    | 9 => xa_oinit (pc + len) ls st h
    | _ => xa_icall (pc + len) (a.getD 1 0) (a.getD 2 0) ls st)
  | .ireturn => (match st with
    | [.int v] => some (.inr (.inl (some (.int v), h)))
    | _ => none)
  | .return_ => (match st with
    | [] => some (.inr (.inl (none, h)))
    | _ => none)
  | i => (match xa_alu i a cv st with
    | some st' => xa_nx (pc + len) ls st' h
    | none => none)
def xa_lk (tb : List xa_I) (pc : Nat) : Option (Jvm.ClassFile.Instr × Nat × List Nat × Int32) := match tb with
  | [] => none
  | e :: es => bif Nat.beq e.1 pc then some e.2 else xa_lk es pc
/-- which answers a return allows: by the instruction's number -/
def xa_fine (i : Jvm.ClassFile.Instr) (a : List Nat) (r : Option Value) : Prop := match i, r with
  | .ireturn, some (.int v) => xa_rok (a.getD 0 0) v
  | _, _ => True
/-- n instructions lead from a state to an answer; calls by a relation -/
def xa_ev (C : Nat → List Value → xa_H → Option Value → xa_H → Prop) (tb : List xa_I) : Nat → xa_S → xa_R → Prop
  | 0, _, _ => False
  | n + 1, (pc, ls, st, h), q => match xa_lk tb pc with
    | none => False
    | some (i, len, a, cv) => match xa_step i len a cv pc ls st h with
      | none => False
      | some (.inl s') => xa_ev C tb n s' q
      | some (.inr (.inl r)) => xa_fine i a r.1 ∧ q = r
      | some (.inr (.inr (mi, as, (pc', ls', st')))) => ∃ (r : Option Value) (h' : xa_H), C mi as h r h' ∧ xa_ev C tb n (pc', ls', r.toList ++ st', h') q
/-- the slots of an argument -/
def xa_ar (v : Value) : List Value := match v with
  | .long x => [.long x, .float 0]
  | v => [v]
/-- a method's locals at its entry -/
def xa_en (as : List Value) (n : Nat) : List Value := as.flatMap xa_ar ++ List.replicate (n - (as.flatMap xa_ar).length) (.float 0)
def xa_kn (v : Value) : Bool := match v with
  | .float _ => false
  | .double _ => false
  | _ => true
def xa_rn (ms : List xa_M) : Nat → Nat → List Value → xa_H → Option Value → xa_H → Prop
  | 0 => fun _ _ _ _ _ => False
  | d + 1 => fun mi as h r h' => ∃ (M : xa_M) (n : Nat), ms[mi]? = some M ∧ ((xa_en as M.2.2.1).length = M.2.2.1 ∧ as.all xa_kn = true) ∧ xa_ev (xa_rn ms d) M.2.2.2.2 n (0, xa_en as M.2.2.1, [], h) (r, h')
end
section
/-! ===== how the small machine's states stand for the machine's ===== -/
def xa_v (tr : Nat → Nat) (fmt : Value) (v : Value) : Value := match v with
  | .ref k => .ref (tr k)
  | .retAddr _ => fmt
  | v => v
def xa_L (tr : Nat → Nat) (fmt : Value) (nL : Nat) (ls : List Value) (rl : Array Slot) : Prop := ls.length = nL ∧ rl.size = nL ∧ lv_wf rl ∧ ∀ (k : Nat) (v : Value), ls[k]? = some v → xa_kn v = true → rl[k]? = some (.val (xa_v tr fmt v))
/-- the listed locals, as the kit's rows take them -/
def xa_pl (tr : Nat → Nat) (fmt : Value) (ls : List Value) : List (Nat × Value) := (List.range ls.length).filterMap fun k => match ls[k]? with
  | some v => if xa_kn v = true then some (k, xa_v tr fmt v) else none
  | none => none
theorem xa_pl_mem {tr : Nat → Nat} {fmt : Value} {ls : List Value} {q : Nat × Value} : q ∈ xa_pl tr fmt ls ↔ ∃ v, ls[q.1]? = some v ∧ xa_kn v = true ∧ q.2 = xa_v tr fmt v := by
  unfold xa_pl
  rw [List.mem_filterMap]
  constructor
  · rintro ⟨k, hk, he⟩
    cases hv : ls[k]? with
    | none => simp [hv] at he
    | some v =>
      by_cases hn : xa_kn v = true
      · simp [hv, hn] at he
        subst he
        exact ⟨v, hv, hn, rfl⟩
      · simp [hv, hn] at he
  · rintro ⟨v, hv, hn, he⟩
    refine ⟨q.1, ?_, ?_⟩
    · exact List.mem_range.mpr (List.getElem?_eq_some_iff.mp hv).1
    · simp [hv, hn, ← he]
theorem xa_L.has {tr : Nat → Nat} {fmt : Value} {nL : Nat} {ls : List Value} {rl : Array Slot} (h : xa_L tr fmt nL ls rl) : lv_has rl nL (xa_pl tr fmt ls) := by
  refine ⟨h.2.1, h.2.2.1, fun q hq => ?_⟩
  obtain ⟨v, h1, h2, h3⟩ := xa_pl_mem.mp hq
  rw [h3]
  exact h.2.2.2 _ _ h1 h2
theorem xa_cat {tr : Nat → Nat} {fmt : Value} (hf : fmt.category = 1) (v : Value) : (xa_v tr fmt v).category = v.category := by
  cases v <;> first | rfl | exact hf
theorem xa_cats {tr : Nat → Nat} {fmt : Value} (hf : fmt.category = 1) (r : List Value) : ((r.map (xa_v tr fmt)).map fun v => v.category).sum = (r.map fun v => v.category).sum := by
  rw [List.map_map]
  congr 1
  apply List.map_congr_left
  intro v _
  exact xa_cat hf v
theorem xa_L.store {tr : Nat → Nat} {fmt : Value} {nL : Nat} {ls : List Value} {rl rl' : Array Slot} {i : Nat} {v : Value} (hf : fmt.category = 1) (h : xa_L tr fmt nL ls rl) (hfr : xa_free ls i = true) (h' : lv_has rl' nL ((i, xa_v tr fmt v) :: (xa_pl tr fmt ls).filter (fun q => !(q.1 == i) && !(q.1 + 1 == i && q.2.category == 2)))) : xa_L tr fmt nL (ls.set i v) rl' := by
  refine ⟨by rw [List.length_set]; exact h.1, h'.1, h'.2.1, fun k w hk hn => ?_⟩
  by_cases hki : k = i
  · subst hki
    have hlt : k < ls.length := by
      have := (List.getElem?_eq_some_iff.mp hk).1
      rwa [List.length_set] at this
    rw [List.getElem?_set_self hlt] at hk
    cases hk
    exact h'.2.2 (k, xa_v tr fmt v) List.mem_cons_self
  · rw [List.getElem?_set_ne (fun e => hki e.symm)] at hk
    refine h'.2.2 (k, xa_v tr fmt w) (List.mem_cons_of_mem _ (List.mem_filter.mpr ⟨xa_pl_mem.mpr ⟨w, hk, hn, rfl⟩, ?_⟩))
    simp only [Bool.and_eq_true, Bool.not_eq_true', beq_eq_false_iff_ne, ne_eq, Bool.and_eq_false_iff]
    refine ⟨hki, ?_⟩
    by_cases hk1 : k + 1 = i
    · right
      intro hc
      subst hk1
      rw [xa_cat hf] at hc
      unfold xa_free at hfr
      simp only [Bool.and_eq_true, hk] at hfr
      cases w <;> simp [Value.category] at hc
      · simp at hfr
      · simp [xa_kn] at hn
    · exact Or.inl hk1
theorem xa_free_lt {ls : List Value} {i : Nat} (h : xa_free ls i = true) : i < ls.length := by
  cases i with
  | zero => exact Nat.le_of_ble_eq_true h
  | succ j =>
    unfold xa_free at h
    simp only [Bool.and_eq_true] at h
    exact Nat.le_of_ble_eq_true h.1
/-- refs of the plans' array -/
def xa_rf (tr : Nat → Nat) (fs : List Value) : Nat → Option Nat := fun j => match fs[j]? with
  | some (.ref k) => some (tr k)
  | _ => none
/-- what a cell is on the machine's heap -/
def xa_cell (D : va_G) (cI cP : ClassId) (tr : Nat → Nat) (fmt : Value) (A : Nat → Prop) (U : State) (H : Heap) (k : Nat) (c : xa_C) : Prop := match c with
  | .inl (kd, n, f) => (kd = 0 ∧ A (tr k) ∧ H[tr k]? = some (vp_cell cI (n, .inl f))) ∨ (kd = 1 ∧ va_T .byte (tr k) n (fun j => .int (f j)) A U H) ∨ (kd = 2 ∧ va_T .int (tr k) n (fun j => .int (f j)) A U H)
  | .inr (ci, fs) => (ci = 50 ∧ A (tr k) ∧ H[tr k]? = some (vp_cell cP (fs.length, .inr (.inr (.inr (.inr (xa_rf tr fs))))))) ∨ (ci = 60 ∧ va_O "java/lang/String" (tr k) A U H ∧ (∀ v, fs[0]? = some v → va_OF "java/lang/String" "value" "[B" (xa_v tr fmt v) (tr k) A U H) ∧ ∀ v, fs[1]? = some v → va_OF "java/lang/String" "coder" "B" (xa_v tr fmt v) (tr k) A U H) ∨ (ci < 12 ∧ A (tr k) ∧ va_at D vwCl (tr k, .inr (ci, fs.map (xa_v tr fmt))) H)
def xa_HR (D : va_G) (cI cP : ClassId) (tr : Nat → Nat) (fmt : Value) (A : Nat → Prop) (U : State) (h : xa_H) (H : Heap) : Prop := H.size = tr h.length ∧ 9 ≤ h.length ∧ ∀ (k : Nat) (c : xa_C), h[k]? = some c → xa_cell D cI cP tr fmt A U H k c
/-- where the cells lie: the first nine are old, the others one behind the other from b0 on -/
def xa_tr (tr : Nat → Nat) (b0 : Nat) : Prop := (∀ k, 9 ≤ k → tr k = b0 + (k - 9)) ∧ ∀ k, k < 9 → tr k < b0
theorem xa_tr.inj {tr : Nat → Nat} {b0 j k : Nat} (h : xa_tr tr b0) (hk : b0 ≤ tr k) (e : tr j = tr k) : j = k := by
  have hk9 : 9 ≤ k := by
    rcases Nat.lt_or_ge k 9 with q | q
    · have := h.2 k q; omega
    · exact q
  have hj9 : 9 ≤ j := by
    rcases Nat.lt_or_ge j 9 with q | q
    · have := h.2 j q; omega
    · exact q
  rw [h.1 j hj9, h.1 k hk9] at e
  omega
section XA1
variable {D : va_G} {cI cP : ClassId} {tr : Nat → Nat} {fmt : Value} {b0 : Nat} {U : State} {h : xa_H} {H H1 : Heap}
theorem xa_cell.lt {A : Nat → Prop} {k : Nat} {c : xa_C} (hc : xa_cell D cI cP tr fmt A U H k c) : tr k < H.size := by
  obtain ⟨kd, n, f⟩ | ⟨ci, fs⟩ := c
  · rcases hc with ⟨-, -, h⟩ | ⟨-, ⟨_, h, -⟩⟩ | ⟨-, ⟨_, h, -⟩⟩
    · exact (Array.getElem?_eq_some_iff.mp h).1
    · exact (Array.getElem?_eq_some_iff.mp h).1
    · exact (Array.getElem?_eq_some_iff.mp h).1
  · rcases hc with ⟨-, -, h⟩ | ⟨-, ⟨_, h, -⟩, -⟩ | ⟨-, -, h⟩
    · exact (Array.getElem?_eq_some_iff.mp h).1
    · exact (Array.getElem?_eq_some_iff.mp h).1
    · exact h.lt
theorem xa_cell.kept {A : Nat → Prop} {k : Nat} {c : xa_C} (hc : xa_cell D cI cP tr fmt A U H k c) (hq : H1[tr k]? = H[tr k]?) (ho : ∀ a : Nat, a < H.size → ¬ A a → H1[a]? = H[a]?) : xa_cell D cI cP tr fmt A U H1 k c := by
  obtain ⟨kd, n, f⟩ | ⟨ci, fs⟩ := c
  · rcases hc with ⟨h1, h2, h⟩ | ⟨h1, h⟩ | ⟨h1, h⟩
    · exact Or.inl ⟨h1, h2, hq.trans h⟩
    · exact Or.inr (Or.inl ⟨h1, h.kept ho⟩)
    · exact Or.inr (Or.inr ⟨h1, h.kept ho⟩)
  · rcases hc with ⟨h1, h2, h⟩ | ⟨h1, h2, h3, h4⟩ | ⟨h1, h2, h⟩
    · exact Or.inl ⟨h1, h2, hq.trans h⟩
    · exact Or.inr (Or.inl ⟨h1, h2.kept ho, fun v hv => (h3 v hv).kept ho, fun v hv => (h4 v hv).kept ho⟩)
    · exact Or.inr (Or.inr ⟨h1, h2, h.kept hq⟩)
theorem xa_cell.moved {A : Nat → Prop} {u : State} {k : Nat} {c : xa_C} (hvm : u.vm.Alike U.vm) (hc : xa_cell D cI cP tr fmt A u H k c) : xa_cell D cI cP tr fmt A U H k c := by
  obtain ⟨kd, n, f⟩ | ⟨ci, fs⟩ := c
  · rcases hc with h | ⟨h1, h⟩ | ⟨h1, h⟩
    · exact Or.inl h
    · exact Or.inr (Or.inl ⟨h1, va_T.moved hvm h⟩)
    · exact Or.inr (Or.inr ⟨h1, va_T.moved hvm h⟩)
  · rcases hc with h | ⟨h1, h2, h3, h4⟩ | h
    · exact Or.inl h
    · exact Or.inr (Or.inl ⟨h1, va_O.moved hvm h2, fun v hv => va_OF.moved hvm (h3 v hv), fun v hv => va_OF.moved hvm (h4 v hv)⟩)
    · exact Or.inr (Or.inr h)
theorem xa_HR.moved {A : Nat → Prop} {u : State} (hvm : u.vm.Alike U.vm) (hR : xa_HR D cI cP tr fmt A u h H) : xa_HR D cI cP tr fmt A U h H := ⟨hR.1, hR.2.1, fun k c hk => (hR.2.2 k c hk).moved hvm⟩
theorem xa_HR.set (hT : xa_tr tr b0) (hR : xa_HR D cI cP tr fmt (fun q => b0 ≤ q) U h H) {k : Nat} {c : xa_C} (hA : b0 ≤ tr k) (z : H1.size = H.size) (oq : ∀ q : Nat, q ≠ tr k → H1[q]? = H[q]?) (hc : xa_cell D cI cP tr fmt (fun q => b0 ≤ q) U H1 k c) : xa_HR D cI cP tr fmt (fun q => b0 ≤ q) U (h.set k c) H1 := by
  refine ⟨by rw [z, List.length_set]; exact hR.1, by rw [List.length_set]; exact hR.2.1, fun j c' hj => ?_⟩
  by_cases e : j = k
  · subst e
    have hlt : j < h.length := by
      have := (List.getElem?_eq_some_iff.mp hj).1
      rwa [List.length_set] at this
    rw [List.getElem?_set_self hlt] at hj
    cases hj
    exact hc
  · rw [List.getElem?_set_ne (fun q => e q.symm)] at hj
    exact (hR.2.2 j c' hj).kept (oq _ (fun q => e (hT.inj hA q))) (fun a _ ha => oq a (fun q => ha (by rw [q]; exact hA)))
theorem xa_HR.push (hT : xa_tr tr b0) (hR : xa_HR D cI cP tr fmt (fun q => b0 ≤ q) U h H) {c : xa_C} (z : H1.size = H.size + 1) (oq : ∀ q : Nat, q < H.size → H1[q]? = H[q]?) (hc : xa_cell D cI cP tr fmt (fun q => b0 ≤ q) U H1 h.length c) : xa_HR D cI cP tr fmt (fun q => b0 ≤ q) U (h ++ [c]) H1 := by
  refine ⟨?_, by rw [List.length_append]; have := hR.2.1; omega, fun j c' hj => ?_⟩
  · rw [z, hR.1, List.length_append, List.length_singleton, hT.1 _ hR.2.1, hT.1 _ (by have := hR.2.1; omega)]
    have := hR.2.1
    omega
  · by_cases e : j < h.length
    · rw [List.getElem?_append_left e] at hj
      have hc' := hR.2.2 j c' hj
      exact hc'.kept (oq _ hc'.lt) (fun a ha _ => oq a ha)
    · rw [List.getElem?_append_right (by omega)] at hj
      have hz : j - h.length < 1 := (List.getElem?_eq_some_iff.mp hj).1
      have hz0 : j - h.length = 0 := by omega
      rw [hz0] at hj
      cases hj
      have : j = h.length := by omega
      subst this
      exact hc
theorem xa_HR.top (hT : xa_tr tr b0) (hR : xa_HR D cI cP tr fmt (fun q => b0 ≤ q) U h H) : b0 ≤ tr h.length := by
  rw [hT.1 _ hR.2.1]
  omega
end XA1
/-- slots of a cell, of all cells -/
def xa_s1 (c : xa_C) : Nat := match c with
  | .inl (_, n, _) => n
  | .inr (_, fs) => fs.length
def xa_sl (h : xa_H) : Nat := (h.map xa_s1).sum
theorem xa_sl_app (h : xa_H) (c : xa_C) : xa_sl (h ++ [c]) = xa_sl h + xa_s1 c := by
  simp [xa_sl]
theorem xa_sl_set {h : xa_H} {k : Nat} {c c' : xa_C} (hk : h[k]? = some c) (he : xa_s1 c' = xa_s1 c) : xa_sl (h.set k c') = xa_sl h := by
  induction h generalizing k with
  | nil => simp at hk
  | cons a as ih =>
    cases k with
    | zero =>
      simp at hk
      subst hk
      simp [xa_sl, he]
    | succ k =>
      simp at hk
      have := ih hk
      simp [xa_sl] at this ⊢
      omega
end
section
/-! ===== which words hold, and which entries of a table are right ===== -/
def xa_gw : List Cond := lw_tbl.filter goodWord
/-- a word stands at a place of the tables -/
def xa_in (k : Nat) (w : Cond) : Bool := decide (lw_tbl[k]? = some w) && goodWord w
theorem xa_in_gw {k : Nat} {w : Cond} (h : xa_in k w = true) : w ∈ xa_gw := by
  unfold xa_in at h
  simp only [Bool.and_eq_true, decide_eq_true_eq] at h
  exact List.mem_filter.mpr ⟨List.mem_of_getElem? h.1, h.2⟩
theorem xa_gw_good : GoodIn xa_gw xa_gw := fun w hw => ⟨hw, good_of_word (List.mem_filter.mp hw).2⟩
def xa_nest : List Cond := lw_tbl.filter fun w => match w with
  | .methodLinkNest _ _ _ _ => true
  | _ => false
/-- the stack's instructions -/
def xa_okA (own : String) (i : Jvm.ClassFile.Instr) (len : Nat) (a : List Nat) (cv : Int32) : Bool := match i with
  | .iconst n => decide (len = 1 ∧ Int32.ofInt n = cv)
  | .bipush n => decide (len = 2 ∧ (Int8.ofInt n).toInt32 = cv)
  | .sipush n => decide (len = 3 ∧ (Int16.ofInt n).toInt32 = cv)
  | .ldc_w k => decide (len = 3) && xa_in (a.getD 5 0) (.constant own k cv)
  | .ldc2_w k => decide (len = 3) && xa_in (a.getD 5 0) (.constantLong own k (Int64.ofNat (a.headD 0)))
  | _ => decide (len = 1)
section XA2
variable {p : Program} {l : Launch} {e : Env} {R : Room} {s : State} {m : MethodId} {args : Array Value} {below : List Frame} {meth : Method} {c : Code} {H : Heap} {locs : List Loc} {cells slots : Nat} {Q : State → Prop} {cc : ByteArray} {own : String} {tr : Nat → Nat} {fmt : Value} {pc len : Nat} {a : List Nat} {cv : Int32} {rl : Array Slot} {st st' : List Value} {i : Jvm.ClassFile.Instr}
theorem xa_c1_cat {v : Value} (h : xa_c1 v = true) : (xa_v tr fmt v).category = 1 := by
  cases v <;> first | rfl | (simp [xa_c1] at h)
set_option maxHeartbeats 4000000 in
theorem xs_alu (hx : p.tables.exec = Jvm.exec) (hb : c.code = cc) (hown : s.vm.findClass own = some m.cls) (hts : ∀ w ∈ xa_gw, w.before args s = true) (hok : xa_okA own i len a cv = true) (hdg : decode cc pc = .ok (i, len)) (hs : xa_alu i a cv st = some st')
    (kk : W p l e R s m args below meth c H locs cells slots Q (F0 m (pc + len) rl (st'.map (xa_v tr fmt)))) : W p l e R s m args below meth c H locs cells slots Q (F0 m pc rl (st.map (xa_v tr fmt))) := by
  cases i with
  | iconst n =>
    obtain ⟨rfl, h2⟩ : len = 1 ∧ Int32.ofInt n = cv := by simpa [xa_okA] using hok
    cases hs
    exact lv_iconst hx hb hdg h2 kk
  | bipush n =>
    obtain ⟨rfl, h2⟩ : len = 2 ∧ (Int8.ofInt n).toInt32 = cv := by simpa [xa_okA] using hok
    cases hs
    exact lv_bipush hx hb hdg h2 kk
  | sipush n =>
    obtain ⟨rfl, h2⟩ : len = 3 ∧ (Int16.ofInt n).toInt32 = cv := by simpa [xa_okA] using hok
    cases hs
    exact lv_sipush hx hb hdg h2 kk
  | ldc_w k =>
    obtain ⟨rfl, h2⟩ : len = 3 ∧ xa_in (a.getD 5 0) (.constant own k cv) = true := by simpa [xa_okA] using hok
    cases hs
    exact lv_ldcw hx hb hown (hts _ (xa_in_gw h2)) hdg kk
  | ldc2_w k =>
    obtain ⟨rfl, h2⟩ : len = 3 ∧ xa_in (a.getD 5 0) (.constantLong own k (Int64.ofNat (a.headD 0))) = true := by simpa [xa_okA] using hok
    cases hs
    exact lv_ldc2 hx hb hown (hts _ (xa_in_gw h2)) hdg kk
  | iadd =>
    obtain rfl : len = 1 := by simpa [xa_okA] using hok
    simp only [xa_alu] at hs
    split at hs
    · cases hs
      exact lv_iadd hx hb hdg kk
    · cases hs
  | isub =>
    obtain rfl : len = 1 := by simpa [xa_okA] using hok
    simp only [xa_alu] at hs
    split at hs
    · cases hs
      exact lv_isub hx hb hdg kk
    · cases hs
  | imul =>
    obtain rfl : len = 1 := by simpa [xa_okA] using hok
    simp only [xa_alu] at hs
    split at hs
    · cases hs
      exact lv_imul hx hb hdg kk
    · cases hs
  | iand =>
    obtain rfl : len = 1 := by simpa [xa_okA] using hok
    simp only [xa_alu] at hs
    split at hs
    · cases hs
      exact lv_iand hx hb hdg kk
    · cases hs
  | ior =>
    obtain rfl : len = 1 := by simpa [xa_okA] using hok
    simp only [xa_alu] at hs
    split at hs
    · cases hs
      exact lv_ior hx hb hdg kk
    · cases hs
  | ixor =>
    obtain rfl : len = 1 := by simpa [xa_okA] using hok
    simp only [xa_alu] at hs
    split at hs
    · cases hs
      exact lv_ixor hx hb hdg kk
    · cases hs
  | ishl =>
    obtain rfl : len = 1 := by simpa [xa_okA] using hok
    simp only [xa_alu] at hs
    split at hs
    · cases hs
      exact lv_ishl hx hb hdg kk
    · cases hs
  | ishr =>
    obtain rfl : len = 1 := by simpa [xa_okA] using hok
    simp only [xa_alu] at hs
    split at hs
    · cases hs
      exact lv_ishr hx hb hdg kk
    · cases hs
  | land =>
    obtain rfl : len = 1 := by simpa [xa_okA] using hok
    simp only [xa_alu] at hs
    split at hs
    · cases hs
      exact lv_land hx hb hdg kk
    · cases hs
  | lor =>
    obtain rfl : len = 1 := by simpa [xa_okA] using hok
    simp only [xa_alu] at hs
    split at hs
    · cases hs
      exact lv_lor hx hb hdg kk
    · cases hs
  | iushr =>
    obtain rfl : len = 1 := by simpa [xa_okA] using hok
    simp only [xa_alu] at hs
    split at hs
    · cases hs
      exact lv_iushr hx hb hdg rfl kk
    · cases hs
  | i2l =>
    obtain rfl : len = 1 := by simpa [xa_okA] using hok
    simp only [xa_alu] at hs
    split at hs
    · cases hs
      exact lv_i2l hx hb hdg rfl kk
    · cases hs
  | l2i =>
    obtain rfl : len = 1 := by simpa [xa_okA] using hok
    simp only [xa_alu] at hs
    split at hs
    · cases hs
      exact lv_l2i hx hb hdg rfl kk
    · cases hs
  | i2b =>
    obtain rfl : len = 1 := by simpa [xa_okA] using hok
    simp only [xa_alu] at hs
    split at hs
    · cases hs
      exact lv_i2b hx hb hdg rfl kk
    · cases hs
  | i2c =>
    obtain rfl : len = 1 := by simpa [xa_okA] using hok
    simp only [xa_alu] at hs
    split at hs
    · cases hs
      exact lv_i2c hx hb hdg rfl kk
    · cases hs
  | lshl =>
    obtain rfl : len = 1 := by simpa [xa_okA] using hok
    simp only [xa_alu] at hs
    split at hs
    · cases hs
      exact lv_lshl hx hb hdg rfl kk
    · cases hs
  | lshr =>
    obtain rfl : len = 1 := by simpa [xa_okA] using hok
    simp only [xa_alu] at hs
    split at hs
    · cases hs
      exact lv_lshr hx hb hdg rfl kk
    · cases hs
  | lushr =>
    obtain rfl : len = 1 := by simpa [xa_okA] using hok
    simp only [xa_alu] at hs
    split at hs
    · cases hs
      exact lv_lushr hx hb hdg rfl kk
    · cases hs
  | idiv =>
    obtain rfl : len = 1 := by simpa [xa_okA] using hok
    simp only [xa_alu] at hs
    split at hs
    · split at hs
      · cases hs
      · cases hs
        exact lv_idiv hx hb hdg (by assumption) kk
    · cases hs
  | irem =>
    obtain rfl : len = 1 := by simpa [xa_okA] using hok
    simp only [xa_alu] at hs
    split at hs
    · split at hs
      · cases hs
      · cases hs
        exact lv_irem hx hb hdg (by assumption) kk
    · cases hs
  | dup =>
    obtain rfl : len = 1 := by simpa [xa_okA] using hok
    simp only [xa_alu] at hs
    split at hs
    · split at hs
      · rename_i hc
        cases hs
        exact lv_dup hx hb hdg (xa_c1_cat hc) kk
      · cases hs
    · cases hs
  | pop =>
    obtain rfl : len = 1 := by simpa [xa_okA] using hok
    simp only [xa_alu] at hs
    split at hs
    · split at hs
      · rename_i hc
        cases hs
        exact lv_pop hx hb hdg (xa_c1_cat hc) kk
      · cases hs
    · cases hs
  | dup2 =>
    obtain rfl : len = 1 := by simpa [xa_okA] using hok
    simp only [xa_alu] at hs
    split at hs
    · split at hs
      · rename_i hc
        cases hs
        exact lv_dup2_11 hx hb hdg (xa_c1_cat hc.1) (xa_c1_cat hc.2) kk
      · cases hs
    · cases hs
  | _ => simp [xa_alu] at hs
end XA2
end
section
/-! ===== what holds of a state throughout; the rows of the single instructions ===== -/
def xa_Inv (D : va_G) (cI cP : ClassId) (tr : Nat → Nat) (fmt : Value) (A : Nat → Prop) (U : State) : Prop :=
  va_K D vwCl [(cI, .int), (cP, .object "MayMust$Plan")] U ∧ (∀ w ∈ xa_nest, va_Nw w U) ∧ va_AO "MayMust$Plan" U ∧ va_Z "java/lang/String" "COMPACT_STRINGS" "Z" (.int 1) A U U.heap ∧ va_Z "jdk/internal/util/Preconditions" "SIOOBE_FORMATTER" "Ljava/util/function/BiFunction;" fmt A U U.heap ∧ ∀ q ∈ xa_strs, vk_R "MayMust$Tokens" q.1 q.2.1 (tr q.2.2) U
theorem xa_nest_form {w : Cond} (h : w ∈ xa_nest) : ∃ a i x b, w = .methodLinkNest a i x b := by
  have h1 := (List.mem_filter.mp h).2
  cases w <;> first | exact ⟨_, _, _, _, rfl⟩ | (simp at h1)
theorem xa_Inv.to {D : va_G} {cI cP : ClassId} {tr : Nat → Nat} {fmt : Value} {A : Nat → Prop} {s U : State} (hW : s.WarmedH U.vm) (hh : ∀ a : Nat, a < s.heap.size → ¬ A a → U.heap[a]? = s.heap[a]?) (h : xa_Inv D cI cP tr fmt A s) : xa_Inv D cI cP tr fmt A U := by
  obtain ⟨h1, h2, h3, h4, h5, h6⟩ := h
  refine ⟨va_K.moved hW.alike h1, fun w hw => ?_, va_AO.moved hW.alike h3, (va_Z.moved hW.alike h4).kept hh, (va_Z.moved hW.alike h5).kept hh, fun q hq => vk_R.warm hW (h6 q hq)⟩
  obtain ⟨a, i, x, b, rfl⟩ := xa_nest_form hw
  exact va_Nw.warmM hW (h2 _ hw)
theorem xa_Inv.same {D : va_G} {cI cP : ClassId} {tr : Nat → Nat} {fmt : Value} {A : Nat → Prop} {s U : State} (hv : U.vm = s.vm) (hh : U.heap = s.heap) (h : xa_Inv D cI cP tr fmt A s) : xa_Inv D cI cP tr fmt A U := by
  obtain ⟨h1, h2, h3, h4, h5, h6⟩ := h
  have hal : s.vm.Alike U.vm := by rw [hv]; exact Vm.Alike.refl _
  refine ⟨va_K.moved hal h1, fun w hw => ?_, va_AO.moved hal h3, by rw [hh]; exact va_Z.moved hal h4, by rw [hh]; exact va_Z.moved hal h5, fun q hq => vk_R.same hv (h6 q hq)⟩
  obtain ⟨a, i, x, b, rfl⟩ := xa_nest_form hw
  exact va_Nw.same rfl hv.symm (h2 _ hw)
/-- the machine at a state of the small machine comes to Q -/
def xa_WW (p : Program) (l : Launch) (e : Env) (R : Room) (s : State) (m : MethodId) (args : Array Value) (below : List Frame) (meth : Method) (c : Code) (Q : State → Prop) (D : va_G) (cI cP : ClassId) (tr : Nat → Nat) (fmt : Value) (b0 nL n0 s0 : Nat) (σ : xa_S) : Prop :=
  ∀ (rl : Array Slot) (H : Heap) (locs : List Loc) (cells slots : Nat), xa_L tr fmt nL σ.2.1 rl → xa_HR D cI cP tr fmt (fun q => b0 ≤ q) s σ.2.2.2 H → va_S (fun q => b0 ≤ q) s.heap H locs → n0 + cells = σ.2.2.2.length → s0 + slots = xa_sl σ.2.2.2 → W p l e R s m args below meth c H locs cells slots Q (F0 m σ.1 rl (σ.2.2.1.map (xa_v tr fmt)))
def xa_isref (ty : FieldType) : Bool := match ty with
  | .object _ => true
  | .array _ => true
  | _ => false
/-- a callee's parameters -/
def xa_okM (M : xa_M) (n : Nat) : Bool := decide (M.1.cls ≠ "java/lang/invoke/MethodHandle" ∧ M.1.cls ≠ "java/lang/invoke/VarHandle" ∧ (parseMethodDescriptor M.1.desc).map (fun d => d.parameters.length) = some n) && Nat.ble M.2.2.1 40 && plainName M.1.cls
/-- an entry of a table is right -/
def xa_okB (ms : List xa_M) (y : MethodName) (ret : Option FieldType) (pc : Nat) (i : Jvm.ClassFile.Instr) (len : Nat) (a : List Nat) (cv : Int32) : Bool := match i with
  | .iload k => decide (len = 2 ∧ a.getD 0 0 = k)
  | .iload_n k => decide (len = 1 ∧ (k : Nat) = a.getD 0 0)
  | .lload_n k => decide (len = 1 ∧ (k : Nat) = a.getD 0 0)
  | .aload k => decide (len = 2 ∧ a.getD 0 0 = k)
  | .aload_n k => decide (len = 1 ∧ (k : Nat) = a.getD 0 0)
  | .istore k => decide (len = 2 ∧ a.getD 0 0 = k)
  | .istore_n k => decide (len = 1 ∧ (k : Nat) = a.getD 0 0)
  | .astore_n k => decide (len = 1 ∧ (k : Nat) = a.getD 0 0)
  | .iinc k n => decide (len = 3 ∧ a.getD 0 0 = k ∧ Int32.ofInt n = cv)
  | .goto off => decide (len = 3 ∧ (pc : Int) + off = ((a.getD 0 0 : Nat) : Int))
  | .ifCond _ off => decide (len = 3 ∧ (pc : Int) + off = ((a.getD 0 0 : Nat) : Int))
  | .if_icmp _ off => decide (len = 3 ∧ (pc : Int) + off = ((a.getD 0 0 : Nat) : Int))
  | .tableswitch d lo hi offs => decide (lo = 0 ∧ hi = (a.length : Int) - 2 ∧ (pc : Int) + d = ((a.getD 0 0 : Nat) : Int)) && (List.range (a.length - 1)).all (fun j => match offs[j]? with
    | some off => decide ((pc : Int) + off = ((a.getD (j + 1) 0 : Nat) : Int))
    | none => false)
  | .getfield k => decide (len = 3) && (match a.getD 0 0 with
    | 60 => (match a.getD 1 0 with
      | 0 => xa_in (a.getD 5 0) (.fieldLink y.cls k "java/lang/String" "value" "[B")
      | 1 => xa_in (a.getD 5 0) (.fieldLink y.cls k "java/lang/String" "coder" "B")
      | _ => false)
    | ci => decide (ci < 12) && (match vwCl[ci]? with
      | some q => decide (a.getD 1 0 < q.2.2) && xa_in (a.getD 5 0) (.fieldLink y.cls k (q.2.1 (a.getD 1 0)).1 (q.2.1 (a.getD 1 0)).2.1 (q.2.1 (a.getD 1 0)).2.2.1)
      | none => false))
  | .putfield k => decide (len = 3 ∧ a.getD 0 0 < 12) && (match vwCl[a.getD 0 0]? with
      | some q => decide (a.getD 1 0 < q.2.2) && xa_in (a.getD 5 0) (.fieldLink y.cls k (q.2.1 (a.getD 1 0)).1 (q.2.1 (a.getD 1 0)).2.1 (q.2.1 (a.getD 1 0)).2.2.1) && (match parseFieldDescriptor (q.2.1 (a.getD 1 0)).2.2.1 with
        | some ty => (match a.getD 2 0 with
          | 0 => decide (ty = .int)
          | _ => xa_isref ty)
        | none => false) && (if (q.2.1 (a.getD 1 0)).2.2.2 = true then decide (y.name = "<init>" ∧ (q.2.1 (a.getD 1 0)).1 = y.cls) else true)
      | none => false)
  | .newarray t => decide (len = 2 ∧ t = .int) && xa_in (a.getD 5 0) (.arrayClass .int)
  | .anewarray k => decide (len = 3) && xa_in (a.getD 5 0) (.classLink y.cls k "MayMust$Plan")
  | .new k => decide (len = 3) && (match vwCl[a.getD 0 0]? with
      | some q => xa_in (a.getD 5 0) (.classLink y.cls k q.1) && xa_in (a.getD 6 0) (.instantiable q.1 q.2.2) && xa_in (a.getD 7 0) (.initialized q.1) && decide ((xa_df (a.getD 0 0)).length = q.2.2) && (List.range q.2.2).all (fun j => match parseFieldDescriptor (q.2.1 j).2.2.1 with
        | some ty => decide (defaultValue ty = vp_V (xa_df (a.getD 0 0)) j)
        | none => false)
      | none => false)
  | .getstatic k => decide (len = 3) && (match a.getD 0 0 with
    | 0 => xa_in (a.getD 5 0) (.fieldLink y.cls k "java/lang/String" "COMPACT_STRINGS" "Z")
    | _ => xa_in (a.getD 5 0) (.fieldLink y.cls k "jdk/internal/util/Preconditions" "SIOOBE_FORMATTER" "Ljava/util/function/BiFunction;"))
  | .ldc k => decide (len = 2) && (match a.getD 0 0 with
    | 0 => xa_in (a.getD 5 0) (.constant y.cls k cv)
    | j + 1 => decide (y.cls = "MayMust$Tokens") && xa_strs.any (fun q => decide (q.1 = k ∧ q.2.2 = j + 1)))
  | .invokestatic k => decide (len = 3) && (match a.getD 0 0 with
    | 2 => xa_in (a.getD 5 0) (.methodLink y.cls k arraycopyName) && xa_in (a.getD 6 0) (.native arraycopyName) && xa_in (a.getD 7 0) (.static arraycopyName) && xa_in (a.getD 8 0) (.initialized "java/lang/System")
    | 3 => xa_in (a.getD 5 0) (.methodLink y.cls k Lib.Math.max.name) && xa_in (a.getD 6 0) (.static Lib.Math.max.name) && xa_in (a.getD 7 0) (.initialized "java/lang/Math") && xa_in (a.getD 8 0) (.code Lib.Math.max.name Lib.Math.max.code 2 (some .int))
    | 4 => xa_in (a.getD 5 0) (.methodLink y.cls k Lib.Math.min.name) && xa_in (a.getD 6 0) (.static Lib.Math.min.name) && xa_in (a.getD 7 0) (.initialized "java/lang/Math") && xa_in (a.getD 8 0) (.code Lib.Math.min.name Lib.Math.min.code 2 (some .int))
    | 0 => (match ms[a.getD 1 0]? with
      | some M => xa_okM M (a.getD 2 0) && xa_in (a.getD 5 0) (.methodLink y.cls k M.1) && xa_in (a.getD 6 0) (.static M.1)
      | none => false)
    | 1 => (match ms[a.getD 1 0]? with
      | some M => xa_okM M (a.getD 2 0) && decide (lw_tbl[a.getD 9 0]? = some (Cond.methodLinkNest y.cls k M.1 "MayMust")) && xa_in (a.getD 5 0) (.static M.1)
      | none => false)
    | _ => false)
  | .invokevirtual k => decide (len = 3) && (match ms[a.getD 1 0]? with
      | some M => xa_okM M (a.getD 2 0) && xa_in (a.getD 5 0) (.methodLink y.cls k M.1) && xa_in (a.getD 6 0) (.instanceMethod M.1) && xa_in (a.getD 7 0) (.selects M.1.cls M.1 M.1) && (match a.getD 3 0 with
        | 60 => decide (M.1.cls = "java/lang/String")
        | ci => decide (ci < 12) && (match vwCl[ci]? with
          | some q => decide (q.1 = M.1.cls)
          | none => false))
      | none => false)
  | .invokespecial k => decide (len = 3) && (match a.getD 0 0 with
    | 9 => xa_in (a.getD 5 0) (.methodLink y.cls k objectInit) && xa_in (a.getD 6 0) (.instanceMethod objectInit) && xa_in (a.getD 7 0) (.code objectInit ⟨#[0xb1]⟩ 1 none)
    | 0 => (match ms[a.getD 1 0]? with
      | some M => xa_okM M (a.getD 2 0) && xa_in (a.getD 5 0) (.methodLink y.cls k M.1) && xa_in (a.getD 6 0) (.instanceMethod M.1) && decide (M.1.name = "<init>" ∧ M.2.2.2.1 = none)
      | none => false)
    | 1 => (match ms[a.getD 1 0]? with
      | some M => xa_okM M (a.getD 2 0) && decide (lw_tbl[a.getD 9 0]? = some (Cond.methodLinkNest y.cls k M.1 "MayMust")) && xa_in (a.getD 5 0) (.instanceMethod M.1) && decide (M.1.name = "<init>" ∧ M.2.2.2.1 = none)
      | none => false)
    | _ => false)
  | .ireturn => decide (len = 1) && (match a.getD 0 0 with
    | 0 => decide (ret = some .int)
    | 1 => decide (ret = some .boolean)
    | 2 => decide (ret = some .char)
    | _ => decide (ret = some .byte))
  | .return_ => decide (len = 1 ∧ ret = none)
  | .iaload => decide (len = 1)
  | .baload => decide (len = 1)
  | .iastore => decide (len = 1)
  | .arraylength => decide (len = 1)
  | .aaload => decide (len = 1)
  | .aastore => decide (len = 1)
  | i => xa_okA y.cls i len a cv
/-- a callee's own words, by the places that its table's first row tells -/
def xa_okC (M : xa_M) : Bool := match M.2.2.2.2 with
  | e :: _ => xa_in (e.2.2.2.1.getD 0 0) (.code M.1 M.2.1 M.2.2.1 M.2.2.2.1) && xa_in (e.2.2.2.1.getD 1 0) (.initialized M.1.cls)
  | [] => false
theorem xa_nest_of {k : Nat} {o : String} {j : Nat} {y : MethodName} {b : String} (h : lw_tbl[k]? = some (Cond.methodLinkNest o j y b)) : Cond.methodLinkNest o j y b ∈ xa_nest := List.mem_filter.mpr ⟨List.mem_of_getElem? h, rfl⟩
section XA3
variable {p : Program} {l : Launch} {e : Env} {R : Room} {s : State} {m : MethodId} {args : Array Value} {below : List Frame} {meth : Method} {c : Code} {Q : State → Prop} {D : va_G} {cI cP : ClassId} {tr : Nat → Nat} {fmt : Value} {b0 nL n0 s0 : Nat} {cc : ByteArray} {own : String} {pc k tgt : Nat} {ls st : List Value} {h : xa_H} {σ : xa_S}
theorem xs_ldi {n2 : Nat} (row : ∀ {rl : Array Slot} {H : Heap} {locs : List Loc} {cells slots : Nat} {x : Int32} {rest : List Value}, rl[k]? = some (.val (.int x)) → W p l e R s m args below meth c H locs cells slots Q (F0 m n2 rl (.int x :: rest)) → W p l e R s m args below meth c H locs cells slots Q (F0 m pc rl rest)) (hs : xa_ldi n2 k ls st h = some (.inl σ)) (kk : xa_WW p l e R s m args below meth c Q D cI cP tr fmt b0 nL n0 s0 σ) : xa_WW p l e R s m args below meth c Q D cI cP tr fmt b0 nL n0 s0 (pc, ls, st, h) := by
  intro rl H locs cells slots hl hR hS hc1 hc2
  unfold xa_ldi at hs
  split at hs
  · rename_i x hx
    cases hs
    exact row (hl.2.2.2 k _ hx rfl) (kk rl H locs cells slots hl hR hS hc1 hc2)
  · cases hs
theorem xs_ldl {n2 : Nat} (row : ∀ {rl : Array Slot} {H : Heap} {locs : List Loc} {cells slots : Nat} {x : Int64} {rest : List Value}, rl[k]? = some (.val (.long x)) → W p l e R s m args below meth c H locs cells slots Q (F0 m n2 rl (.long x :: rest)) → W p l e R s m args below meth c H locs cells slots Q (F0 m pc rl rest)) (hs : xa_ldl n2 k ls st h = some (.inl σ)) (kk : xa_WW p l e R s m args below meth c Q D cI cP tr fmt b0 nL n0 s0 σ) : xa_WW p l e R s m args below meth c Q D cI cP tr fmt b0 nL n0 s0 (pc, ls, st, h) := by
  intro rl H locs cells slots hl hR hS hc1 hc2
  unfold xa_ldl at hs
  split at hs
  · rename_i x hx
    cases hs
    exact row (hl.2.2.2 k _ hx rfl) (kk rl H locs cells slots hl hR hS hc1 hc2)
  · cases hs
theorem xs_lda {n2 : Nat} (row : ∀ {rl : Array Slot} {H : Heap} {locs : List Loc} {cells slots : Nat} {x : Nat} {rest : List Value}, rl[k]? = some (.val (.ref x)) → W p l e R s m args below meth c H locs cells slots Q (F0 m n2 rl (.ref x :: rest)) → W p l e R s m args below meth c H locs cells slots Q (F0 m pc rl rest)) (hs : xa_lda n2 k ls st h = some (.inl σ)) (kk : xa_WW p l e R s m args below meth c Q D cI cP tr fmt b0 nL n0 s0 σ) : xa_WW p l e R s m args below meth c Q D cI cP tr fmt b0 nL n0 s0 (pc, ls, st, h) := by
  intro rl H locs cells slots hl hR hS hc1 hc2
  unfold xa_lda at hs
  split at hs
  · rename_i x hx
    cases hs
    exact row (hl.2.2.2 k _ hx rfl) (kk rl H locs cells slots hl hR hS hc1 hc2)
  · cases hs
theorem xs_sti {n2 : Nat} (hf : fmt.category = 1) (row : ∀ {rl : Array Slot} {H : Heap} {locs : List Loc} {cells slots : Nat} {x : Int32} {rest : List Value} {lv : List (Nat × Value)}, lv_has rl nL lv → k < nL → (∀ ls' : Array Slot, lv_has ls' nL ((k, Value.int x) :: lv.filter (fun q => !(q.1 == k) && !(q.1 + 1 == k && q.2.category == 2))) → W p l e R s m args below meth c H locs cells slots Q (F0 m n2 ls' rest)) → W p l e R s m args below meth c H locs cells slots Q (F0 m pc rl (.int x :: rest))) (hs : xa_sti n2 k ls st h = some (.inl σ)) (kk : xa_WW p l e R s m args below meth c Q D cI cP tr fmt b0 nL n0 s0 σ) : xa_WW p l e R s m args below meth c Q D cI cP tr fmt b0 nL n0 s0 (pc, ls, st, h) := by
  intro rl H locs cells slots hl hR hS hc1 hc2
  unfold xa_sti at hs
  split at hs
  · split at hs
    · rename_i x r hfr
      cases hs
      refine row hl.has (by rw [← hl.1]; exact xa_free_lt hfr) (fun ls' h' => kk ls' H locs cells slots (hl.store hf hfr (v := .int x) h') hR hS hc1 hc2)
    · cases hs
  · cases hs
theorem xs_sta {n2 : Nat} (hf : fmt.category = 1) (row : ∀ {rl : Array Slot} {H : Heap} {locs : List Loc} {cells slots : Nat} {x : Nat} {rest : List Value} {lv : List (Nat × Value)}, lv_has rl nL lv → k < nL → (∀ ls' : Array Slot, lv_has ls' nL ((k, Value.ref x) :: lv.filter (fun q => !(q.1 == k) && !(q.1 + 1 == k && q.2.category == 2))) → W p l e R s m args below meth c H locs cells slots Q (F0 m n2 ls' rest)) → W p l e R s m args below meth c H locs cells slots Q (F0 m pc rl (.ref x :: rest))) (hs : xa_sta n2 k ls st h = some (.inl σ)) (kk : xa_WW p l e R s m args below meth c Q D cI cP tr fmt b0 nL n0 s0 σ) : xa_WW p l e R s m args below meth c Q D cI cP tr fmt b0 nL n0 s0 (pc, ls, st, h) := by
  intro rl H locs cells slots hl hR hS hc1 hc2
  unfold xa_sta at hs
  split at hs
  · split at hs
    · rename_i x r hfr
      cases hs
      refine row hl.has (by rw [← hl.1]; exact xa_free_lt hfr) (fun ls' h' => kk ls' H locs cells slots (hl.store hf hfr (v := .ref x) h') hR hS hc1 hc2)
    · cases hs
  · cases hs
theorem xs_inc {n2 : Nat} {cv : Int32} {n : Int} (hf : fmt.category = 1) (hx : p.tables.exec = Jvm.exec) (hb : c.code = cc) (hn2 : n2 = pc + 3) (hn : Int32.ofInt n = cv) (hdg : decode cc pc = .ok (.iinc k n, 3)) (hs : xa_inc n2 k cv ls st h = some (.inl σ)) (kk : xa_WW p l e R s m args below meth c Q D cI cP tr fmt b0 nL n0 s0 σ) : xa_WW p l e R s m args below meth c Q D cI cP tr fmt b0 nL n0 s0 (pc, ls, st, h) := by
  intro rl H locs cells slots hl hR hS hc1 hc2
  subst hn2
  unfold xa_inc at hs
  split at hs
  · rename_i x hx1
    split at hs
    · rename_i hfr
      cases hs
      have hm : (k, Value.int x) ∈ xa_pl tr fmt ls := xa_pl_mem.mpr ⟨_, hx1, rfl, rfl⟩
      obtain ⟨j, hj⟩ := List.getElem?_of_mem hm
      exact lv_iinc (v := x + cv) hx hb hdg hl.has hj (by rw [hn]) (by rw [← hl.1]; exact xa_free_lt hfr) rfl (fun ls' h' => kk ls' H locs cells slots (hl.store hf hfr (v := .int (x + cv)) h') hR hS hc1 hc2)
    · cases hs
  · cases hs
theorem xs_if1 {cd : Jvm.ClassFile.Cond} {off : Int} (hx : p.tables.exec = Jvm.exec) (hb : c.code = cc) (hdg : decode cc pc = .ok (.ifCond cd off, 3)) (ht : (pc : Int) + off = (tgt : Int)) (hs : xa_if1 cd (pc + 3) tgt ls st h = some (.inl σ)) (kk : xa_WW p l e R s m args below meth c Q D cI cP tr fmt b0 nL n0 s0 σ) : xa_WW p l e R s m args below meth c Q D cI cP tr fmt b0 nL n0 s0 (pc, ls, st, h) := by
  intro rl H locs cells slots hl hR hS hc1 hc2
  unfold xa_if1 at hs
  split at hs
  · rename_i x r
    cases hs
    have kk := kk rl H locs cells slots hl hR hS hc1 hc2
    cases cd with
    | eq => exact lv_if_eq hx hb hdg ht (fun q => by simpa [xa_cmp, q] using kk) (fun q => by simpa [xa_cmp, q] using kk)
    | ne => exact lv_if_ne hx hb hdg ht (fun q => by simpa [xa_cmp, q] using kk) (fun q => by simpa [xa_cmp, q] using kk)
    | lt => exact lv_if_lt hx hb hdg ht (fun q => by simpa [xa_cmp, q] using kk) (fun q => by simpa [xa_cmp, q] using kk)
    | ge => exact lv_if_ge hx hb hdg ht (fun q => by simpa [xa_cmp, q] using kk) (fun q => by simpa [xa_cmp, q] using kk)
    | gt => exact lv_if_gt hx hb hdg ht (fun q => by simpa [xa_cmp, q] using kk) (fun q => by simpa [xa_cmp, q] using kk)
    | le => exact lv_if_le hx hb hdg ht (fun q => by simpa [xa_cmp, q] using kk) (fun q => by simpa [xa_cmp, q] using kk)
  · cases hs
theorem xs_if2 {cd : Jvm.ClassFile.Cond} {off : Int} (hx : p.tables.exec = Jvm.exec) (hb : c.code = cc) (hdg : decode cc pc = .ok (.if_icmp cd off, 3)) (ht : (pc : Int) + off = (tgt : Int)) (hs : xa_if2 cd (pc + 3) tgt ls st h = some (.inl σ)) (kk : xa_WW p l e R s m args below meth c Q D cI cP tr fmt b0 nL n0 s0 σ) : xa_WW p l e R s m args below meth c Q D cI cP tr fmt b0 nL n0 s0 (pc, ls, st, h) := by
  intro rl H locs cells slots hl hR hS hc1 hc2
  unfold xa_if2 at hs
  split at hs
  · rename_i y x r
    cases hs
    have kk := kk rl H locs cells slots hl hR hS hc1 hc2
    cases cd with
    | eq => exact lv_icmp_eq hx hb hdg ht (fun q => by simpa [xa_cmp, q] using kk) (fun q => by simpa [xa_cmp, q] using kk)
    | ne => exact lv_icmp_ne hx hb hdg ht (fun q => by simpa [xa_cmp, q] using kk) (fun q => by simpa [xa_cmp, q] using kk)
    | lt => exact lv_icmp_lt hx hb hdg ht (fun q => by simpa [xa_cmp, q] using kk) (fun q => by simpa [xa_cmp, q] using kk)
    | ge => exact lv_icmp_ge hx hb hdg ht (fun q => by simpa [xa_cmp, q] using kk) (fun q => by simpa [xa_cmp, q] using kk)
    | gt => exact lv_icmp_gt hx hb hdg ht (fun q => by simpa [xa_cmp, q] using kk) (fun q => by simpa [xa_cmp, q] using kk)
    | le => exact lv_icmp_le hx hb hdg ht (fun q => by simpa [xa_cmp, q] using kk) (fun q => by simpa [xa_cmp, q] using kk)
  · cases hs
end XA3
end
section
/-! ===== the instructions that see cells ===== -/
def xa_ty (q : vw_C) (k : Nat) : FieldType := (parseFieldDescriptor (q.2.1 k).2.2.1).getD .int
def xa_clsok (x : vw_C × List Nat) : Bool := let q := x.1
  decide ((u_ws q.1 q.2.1 q.2.2) = x.2.filterMap (fun k => lw_tbl[k]?)) && (u_ws q.1 q.2.1 q.2.2).all goodWord && (List.range q.2.2).all (fun k => (parseFieldDescriptor (q.2.1 k).2.2.1).isSome) && decide (∀ a, a < q.2.2 → ∀ b, b < q.2.2 → a ≠ b → (q.2.1 a).2.1 ≠ (q.2.1 b).2.1)
set_option maxRecDepth 100000 in
theorem xa_clsoks : (vwCl.zip xa_clsp).all xa_clsok = true := by decide +kernel
theorem xa_cls {ci : Nat} {q : vw_C} (h : vwCl[ci]? = some q) : (∀ w ∈ u_ws q.1 q.2.1 q.2.2, w ∈ xa_gw) ∧ (∀ k, k < q.2.2 → parseFieldDescriptor (q.2.1 k).2.2.1 = some (xa_ty q k)) ∧ ∀ a, a < q.2.2 → ∀ b, b < q.2.2 → a ≠ b → (q.2.1 a).2.1 ≠ (q.2.1 b).2.1 := by
  have hlt : ci < 12 := (List.getElem?_eq_some_iff.mp h).1
  obtain ⟨ps, hps⟩ : ∃ ps, xa_clsp[ci]? = some ps := ⟨_, List.getElem?_eq_getElem (show ci < xa_clsp.length from hlt)⟩
  have h1 := List.all_eq_true.mp xa_clsoks (q, ps) (List.mem_of_getElem? (i := ci) (by rw [List.getElem?_zip_eq_some]; exact ⟨h, hps⟩))
  unfold xa_clsok at h1
  simp only [Bool.and_eq_true, decide_eq_true_eq] at h1
  obtain ⟨⟨⟨h2, h2b⟩, h3⟩, h4⟩ := h1
  refine ⟨fun w hw => ?_, fun k hk => ?_, h4⟩
  · have hg := List.all_eq_true.mp h2b w hw
    rw [h2] at hw
    obtain ⟨j, -, hj⟩ := List.mem_filterMap.mp hw
    exact List.mem_filter.mpr ⟨List.mem_of_getElem? hj, hg⟩
  have h5 := List.all_eq_true.mp h3 k (List.mem_range.mpr hk)
  unfold xa_ty
  cases hp : parseFieldDescriptor (q.2.1 k).2.2.1 with
  | none => simp [hp] at h5
  | some t => rfl
theorem xa_P1 {D : va_G} {e : Nat × va_E} {H : Heap} (h : va_at D vwCl e H) : va_P D vwCl [e] H := by
  intro k q hk
  cases k with
  | zero => cases hk; exact h
  | succ k => simp at hk
section XA4
variable {p : Program} {l : Launch} {e : Env} {R : Room} {s : State} {m : MethodId} {args : Array Value} {below : List Frame} {meth : Method} {c : Code} {Q : State → Prop} {D : va_G} {cI cP : ClassId} {tr : Nat → Nat} {fmt : Value} {b0 nL n0 s0 : Nat} {cc : ByteArray} {own : String} {pc k : Nat} {ls st : List Value} {h : xa_H} {σ : xa_S}
theorem xs_getf {ci fk : Nat} (hx : p.tables.exec = Jvm.exec) (hb : c.code = cc) (hown : s.vm.findClass own = some m.cls) (hts : ∀ w ∈ xa_gw, w.before args s = true) (hI : xa_Inv D cI cP tr fmt (fun q => b0 ≤ q) s)
    (hok : (ci = 60 ∧ ((fk = 0 ∧ Cond.fieldLink own k "java/lang/String" "value" "[B" ∈ xa_gw) ∨ (fk = 1 ∧ Cond.fieldLink own k "java/lang/String" "coder" "B" ∈ xa_gw))) ∨ (ci < 12 ∧ ∃ q, vwCl[ci]? = some q ∧ fk < q.2.2 ∧ Cond.fieldLink own k (q.2.1 fk).1 (q.2.1 fk).2.1 (q.2.1 fk).2.2.1 ∈ xa_gw))
    (hdg : decode cc pc = .ok (.getfield k, 3)) (hs : xa_getf (pc + 3) ci fk ls st h = some (.inl σ)) (kk : xa_WW p l e R s m args below meth c Q D cI cP tr fmt b0 nL n0 s0 σ) : xa_WW p l e R s m args below meth c Q D cI cP tr fmt b0 nL n0 s0 (pc, ls, st, h) := by
  intro rl H locs cells slots hl hR hS hc1 hc2
  unfold xa_getf at hs
  split at hs
  · rename_i o r
    split at hs
    · rename_i c2 fs ho
      split at hs
      · rename_i hcc
        split at hs
        · rename_i v hv
          cases hs
          have kk := kk rl H locs cells slots hl hR hS hc1 hc2
          have hcell := hR.2.2 o _ ho
          subst hcc
          rcases hok with ⟨h60, hok⟩ | ⟨h12, q, hq, hfk, hlink⟩
          · rcases hcell with ⟨h50, -⟩ | ⟨-, hO, hV, hC⟩ | ⟨h12, -⟩
            · omega
            · have hmv : ∀ {v : Value} {nm d : String}, va_OF "java/lang/String" nm d v (tr o) (fun q => b0 ≤ q) s H → ∃ (cf : ClassId) (k : Class) (i : Nat) (f : Field) (cell : Cell), s.fieldFound? "java/lang/String" nm d = some (cf, k, i, f) ∧ f.isStatic = false ∧ H[tr o]? = some cell ∧ cell.vm ≠ .unknown ∧ cell.slots[f.slot]? = some v := by
                intro v nm d hh
                obtain ⟨cf, k, i, f, cell, g1, g2, g3, g4, g5, g6⟩ := hh
                exact ⟨cf, k, i, f, cell, g1, g2, g3, g4, g5⟩
              rcases hok with ⟨rfl, hlink⟩ | ⟨rfl, hlink⟩
              · obtain ⟨cf, k, i, f, cell, g1, g2, g3, g4, g5⟩ := hmv (hV v hv)
                exact W.getf hx hb hown (hts _ hlink) g1 g2 g3 g4 g5 rfl rfl hdg kk
              · obtain ⟨cf, k, i, f, cell, g1, g2, g3, g4, g5⟩ := hmv (hC v hv)
                exact W.getf hx hb hown (hts _ hlink) g1 g2 g3 g4 g5 rfl rfl hdg kk
            · omega
          · rcases hcell with ⟨h50, -⟩ | ⟨h60, -⟩ | ⟨-, -, hat⟩
            · omega
            · omega
            · exact va_get (C := q.1) (T := q.2.1) (N := q.2.2) (v := xa_v tr fmt v) hx hb hts (xa_cls hq).1 hown hI.1 (xa_P1 hat) 0 rfl hq fk hfk (hts _ hlink) (fun _ h9 => h9) (by rw [List.getElem?_map, hv]; rfl) hdg kk
        · cases hs
      · cases hs
    · cases hs
  · cases hs
theorem xs_putf {ci fk kd : Nat} (hx : p.tables.exec = Jvm.exec) (hb : c.code = cc) (hown : s.vm.findClass own = some m.cls) (hts : ∀ w ∈ xa_gw, w.before args s = true) (hI : xa_Inv D cI cP tr fmt (fun q => b0 ≤ q) s) (hT : xa_tr tr b0) {q : vw_C} {ty : FieldType} (h12 : ci < 12) (hq : vwCl[ci]? = some q) (hfk : fk < q.2.2) (hlink : Cond.fieldLink own k (q.2.1 fk).1 (q.2.1 fk).2.1 (q.2.1 fk).2.2.1 ∈ xa_gw) (hd : parseFieldDescriptor (q.2.1 fk).2.2.1 = some ty) (hty : ∀ v, xa_kd kd v = true → narrow ty (xa_v tr fmt v) = xa_v tr fmt v ∧ fits ty (xa_v tr fmt v) = true) (hfin : (q.2.1 fk).2.2.2 = true → meth.name = "<init>" ∧ (q.2.1 fk).1 = own)
    (hdg : decode cc pc = .ok (.putfield k, 3)) (hs : xa_putf (pc + 3) ci fk kd ls st h = some (.inl σ)) (kk : xa_WW p l e R s m args below meth c Q D cI cP tr fmt b0 nL n0 s0 σ) : xa_WW p l e R s m args below meth c Q D cI cP tr fmt b0 nL n0 s0 (pc, ls, st, h) := by
  intro rl H locs cells slots hl hR hS hc1 hc2
  unfold xa_putf at hs
  split at hs
  · rename_i v o r
    split at hs
    · rename_i c2 fs ho
      split at hs
      · rename_i hcc
        cases hs
        obtain ⟨rfl, hlen, hkd⟩ := hcc
        obtain ⟨hn, hfit⟩ := hty v hkd
        obtain ⟨hin, hty0, hnm⟩ := xa_cls hq
        have hK := hI.1
        rcases hR.2.2 o _ ho with ⟨h50, -⟩ | ⟨h60, -⟩ | ⟨-, hA, hat⟩
        · omega
        · omega
        · have hap := va_apart (own := own) hts hin (xa_ty q) hty0 hnm hK hq
          obtain ⟨r', h1, cell, q1, q2, q3, q4⟩ := hat
          have hr : q = r' := Option.some.inj (hq.symm.trans h1)
          subst hr
          obtain ⟨hSl, hfc, kC, hkC, hkind⟩ := hK.1 c2 _ hq
          obtain ⟨cf, kf, fi, f, hi, hsl⟩ := hSl fk hfk
          have hst := (u_facts hfc hkC (u_lays hts hin hfk) hi).1
          have hfin2 : ∀ (H' : Heap), H'[tr o]? = some (cell.setSlot f.slot (xa_v tr fmt v)) → H'.size = H.size → (∀ q : Nat, q ≠ tr o → H'[q]? = H[q]?) → W p l e R s m args below meth c H' (locs ++ [⟨tr o, f.slot⟩]) cells slots Q (F0 m (pc + 3) rl (r.map (xa_v tr fmt))) := by
            intro H' e1 e2 e3
            rw [hsl] at e1
            refine kk rl H' _ cells slots hl (hR.set hT hA e2 e3 (Or.inr (Or.inr ⟨h12, hA, _, hq, t_OB.to (V := updV (vp_V (fs.map (xa_v tr fmt))) fk (xa_v tr fmt v)) ⟨_, e1, q2, q3, t_set q4 hap hfk _⟩ (fun j _ => ?_)⟩))) (hS.put e2 e3 hA) (by rw [List.length_set]; exact hc1) (by rw [xa_sl_set ho (by simp [xa_s1])]; exact hc2)
            have := vp_updV_set (fs := fs.map (xa_v tr fmt)) (k := fk) (by rw [List.length_map]; exact hlen) (xa_v tr fmt v) j
            rw [this]
            simp [List.map_set]
          by_cases hfn : (q.2.1 fk).2.2.2 = true
          · obtain ⟨hi1, hi2⟩ := hfin hfn
            have hlay := hts _ (hin _ (u_in_lay hfk))
            unfold u_lay at hlay
            rw [if_pos hfn] at hlay
            have hcf : m.cls = cf := by
              obtain ⟨_, _, c', _, _, _, -, -, hf', -, -, -, hown2, -⟩ := Cond.laysFinal_spec hlay
              have e1 : c' = cf := by have := hi.symm.trans hf'; simp at this; exact this.1.symm
              rw [hi2] at hown2
              rw [← e1]; exact Option.some.inj (hown.symm.trans hown2)
            have h6 := u_fits hfc hkC hkind (Or.inr hlay) hi hd hn hfit
            exact W.putFinK hx hb hown (hts _ hlink) hi hst hcf hi1 (by rw [q2]; exact h6) q1 q3 (by rw [hsl]; exact k2_hasslot (q4 fk hfk)) rfl rfl hdg hfin2
          · have hlay := hts _ (hin _ (u_in_lay hfk))
            unfold u_lay at hlay
            rw [if_neg hfn] at hlay
            have h6 := u_store hfc hkC hkind hlay hi hd hn hfit
            exact W.putK hx hb (f := f) ⟨hown, hts _ hlink, ⟨_, _, _, hi⟩, hst⟩ (by rw [q2]; exact h6) q1 q3 (by rw [hsl]; exact k2_hasslot (q4 fk hfk)) rfl rfl hdg hfin2
      · cases hs
    · cases hs
  · cases hs
theorem xs_iald (hx : p.tables.exec = Jvm.exec) (hb : c.code = cc) (hI : xa_Inv D cI cP tr fmt (fun q => b0 ≤ q) s)
    (hdg : decode cc pc = .ok (.iaload, 1)) (hs : xa_iald (pc + 1) ls st h = some (.inl σ)) (kk : xa_WW p l e R s m args below meth c Q D cI cP tr fmt b0 nL n0 s0 σ) : xa_WW p l e R s m args below meth c Q D cI cP tr fmt b0 nL n0 s0 (pc, ls, st, h) := by
  intro rl H locs cells slots hl hR hS hc1 hc2
  unfold xa_iald at hs
  split at hs
  · rename_i i o r
    split at hs
    · rename_i kd n f ho
      split at hs
      · rename_i hcc
        cases hs
        have kk := kk rl H locs cells slots hl hR hS hc1 hc2
        obtain ⟨hkd, hin⟩ := hcc
        rcases hR.2.2 o _ ho with ⟨-, hA, hat⟩ | ⟨h1, -⟩ | ⟨-, hT⟩
        · have hlt : i.toNatClampNeg < n := Nat.not_le.mp fun q => hin (Or.inr q)
          exact W.iald (v := .int (f i.toNatClampNeg)) hx hb hat ((hI.1.2 0 _ rfl).1 n (fun j => .int (f j))) (fun q => by cases q) (by show ¬ (i < 0 ∨ (arrV _ _ _).slots.size ≤ _); rw [arrV_size]; exact hin) (by show (arrV _ _ _).slots[_]? = _; rw [arrV_read _ _ hlt]) rfl rfl hdg kk
        · omega
        · obtain ⟨cell, h1, h2, h3, h4, h5, h6, h7⟩ := hT
          have hlt : i.toNatClampNeg < n := Nat.not_le.mp fun q => hin (Or.inr q)
          have hin' : ¬ (i < 0 ∨ cell.slots.size ≤ i.toNatClampNeg) := by
            intro q
            rcases q with q | q
            · exact hin (Or.inl q)
            · omega
          exact W.iald (v := .int (f i.toNatClampNeg)) hx hb h1 h2 h3 hin' (by rw [h6 _ hlt]) rfl rfl hdg kk
      · cases hs
    · cases hs
  · cases hs
theorem xs_bald (hx : p.tables.exec = Jvm.exec) (hb : c.code = cc)
    (hdg : decode cc pc = .ok (.baload, 1)) (hs : xa_bald (pc + 1) ls st h = some (.inl σ)) (kk : xa_WW p l e R s m args below meth c Q D cI cP tr fmt b0 nL n0 s0 σ) : xa_WW p l e R s m args below meth c Q D cI cP tr fmt b0 nL n0 s0 (pc, ls, st, h) := by
  intro rl H locs cells slots hl hR hS hc1 hc2
  unfold xa_bald at hs
  split at hs
  · rename_i i o r
    split at hs
    · rename_i kd n f ho
      split at hs
      · rename_i hcc
        cases hs
        have kk := kk rl H locs cells slots hl hR hS hc1 hc2
        obtain ⟨hkd, hin⟩ := hcc
        rcases hR.2.2 o _ ho with ⟨h1, -⟩ | ⟨-, hT⟩ | ⟨h1, -⟩
        · omega
        · obtain ⟨cell, h1, h2, h3, h4, h5, h6, h7⟩ := hT
          have hlt : i.toNatClampNeg < n := Nat.not_le.mp fun q => hin (Or.inr q)
          have hin' : ¬ (i < 0 ∨ cell.slots.size ≤ i.toNatClampNeg) := by
            intro q
            rcases q with q | q
            · exact hin (Or.inl q)
            · omega
          exact W.bald (v := .int (f i.toNatClampNeg)) hx hb h1 h2 h3 hin' (by rw [h6 _ hlt]) rfl rfl hdg kk
        · omega
      · cases hs
    · cases hs
  · cases hs
theorem xs_alen (hx : p.tables.exec = Jvm.exec) (hb : c.code = cc) (hI : xa_Inv D cI cP tr fmt (fun q => b0 ≤ q) s)
    (hdg : decode cc pc = .ok (.arraylength, 1)) (hs : xa_alen (pc + 1) ls st h = some (.inl σ)) (kk : xa_WW p l e R s m args below meth c Q D cI cP tr fmt b0 nL n0 s0 σ) : xa_WW p l e R s m args below meth c Q D cI cP tr fmt b0 nL n0 s0 (pc, ls, st, h) := by
  intro rl H locs cells slots hl hR hS hc1 hc2
  unfold xa_alen at hs
  split at hs
  · rename_i o r
    split at hs
    · rename_i kd n f ho
      cases hs
      have kk := kk rl H locs cells slots hl hR hS hc1 hc2
      rcases hR.2.2 o _ ho with ⟨-, hA, hat⟩ | ⟨h1, hT⟩ | ⟨-, hT⟩
      · exact W.alen (n := nI n) hx hb hat ((hI.1.2 0 _ rfl).1 n (fun j => .int (f j))) (by show (arrV _ _ _).slots.size.toInt32 = _; rw [arrV_size]; rfl) rfl rfl hdg kk
      · obtain ⟨cell, h1, h2, h3, h4, h5, h6, h7⟩ := hT
        exact W.alen (n := nI n) hx hb h1 h2 h5 rfl rfl hdg kk
      · obtain ⟨cell, h1, h2, h3, h4, h5, h6, h7⟩ := hT
        exact W.alen (n := nI n) hx hb h1 h2 h5 rfl rfl hdg kk
    · cases hs
  · cases hs
theorem xs_iast (hx : p.tables.exec = Jvm.exec) (hb : c.code = cc) (hI : xa_Inv D cI cP tr fmt (fun q => b0 ≤ q) s) (hT : xa_tr tr b0)
    (hdg : decode cc pc = .ok (.iastore, 1)) (hs : xa_iast (pc + 1) ls st h = some (.inl σ)) (kk : xa_WW p l e R s m args below meth c Q D cI cP tr fmt b0 nL n0 s0 σ) : xa_WW p l e R s m args below meth c Q D cI cP tr fmt b0 nL n0 s0 (pc, ls, st, h) := by
  intro rl H locs cells slots hl hR hS hc1 hc2
  unfold xa_iast at hs
  split at hs
  · rename_i x i o r
    split at hs
    · rename_i kd n f ho
      split at hs
      · rename_i hcc
        cases hs
        obtain ⟨rfl, hin⟩ := hcc
        rcases hR.2.2 o _ ho with ⟨-, hA, hat⟩ | ⟨h1, -⟩ | ⟨h1, -⟩
        · refine W.iast hx hb hat ((hI.1.2 0 _ rfl).1 n (fun j => .int (f j))) (fun q => by cases q) (by show ¬ (i < 0 ∨ (arrV _ _ _).slots.size ≤ _); rw [arrV_size]; exact hin) rfl rfl hdg fun H1 e1 z oq => ?_
          refine kk rl H1 _ cells slots hl (hR.set hT hA z oq (Or.inl ⟨rfl, hA, ?_⟩)) (hS.put z oq hA) (by rw [List.length_set]; exact hc1) (by rw [xa_sl_set (c' := .inl (0, n, upd f i.toNatClampNeg x)) ho rfl]; exact hc2)
          rw [e1, vp_cell_i, vp_cell_i, arrV_store]
          congr 2
          funext q
          by_cases hq : q = i.toNatClampNeg
          · subst hq
            simp [updV, upd]
          · simp [updV, upd, hq]
        · omega
        · omega
      · cases hs
    · cases hs
  · cases hs
theorem xs_newa (hx : p.tables.exec = Jvm.exec) (hb : c.code = cc) (hts : ∀ w ∈ xa_gw, w.before args s = true) (hI : xa_Inv D cI cP tr fmt (fun q => b0 ≤ q) s) (hT : xa_tr tr b0) (hw : Cond.arrayClass .int ∈ xa_gw)
    (hdg : decode cc pc = .ok (.newarray .int, 2)) (hs : xa_newa (pc + 2) ls st h = some (.inl σ)) (hRc : σ.2.2.2.length ≤ n0 + R.cells) (hRs : xa_sl σ.2.2.2 ≤ s0 + R.slots) (kk : xa_WW p l e R s m args below meth c Q D cI cP tr fmt b0 nL n0 s0 σ) : xa_WW p l e R s m args below meth c Q D cI cP tr fmt b0 nL n0 s0 (pc, ls, st, h) := by
  intro rl H locs cells slots hl hR hS hc1 hc2
  unfold xa_newa at hs
  split at hs
  · rename_i n r
    split at hs
    · rename_i hcc
      cases hs
      dsimp only at hRc hRs hc1 hc2
      rw [List.length_append, List.length_singleton] at hRc
      rw [xa_sl_app] at hRs
      have hs1 : xa_s1 (.inl (0, n.toNatClampNeg, fun _ => 0)) = n.toNatClampNeg := rfl
      rw [hs1] at hRs
      refine va_newaK (atype := .int) hx hb (hts _ hw) rfl hdg rfl hcc.1 rfl (by show _ * 4 ≤ _; have := hcc.2; omega) (by omega) (by omega) rfl fun H1 cA e1 z1 o1 hAr hNm => ?_
      have hcA : cA = cI := by
        have h2 : s.vm.findClass ("[" ++ FieldType.int.toString) = some cI := (hI.1.2 0 _ rfl).2
        exact Option.some.inj (hNm.symm.trans h2)
      subst hcA
      have hb1 : b0 ≤ tr h.length := hR.top hT
      have e2 : H1[tr h.length]? = some (vp_cell cA (n.toNatClampNeg, .inl fun _ => 0)) := by rw [← hR.1]; exact e1
      have key := kk rl H1 locs (cells + 1) (slots + n.toNatClampNeg) hl (hR.push hT z1 o1 (Or.inl ⟨rfl, hb1, e2⟩)) ⟨Nat.le_trans hS.1 (by omega), fun x h1 h2 => (o1 x (Nat.lt_of_lt_of_le h1 hS.1)).trans (hS.2.1 x h1 h2), hS.2.2⟩ (by rw [List.length_append, List.length_singleton]; omega) (by rw [xa_sl_app, hs1]; omega)
      rw [hR.1]
      exact key
    · cases hs
  · cases hs
theorem xs_new {ci : Nat} {q : vw_C} (hx : p.tables.exec = Jvm.exec) (hb : c.code = cc) (hown : s.vm.findClass own = some m.cls) (hts : ∀ w ∈ xa_gw, w.before args s = true) (hI : xa_Inv D cI cP tr fmt (fun q => b0 ≤ q) s) (hT : xa_tr tr b0) (h12 : ci < 12) (hq : vwCl[ci]? = some q) (hw1 : Cond.classLink own k q.1 ∈ xa_gw) (hw2 : Cond.instantiable q.1 q.2.2 ∈ xa_gw) (hw3 : Cond.initialized q.1 ∈ xa_gw) (hdl : (xa_df ci).length = q.2.2) (hdf : ∀ j, j < q.2.2 → defaultValue (xa_ty q j) = vp_V ((xa_df ci).map (xa_v tr fmt)) j)
    (hdg : decode cc pc = .ok (.new k, 3)) (hs : xa_new (pc + 3) ci ls st h = some (.inl σ)) (hRc : σ.2.2.2.length ≤ n0 + R.cells) (hRs : xa_sl σ.2.2.2 ≤ s0 + R.slots) (kk : xa_WW p l e R s m args below meth c Q D cI cP tr fmt b0 nL n0 s0 σ) : xa_WW p l e R s m args below meth c Q D cI cP tr fmt b0 nL n0 s0 (pc, ls, st, h) := by
  intro rl H locs cells slots hl hR hS hc1 hc2
  unfold xa_new at hs
  cases hs
  dsimp only at hRc hRs hc1 hc2
  rw [List.length_append, List.length_singleton] at hRc
  rw [xa_sl_app] at hRs
  have hs1 : xa_s1 (.inr (ci, xa_df ci)) = q.2.2 := hdl
  rw [hs1] at hRs
  have hKn := hI.1.1 ci _ hq
  refine W.newcK hx hb hown (hts _ hw1) (hts _ hw2) (hts _ hw3) rfl hdg (by omega) (by omega) hKn.2.1 rfl fun H1 kC hkC e1 z1 o1 => ?_
  have hb1 : b0 ≤ tr h.length := hR.top hT
  have hat : va_at D vwCl (tr h.length, .inr (ci, (xa_df ci).map (xa_v tr fmt))) H1 := by
    rw [← hR.1]
    exact ⟨_, hq, (u_born (xa_ty q) hts (xa_cls hq).1 hKn hkC e1 (xa_cls hq).2.1).to hdf⟩
  have key := kk rl H1 locs (cells + 1) (slots + q.2.2) hl (hR.push hT z1 o1 (Or.inr (Or.inr ⟨h12, hb1, hat⟩))) ⟨Nat.le_trans hS.1 (by omega), fun x h1 h2 => (o1 x (Nat.lt_of_lt_of_le h1 hS.1)).trans (hS.2.1 x h1 h2), hS.2.2⟩ (by rw [List.length_append, List.length_singleton]; omega) (by rw [xa_sl_app, hs1]; omega)
  rw [hR.1]
  exact key
end XA4
end
section
/-! ===== the array of plans, copies, statics, constants, switches ===== -/
theorem xa_rf_null (tr : Nat → Nat) (n : Nat) : xa_rf tr (List.replicate n .null) = fun _ => none := by
  funext j
  unfold xa_rf
  by_cases h : j < n
  · rw [List.getElem?_replicate_of_lt h]
  · rw [List.getElem?_eq_none (by simpa using h)]
section XA5
variable {p : Program} {l : Launch} {e : Env} {R : Room} {s : State} {m : MethodId} {args : Array Value} {below : List Frame} {meth : Method} {c : Code} {Q : State → Prop} {D : va_G} {cI cP : ClassId} {tr : Nat → Nat} {fmt : Value} {b0 nL n0 s0 : Nat} {cc : ByteArray} {own : String} {pc k : Nat} {ls st : List Value} {h : xa_H} {σ : xa_S}
theorem xs_newq (hx : p.tables.exec = Jvm.exec) (hb : c.code = cc) (hown : s.vm.findClass own = some m.cls) (hts : ∀ w ∈ xa_gw, w.before args s = true) (hI : xa_Inv D cI cP tr fmt (fun q => b0 ≤ q) s) (hT : xa_tr tr b0) (hw : Cond.classLink own k "MayMust$Plan" ∈ xa_gw)
    (hdg : decode cc pc = .ok (.anewarray k, 3)) (hs : xa_newq (pc + 3) ls st h = some (.inl σ)) (hRc : σ.2.2.2.length ≤ n0 + R.cells) (hRs : xa_sl σ.2.2.2 ≤ s0 + R.slots) (kk : xa_WW p l e R s m args below meth c Q D cI cP tr fmt b0 nL n0 s0 σ) : xa_WW p l e R s m args below meth c Q D cI cP tr fmt b0 nL n0 s0 (pc, ls, st, h) := by
  intro rl H locs cells slots hl hR hS hc1 hc2
  unfold xa_newq at hs
  split at hs
  · rename_i n r
    split at hs
    · rename_i hcc
      cases hs
      dsimp only at hRc hRs hc1 hc2
      rw [List.length_append, List.length_singleton] at hRc
      rw [xa_sl_app] at hRs
      have hs1 : xa_s1 (.inr (50, List.replicate n.toNatClampNeg .null)) = n.toNatClampNeg := List.length_replicate
      rw [hs1] at hRs
      refine W.anew hx hb hown (hts _ hw) (va_AO.use hI.2.2.1) rfl hdg rfl hcc.1 (by have := hcc.2; omega) (by omega) (by omega) fun cA kA comp f1 f2 f3 f4 => ?_
      have hcA : cA = cP := by
        obtain ⟨_, _, -, -, -, h2⟩ := (hI.1.2 1 _ rfl).2
        exact Option.some.inj (f1.symm.trans h2)
      subst hcA
      generalize hH1 : H.push ({ cls := cA, slots := Array.replicate n.toNatClampNeg .null, vm := .none } : Cell) = H1
      have z1 : H1.size = H.size + 1 := by rw [← hH1, Array.size_push]
      have e1 : H1[H.size]? = some (arrV cA n.toNatClampNeg (fun _ => .null)) := by rw [← hH1, Array.getElem?_push_size, ← arrV_new]
      have o1 : ∀ q : Nat, q < H.size → H1[q]? = H[q]? := fun q hq => by rw [← hH1, Array.getElem?_push, if_neg (Nat.ne_of_lt hq)]
      have hb1 : b0 ≤ tr h.length := hR.top hT
      have e2 : H1[tr h.length]? = some (vp_cell cA ((List.replicate n.toNatClampNeg Value.null).length, .inr (.inr (.inr (.inr (xa_rf tr (List.replicate n.toNatClampNeg .null))))))) := by
        rw [← hR.1, xa_rf_null, List.length_replicate]; exact e1
      have key := kk rl H1 locs (cells + 1) (slots + n.toNatClampNeg) hl (hR.push hT z1 o1 (Or.inl ⟨rfl, hb1, e2⟩)) ⟨Nat.le_trans hS.1 (by omega), fun x h1 h2 => (o1 x (Nat.lt_of_lt_of_le h1 hS.1)).trans (hS.2.1 x h1 h2), hS.2.2⟩ (by rw [List.length_append, List.length_singleton]; omega) (by rw [xa_sl_app, hs1]; omega)
      rw [hR.1]
      exact key
    · cases hs
  · cases hs
theorem xs_aald (hx : p.tables.exec = Jvm.exec) (hb : c.code = cc) (hI : xa_Inv D cI cP tr fmt (fun q => b0 ≤ q) s)
    (hdg : decode cc pc = .ok (.aaload, 1)) (hs : xa_aald (pc + 1) ls st h = some (.inl σ)) (kk : xa_WW p l e R s m args below meth c Q D cI cP tr fmt b0 nL n0 s0 σ) : xa_WW p l e R s m args below meth c Q D cI cP tr fmt b0 nL n0 s0 (pc, ls, st, h) := by
  intro rl H locs cells slots hl hR hS hc1 hc2
  unfold xa_aald at hs
  split at hs
  · rename_i i o r
    split at hs
    · rename_i c2 fs ho
      split at hs
      · rename_i hcc
        split at hs
        · rename_i q hq
          cases hs
          have kk := kk rl H locs cells slots hl hR hS hc1 hc2
          obtain ⟨rfl, h0⟩ := hcc
          rcases hR.2.2 o _ ho with ⟨-, hA, hat⟩ | ⟨h1, -⟩ | ⟨h1, -⟩
          · have hlt : i.toNatClampNeg < fs.length := (List.getElem?_eq_some_iff.mp hq).1
            refine W.aald (v := .ref (tr q)) (ty := .object "MayMust$Plan") hx hb hat ((hI.1.2 1 _ rfl).1 fs.length (fun j => va_rf (xa_rf tr fs j))) rfl (fun q => by cases q) (by show ¬ (i < 0 ∨ (arrV _ _ _).slots.size ≤ _); rw [arrV_size]; rintro (q1 | q1); exact h0 q1; omega) (by show (arrV _ _ _).slots[_]? = _; rw [arrV_read _ _ hlt]; simp [xa_rf, hq, va_rf]) rfl rfl hdg kk
          · omega
          · omega
        · cases hs
      · cases hs
    · cases hs
  · cases hs
theorem xs_aast (hx : p.tables.exec = Jvm.exec) (hb : c.code = cc) (hI : xa_Inv D cI cP tr fmt (fun q => b0 ≤ q) s) (hT : xa_tr tr b0)
    (hdg : decode cc pc = .ok (.aastore, 1)) (hs : xa_aast (pc + 1) ls st h = some (.inl σ)) (kk : xa_WW p l e R s m args below meth c Q D cI cP tr fmt b0 nL n0 s0 σ) : xa_WW p l e R s m args below meth c Q D cI cP tr fmt b0 nL n0 s0 (pc, ls, st, h) := by
  intro rl H locs cells slots hl hR hS hc1 hc2
  unfold xa_aast at hs
  split at hs
  · rename_i v i o r
    split at hs
    · rename_i c2 fs c3 fs3 ho hv
      split at hs
      · rename_i hcc
        cases hs
        obtain ⟨⟨rfl, rfl⟩, h0, hlt⟩ := hcc
        rcases hR.2.2 o _ ho with ⟨-, hA, hat⟩ | ⟨h1, -⟩ | ⟨h1, -⟩
        · rcases hR.2.2 v _ hv with ⟨h1, -⟩ | ⟨h1, -⟩ | ⟨-, hAv, hav⟩
          · omega
          · omega
          · have hcl : vwCl[2]? = some (RX2, TX2, 3) := rfl
            obtain ⟨r', hr', cellV, g1, g2, g3, -⟩ := hav
            have hcls := (hI.1.1 2 _ hcl).2
            obtain ⟨kA, comp, k1, k2, k3, -⟩ := (hI.1.2 1 _ rfl).2
            have hcomp : comp = D.1 2 := Option.some.inj (k3.symm.trans hcls.1)
            subst hcomp
            obtain ⟨kC, hkC, -⟩ := id hcls.2
            refine W.aast hx hb hat (fun q h => by cases h) (fun h => by cases h) k1 k2 rfl hkC ⟨h0, by show _ < (arrV _ _ _).slots.size; rw [arrV_size]; exact hlt⟩ g1 (fun q h => by rw [g3] at h; cases h) (by rw [g2]; exact hkC) (by rw [g2]; exact va_assign hcls) rfl rfl hdg fun H1 e1 z oq => ?_
            refine kk rl H1 _ cells slots hl (hR.set hT hA z oq (Or.inl ⟨rfl, hA, ?_⟩)) (hS.put z oq hA) (by rw [List.length_set]; exact hc1) (by rw [xa_sl_set (c' := .inr (50, fs.set i.toNatClampNeg (.ref v))) ho (by simp [xa_s1])]; exact hc2)
            rw [e1, vp_cell_q, vp_cell_q, arrV_store, List.length_set]
            congr 2
            funext q
            by_cases hq : q = i.toNatClampNeg
            · subst hq
              simp [updV, xa_rf, va_rf, hlt]
            · simp [updV, xa_rf, hq, List.getElem?_set_ne (fun e => hq e.symm)]
        · omega
        · omega
      · cases hs
    · cases hs
  · cases hs
theorem xs_gets {which : Nat} (hx : p.tables.exec = Jvm.exec) (hb : c.code = cc) (hown : s.vm.findClass own = some m.cls) (hts : ∀ w ∈ xa_gw, w.before args s = true) (hI : xa_Inv D cI cP tr fmt (fun q => b0 ≤ q) s)
    (hw0 : which = 0 → Cond.fieldLink own k "java/lang/String" "COMPACT_STRINGS" "Z" ∈ xa_gw) (hw1 : which ≠ 0 → Cond.fieldLink own k "jdk/internal/util/Preconditions" "SIOOBE_FORMATTER" "Ljava/util/function/BiFunction;" ∈ xa_gw)
    (hdg : decode cc pc = .ok (.getstatic k, 3)) (hs : xa_gets (pc + 3) which ls st h = some (.inl σ)) (kk : xa_WW p l e R s m args below meth c Q D cI cP tr fmt b0 nL n0 s0 σ) : xa_WW p l e R s m args below meth c Q D cI cP tr fmt b0 nL n0 s0 (pc, ls, st, h) := by
  intro rl H locs cells slots hl hR hS hc1 hc2
  unfold xa_gets at hs
  split at hs
  · cases hs
    exact va_gets hx hb hI.2.2.2.1 hS hown (hts _ (hw0 rfl)) (fun _ h9 => h9) hdg (kk rl H locs cells slots hl hR hS hc1 hc2)
  · rename_i hne
    cases hs
    exact va_gets hx hb hI.2.2.2.2.1 hS hown (hts _ (hw1 hne)) (fun _ h9 => h9) hdg (kk rl H locs cells slots hl hR hS hc1 hc2)
theorem xs_ldc {which : Nat} {cv : Int32} (hx : p.tables.exec = Jvm.exec) (hb : c.code = cc) (hown : s.vm.findClass own = some m.cls) (hts : ∀ w ∈ xa_gw, w.before args s = true) (hI : xa_Inv D cI cP tr fmt (fun q => b0 ≤ q) s)
    (hw0 : which = 0 → Cond.constant own k cv ∈ xa_gw) (hw1 : ∀ j, which = j + 1 → own = "MayMust$Tokens" ∧ ∃ tx, (k, tx, j + 1) ∈ xa_strs)
    (hdg : decode cc pc = .ok (.ldc k, 2)) (hs : xa_ldc (pc + 2) which cv ls st h = some (.inl σ)) (kk : xa_WW p l e R s m args below meth c Q D cI cP tr fmt b0 nL n0 s0 σ) : xa_WW p l e R s m args below meth c Q D cI cP tr fmt b0 nL n0 s0 (pc, ls, st, h) := by
  intro rl H locs cells slots hl hR hS hc1 hc2
  unfold xa_ldc at hs
  split at hs
  · cases hs
    exact lv_ldc hx hb hown (hts _ (hw0 rfl)) hdg (kk rl H locs cells slots hl hR hS hc1 hc2)
  · rename_i j
    cases hs
    obtain ⟨rfl, tx, hm⟩ := hw1 j rfl
    exact va_ldcS hx hb hown (hI.2.2.2.2.2 _ hm) hdg (kk rl H locs cells slots hl hR hS hc1 hc2)
theorem xs_sum (hf : fmt.category = 1) {r : List Value} (hr : xa_room r = true) : ((r.map (xa_v tr fmt)).map fun v => v.category).sum ≤ 8 := by
  rw [xa_cats hf]
  exact Nat.le_of_ble_eq_true hr
theorem xs_oinit (hx : p.tables.exec = Jvm.exec) (hb : c.code = cc) (hml : c.maxLocals = nL) (hf : fmt.category = 1) (hown : s.vm.findClass own = some m.cls) (hts : ∀ w ∈ xa_gw, w.before args s = true) (hw1 : Cond.methodLink own k objectInit ∈ xa_gw) (hw2 : Cond.instanceMethod objectInit ∈ xa_gw) (hw3 : Cond.code objectInit ⟨#[0xb1]⟩ 1 none ∈ xa_gw) (hRf : 1 ≤ R.frames) (hRl : 64 ≤ R.locals)
    (hdg : decode cc pc = .ok (.invokespecial k, 3)) (hs : xa_oinit (pc + 3) ls st h = some (.inl σ)) (kk : xa_WW p l e R s m args below meth c Q D cI cP tr fmt b0 nL n0 s0 σ) : xa_WW p l e R s m args below meth c Q D cI cP tr fmt b0 nL n0 s0 (pc, ls, st, h) := by
  intro rl H locs cells slots hl hR hS hc1 hc2
  unfold xa_oinit at hs
  split at hs
  · rename_i o r
    split at hs
    · rename_i hr
      cases hs
      have kk := kk rl H locs cells slots hl hR hS hc1 hc2
      have h8 := xs_sum (tr := tr) hf hr
      exact W.objInit hx hb hown (hts _ hw1) (hts _ hw2) (hts _ hw3) rfl (hl.2.1.trans hml.symm) rfl hdg hRf (by show 2 * 0 + _ + 12 ≤ _; omega) kk
    · cases hs
  · cases hs
theorem xs_max (hx : p.tables.exec = Jvm.exec) (hb : c.code = cc) (hml : c.maxLocals = nL) (hf : fmt.category = 1) (hown : s.vm.findClass own = some m.cls) (hts : ∀ w ∈ xa_gw, w.before args s = true) (hw1 : Cond.methodLink own k Lib.Math.max.name ∈ xa_gw) (hw2 : Cond.static Lib.Math.max.name ∈ xa_gw) (hw3 : Cond.initialized "java/lang/Math" ∈ xa_gw) (hw4 : Cond.code Lib.Math.max.name Lib.Math.max.code 2 (some .int) ∈ xa_gw) (hRf : 1 ≤ R.frames) (hRl : 64 ≤ R.locals) (hRc : h.length ≤ n0 + R.cells) (hRs : xa_sl h ≤ s0 + R.slots)
    (hdg : decode cc pc = .ok (.invokestatic k, 3)) (hs : xa_max (pc + 3) ls st h = some (.inl σ)) (kk : xa_WW p l e R s m args below meth c Q D cI cP tr fmt b0 nL n0 s0 σ) : xa_WW p l e R s m args below meth c Q D cI cP tr fmt b0 nL n0 s0 (pc, ls, st, h) := by
  intro rl H locs cells slots hl hR hS hc1 hc2
  unfold xa_max at hs
  split at hs
  · rename_i y x r
    split at hs
    · rename_i hr
      cases hs
      have h8 := xs_sum (tr := tr) hf hr
      dsimp only at hc1 hc2
      exact va_mmax hx hb (hml.trans hl.2.1.symm) hown (hts _ hw1) (hts _ hw2) (hts _ hw3) (hts _ hw4) hRf (by omega) (by omega) (by omega) hdg (kk rl H locs cells slots hl hR hS hc1 hc2)
    · cases hs
  · cases hs
theorem xs_min (hx : p.tables.exec = Jvm.exec) (hb : c.code = cc) (hml : c.maxLocals = nL) (hf : fmt.category = 1) (hown : s.vm.findClass own = some m.cls) (hts : ∀ w ∈ xa_gw, w.before args s = true) (hw1 : Cond.methodLink own k Lib.Math.min.name ∈ xa_gw) (hw2 : Cond.static Lib.Math.min.name ∈ xa_gw) (hw3 : Cond.initialized "java/lang/Math" ∈ xa_gw) (hw4 : Cond.code Lib.Math.min.name Lib.Math.min.code 2 (some .int) ∈ xa_gw) (hRf : 1 ≤ R.frames) (hRl : 64 ≤ R.locals) (hRc : h.length ≤ n0 + R.cells) (hRs : xa_sl h ≤ s0 + R.slots)
    (hdg : decode cc pc = .ok (.invokestatic k, 3)) (hs : xa_min (pc + 3) ls st h = some (.inl σ)) (kk : xa_WW p l e R s m args below meth c Q D cI cP tr fmt b0 nL n0 s0 σ) : xa_WW p l e R s m args below meth c Q D cI cP tr fmt b0 nL n0 s0 (pc, ls, st, h) := by
  intro rl H locs cells slots hl hR hS hc1 hc2
  unfold xa_min at hs
  split at hs
  · rename_i y x r
    split at hs
    · rename_i hr
      cases hs
      have h8 := xs_sum (tr := tr) hf hr
      dsimp only at hc1 hc2
      exact va_mmin hx hb (hml.trans hl.2.1.symm) hown (hts _ hw1) (hts _ hw2) (hts _ hw3) (hts _ hw4) hRf (by omega) (by omega) (by omega) hdg (kk rl H locs cells slots hl hR hS hc1 hc2)
    · cases hs
  · cases hs
theorem xs_copy (hx : p.tables.exec = Jvm.exec) (hb : c.code = cc) (hml : c.maxLocals = nL) (hf : fmt.category = 1) (hown : s.vm.findClass own = some m.cls) (hts : ∀ w ∈ xa_gw, w.before args s = true) (hI : xa_Inv D cI cP tr fmt (fun q => b0 ≤ q) s) (hT : xa_tr tr b0) (hw1 : Cond.methodLink own k arraycopyName ∈ xa_gw) (hw2 : Cond.native arraycopyName ∈ xa_gw) (hw3 : Cond.static arraycopyName ∈ xa_gw) (hw4 : Cond.initialized "java/lang/System" ∈ xa_gw) (hRf : 1 ≤ R.frames) (hRl : 64 ≤ R.locals)
    (hdg : decode cc pc = .ok (.invokestatic k, 3)) (hs : xa_copy (pc + 3) ls st h = some (.inl σ)) (kk : xa_WW p l e R s m args below meth c Q D cI cP tr fmt b0 nL n0 s0 σ) : xa_WW p l e R s m args below meth c Q D cI cP tr fmt b0 nL n0 s0 (pc, ls, st, h) := by
  have nn : ∀ z : Int32, ¬ z < 0 → z.toInt = (z.toNatClampNeg : Int) := by
    intro z hz
    have hz0 : (0 : Int) ≤ z.toInt := by
      have := Int32.not_lt.mp hz
      simpa using Int32.le_iff_toInt_le.mp this
    show z.toInt = ((z.toInt.toNat : Nat) : Int)
    omega
  intro rl H locs cells slots hl hR hS hc1 hc2
  unfold xa_copy at hs
  split at hs
  · rename_i n dp a sp b r
    split at hs
    · rename_i k0 m0 f k1 m1 g hb0 ha0
      split at hs
      · rename_i hcc
        cases hs
        obtain ⟨⟨rfl, rfl⟩, ⟨h1, h2, h3⟩, h4, h5, hr⟩ := hcc
        have h8 := xs_sum (tr := tr) hf hr
        rcases hR.2.2 b _ hb0 with ⟨-, hAb, hcb⟩ | ⟨q, -⟩ | ⟨q, -⟩
        · rcases hR.2.2 a _ ha0 with ⟨-, hAa, hca⟩ | ⟨q, -⟩ | ⟨q, -⟩
          · intro T hTT X
            obtain ⟨-, k0, hk0, cm0, hkk0⟩ := (hI.1.2 0 _ rfl).1 m0 (fun j => .int (f j))
            obtain ⟨-, k1, hk1, cm1, hkk1⟩ := (hI.1.2 0 _ rfl).1 m1 (fun j => .int (g j))
            obtain ⟨vm', X', step⟩ := X.arraycopy hx hown (hts _ hw1) (hts _ hw2) (hts _ hw3) (hts _ hw4) (src := tr b) (dst := tr a) (cs := vp_cell cI (m0, .inl f)) (cd := vp_cell cI (m1, .inl g)) (srcPos := sp) (destPos := dp) (n := n) (by rw [hTT]; exact hcb) (by rw [hTT]; exact hca)
              (fun _ h => by cases h) (fun _ h => by cases h) (fun h => by cases h) (fun h => by cases h) hk0 hk1 hkk0 hkk1 (by simp [refKind]) h1 h2 h3
              (by rw [nn sp h1, nn n h3]; show ¬ _ > ((arrV cI m0 (fun j => .int (f j))).slots.size : Int); rw [arrV_size]; omega)
              (by rw [nn dp h2, nn n h3]; show ¬ _ > ((arrV cI m1 (fun j => .int (g j))).slots.size : Int); rw [arrV_size]; omega)
              (fun vm₁ _ i hi => by
                have e9 : (vp_cell cI (m0, .inl f)).slots.getD (sp.toNatClampNeg + i) .null = .int (f (sp.toNatClampNeg + i)) := by
                  show (arrV cI m0 (fun j => .int (f j))).slots.getD _ _ = _
                  rw [Array.getD_eq_getD_getElem?, arrV_read _ _ (by omega)]
                  rfl
                refine ⟨?_, ?_⟩
                · rw [e9]
                  rfl
                · rw [e9]
                  exact trivial)
              (g := F0 m pc rl ((Value.int n :: Value.int dp :: Value.ref a :: Value.int sp :: Value.ref b :: r).map (xa_v tr fmt))) rfl (by rw [hml]; exact hl.2.1) (rest := r.map (xa_v tr fmt)) rfl (by rw [hb]; exact hdg) hRf (by show 2 * 0 + _ + _ ≤ _; have h7 : nativeFrameWords "java/lang/System" "arraycopy" 5 = 7 := (by decide +kernel); omega)
            have e1 : copied (vp_cell cI (m0, .inl f)) (vp_cell cI (m1, .inl g)) sp dp n = vp_cell cI (m1, .inl (va_cpy f g sp.toNatClampNeg dp.toNatClampNeg n.toNatClampNeg)) := va_copied (fun z => .int z) cI cI f g h4
            rw [e1] at X' step
            have hla : tr a < H.size := (Array.getElem?_eq_some_iff.mp hca).1
            have hheap : ((T.setVm vm').setCell (tr a) (vp_cell cI (m1, .inl (va_cpy f g sp.toNatClampNeg dp.toNatClampNeg n.toNatClampNeg)))).heap = H.setIfInBounds (tr a) (vp_cell cI (m1, .inl (va_cpy f g sp.toNatClampNeg dp.toNatClampNeg n.toNatClampNeg))) := by rw [← hTT]; rfl
            have oq : ∀ q : Nat, q ≠ tr a → (H.setIfInBounds (tr a) (vp_cell cI (m1, .inl (va_cpy f g sp.toNatClampNeg dp.toNatClampNeg n.toNatClampNeg))))[q]? = H[q]? := fun q hq => by simp [Array.getElem?_setIfInBounds, Ne.symm hq]
            have zq : (H.setIfInBounds (tr a) (vp_cell cI (m1, .inl (va_cpy f g sp.toNatClampNeg dp.toNatClampNeg n.toNatClampNeg)))).size = H.size := by simp
            obtain ⟨t, a1, b1⟩ := kk rl _ _ cells slots hl (hR.set hT hAa zq oq (Or.inl ⟨rfl, hAa, show (H.setIfInBounds (tr a) _)[tr a]? = some _ by simp [Array.getElem?_setIfInBounds, hla]⟩)) ⟨by rw [zq]; exact hS.1, fun q g1 g2 => by
                rw [oq q (fun e => g2 (by rw [e]; exact hAa))]
                exact hS.2.1 q g1 g2, fun q hq => by
                rcases List.mem_append.mp hq with h | h
                · exact hS.2.2 q h
                · obtain ⟨z, -, hz⟩ := List.mem_map.mp h
                  rw [← hz]
                  exact hAa⟩ (by rw [List.length_set]; exact hc1) (by rw [xa_sl_set (c' := .inl (0, m1, va_cpy f g sp.toNatClampNeg dp.toNatClampNeg n.toNatClampNeg)) ha0 rfl]; exact hc2) _ hheap X'
            exact ⟨t, step t a1, b1⟩
          · omega
          · omega
        · omega
        · omega
      · cases hs
    · cases hs
  · cases hs
theorem xs_sw {a : List Nat} {d lo hi : Int} {offs : Array Int} {len : Nat} (hx : p.tables.exec = Jvm.exec) (hb : c.code = cc) (h1 : lo = 0) (h2 : hi = (a.length : Int) - 2) (h3 : (pc : Int) + d = ((a.getD 0 0 : Nat) : Int)) (h4 : ∀ j, j < a.length - 1 → ∃ off, offs[j]? = some off ∧ (pc : Int) + off = ((a.getD (j + 1) 0 : Nat) : Int))
    (hdg : decode cc pc = .ok (.tableswitch d lo hi offs, len)) (hs : xa_sw a ls st h = some (.inl σ)) (kk : xa_WW p l e R s m args below meth c Q D cI cP tr fmt b0 nL n0 s0 σ) : xa_WW p l e R s m args below meth c Q D cI cP tr fmt b0 nL n0 s0 (pc, ls, st, h) := by
  intro rl H locs cells slots hl hR hS hc1 hc2
  unfold xa_sw at hs
  split at hs
  · rename_i x r
    split at hs
    · rename_i hc
      cases hs
      exact lv_tableOut hx hb hdg (by rw [h1, h2]; exact hc) h3 (kk rl H locs cells slots hl hR hS hc1 hc2)
    · rename_i hc
      cases hs
      have hc' : ¬ x.toInt < 0 ∧ ¬ (a.length : Int) - 2 < x.toInt := ⟨fun q => hc (Or.inl q), fun q => hc (Or.inr q)⟩
      obtain ⟨off, ho, ht⟩ := h4 x.toInt.toNat (by omega)
      exact lv_tableIn hx hb hdg (by rw [h1]; exact hc'.1) (by rw [h2]; exact hc'.2) (by rw [h1, Int.sub_zero]; exact ho) ht (kk rl H locs cells slots hl hR hS hc1 hc2)
  · cases hs
end XA5
end
section
/-! ===== calls ===== -/
def xa_Pc (D : va_G) (cI cP : ClassId) (tr : Nat → Nat) (fmt : Value) (b0 : Nat) (as : List Value) (h : xa_H) : Array Value → State → Prop := fun v U => v = (as.map (xa_v tr fmt)).toArray ∧ xa_HR D cI cP tr fmt (fun q => b0 ≤ q) U h U.heap ∧ xa_Inv D cI cP tr fmt (fun q => b0 ≤ q) U
def xa_Qc (D : va_G) (cI cP : ClassId) (tr : Nat → Nat) (fmt : Value) (b0 : Nat) (r : Option Value) (h : xa_H) : Array Value → State → Outcome → State → Prop := fun _ st oc t => oc = .returned (r.map (xa_v tr fmt)) ∧ xa_HR D cI cP tr fmt (fun q => b0 ≤ q) t h t.heap ∧ va_F (fun q => b0 ≤ q) st t
def xa_rm (d mc ms : Nat) : Room := { frames := d, cells := mc, slots := ms, locals := 64 * d }
/-- what a call of the small machine gives on the machine -/
def xa_Met (l : Launch) (D : va_G) (cI cP : ClassId) (tr : Nat → Nat) (fmt : Value) (b0 d : Nat) (M : xa_M) (as : List Value) (h : xa_H) (r : Option Value) (h' : xa_H) : Prop :=
  Met l M.1 (.code M.1 M.2.1 M.2.2.1 M.2.2.2.1 :: xa_gw) (xa_rm d (h'.length - h.length) (xa_sl h' - xa_sl h)) (xa_Pc D cI cP tr fmt b0 as h) (xa_Qc D cI cP tr fmt b0 r h') (h'.length - h.length) (xa_sl h' - xa_sl h) (fun q => b0 ≤ q)
theorem xa_split {α : Type} {st : List α} {n : Nat} {v : α} (h : st[n]? = some v) : st = st.take n ++ v :: st.drop (n + 1) := by
  induction st generalizing n with
  | nil => simp at h
  | cons a as ih =>
    cases n with
    | zero => simp at h; subst h; simp
    | succ n =>
      simp at h
      simp
      exact ih h
theorem xa_take1 {α : Type} {st : List α} {n : Nat} {v : α} (h : st[n]? = some v) : (st.take (n + 1)).reverse = v :: (st.take n).reverse := by
  rw [List.take_add_one, h]
  simp
section XA6
variable {p : Program} {l : Launch} {e : Env} {R : Room} {s : State} {m : MethodId} {args : Array Value} {below : List Frame} {meth : Method} {c : Code} {Q : State → Prop} {D : va_G} {cI cP : ClassId} {tr : Nat → Nat} {fmt : Value} {b0 nL n0 s0 : Nat} {cc : ByteArray} {own : String} {pc k : Nat} {ls st : List Value} {h : xa_H} {σ : xa_S}
theorem xa_blind {as : List Value} : FrameBlind (xa_Pc D cI cP tr fmt b0 as h) := by
  intro a U g mk hP
  obtain ⟨h1, h2, h3⟩ := hP
  exact ⟨h1, xa_HR.moved (u := U) (U := U.calling g mk a) (Vm.Alike.refl U.vm) h2, xa_Inv.same (s := U) (U := U.calling g mk a) rfl rfl h3⟩
theorem xa_pre {as : List Value} {H : Heap} {locs : List Loc} (hI : xa_Inv D cI cP tr fmt (fun q => b0 ≤ q) s) (hR : xa_HR D cI cP tr fmt (fun q => b0 ≤ q) s h H) (hS : va_S (fun q => b0 ≤ q) s.heap H locs) {U : State} (hU : U.heap = H) (hW : s.WarmedH U.vm) : xa_Pc D cI cP tr fmt b0 as h (as.map (xa_v tr fmt)).toArray U :=
  ⟨rfl, by rw [hU]; exact hR.moved hW.alike, hI.to hW (fun a ha hna => by rw [hU]; exact hS.2.1 a ha hna)⟩
theorem xa_after {r : Option Value} {h' : xa_H} {rl : Array Slot} {H : Heap} {locs : List Loc} {cells slots mc ms : Nat} {st0 : List Value} {as : Array Value} (hl : xa_L tr fmt nL ls rl) (hS : va_S (fun q => b0 ≤ q) s.heap H locs) (hc1 : n0 + (cells + mc) = h'.length) (hc2 : s0 + (slots + ms) = xa_sl h')
    (hr : va_Run p l e R s m args below meth c H locs cells slots mc ms (F0 m pc rl st0) (st.map (xa_v tr fmt)) (xa_Qc D cI cP tr fmt b0 r h' as) (fun q => b0 ≤ q))
    (kk : xa_WW p l e R s m args below meth c Q D cI cP tr fmt b0 nL n0 s0 (pc + 3, ls, r.toList ++ st, h')) : W p l e R s m args below meth c H locs cells slots Q (F0 m pc rl st0) := by
  intro T hT X
  obtain ⟨v, st₀, t, T', L, h0, X', hL, e1, e2, ⟨hv, hHR, hF⟩, go⟩ := hr T hT X
  have hv' : v = r.map (xa_v tr fmt) := Outcome.returned.inj hv
  subst hv'
  have hal : t.vm.Alike s.vm := by rw [← e2]; exact X'.warmed.alike.symm
  have hS' : va_S (fun q => b0 ≤ q) s.heap T'.heap (locs ++ L) := by
    rw [e1]
    obtain ⟨f1, f2⟩ := hF
    rw [h0] at f1 f2
    refine ⟨Nat.le_trans hS.1 f1, fun q q1 q2 => (f2 q (Nat.lt_of_lt_of_le q1 hS.1) q2).trans (hS.2.1 q q1 q2), fun q hq => ?_⟩
    rcases List.mem_append.mp hq with z | z
    · exact hS.2.2 q z
    · exact hL q z
  have hW := kk rl T'.heap (locs ++ L) (cells + mc) (slots + ms) hl (by rw [e1]; exact hHR.moved hal) hS' hc1 hc2
  have hst : (r.toList ++ st).map (xa_v tr fmt) = (r.map (xa_v tr fmt)).toList ++ st.map (xa_v tr fmt) := by
    cases r <;> rfl
  obtain ⟨t2, a1, b1⟩ := hW T' rfl X'
  refine ⟨t2, go t2 ?_, b1⟩
  rw [← hst]
  exact a1
def xa_cw (M : xa_M) : Prop := Cond.code M.1 M.2.1 M.2.2.1 M.2.2.2.1 ∈ xa_gw ∧ Cond.initialized M.1.cls ∈ xa_gw
theorem xa_cw_of {M : xa_M} (h : xa_okC M = true) : xa_cw M := by
  unfold xa_okC at h
  split at h
  · simp only [Bool.and_eq_true] at h
    exact ⟨xa_in_gw h.1, xa_in_gw h.2⟩
  · cases h
theorem xa_gw_code {M : xa_M} (h : xa_cw M) : GoodIn xa_gw (.code M.1 M.2.1 M.2.2.1 M.2.2.2.1 :: xa_gw) := by
  intro w hw
  rcases List.mem_cons.mp hw with rfl | hw
  · exact xa_gw_good _ h.1
  · exact xa_gw_good w hw
theorem xa_callB {M : xa_M} {n d mc ms : Nat} (hcw : xa_cw M) (hok : xa_okM M n = true) (hts : ∀ w ∈ xa_gw, w.before args s = true) (hw : Cond.methodLink own k M.1 ∈ xa_gw) (hRf : d + 1 ≤ R.frames) (hRl : 64 * (d + 1) ≤ R.locals) : CallB R s args own k M.1 M.2.1 M.2.2.1 M.2.2.2.1 (.code M.1 M.2.1 M.2.2.1 M.2.2.2.1 :: xa_gw) (xa_rm d mc ms) mc ms n := by
  have hG := xa_gw_code hcw
  unfold xa_okM at hok
  simp only [Bool.and_eq_true, decide_eq_true_eq] at hok
  obtain ⟨⟨h3, h4⟩, h5⟩ := hok
  have h4' := Nat.le_of_ble_eq_true h4
  exact callB_of n hts hG rfl rfl rfl (hts _ hcw.2) (hts _ hw) h3 ⟨hRf, by show 8 + (_ + 11) + 64 * d ≤ _; omega⟩
theorem xa_callN {M : xa_M} {n d mc ms : Nat} (hcw : xa_cw M) (hok : xa_okM M n = true) (hts : ∀ w ∈ xa_gw, w.before args s = true) (hI : xa_Inv D cI cP tr fmt (fun q => b0 ≤ q) s) (hw : Cond.methodLinkNest own k M.1 "MayMust" ∈ xa_nest) (hRf : d + 1 ≤ R.frames) (hRl : 64 * (d + 1) ≤ R.locals) : va_CN R s args own k M.1 "MayMust" M.2.1 M.2.2.1 M.2.2.2.1 (.code M.1 M.2.1 M.2.2.1 M.2.2.2.1 :: xa_gw) (xa_rm d mc ms) mc ms n := by
  have hG := xa_gw_code hcw
  unfold xa_okM at hok
  simp only [Bool.and_eq_true, decide_eq_true_eq] at hok
  obtain ⟨⟨h3, h4⟩, h5⟩ := hok
  have h4' := Nat.le_of_ble_eq_true h4
  exact va_cnB n hts hG rfl rfl rfl (hI.2.1 _ hw) (hts _ hcw.2) h3 ⟨hRf, by show 8 + (_ + 11) + 64 * d ≤ _; omega⟩
/-- a static call -/
theorem xs_calls {M : xa_M} {n d : Nat} {r : Option Value} {h' : xa_H} (nest : Bool) (hx : p.tables.exec = Jvm.exec) (hb : c.code = cc) (hml : c.maxLocals = nL) (hf : fmt.category = 1) (hown : s.vm.findClass own = some m.cls) (hts : ∀ w ∈ xa_gw, w.before args s = true) (hI : xa_Inv D cI cP tr fmt (fun q => b0 ≤ q) s) (hcw : xa_cw M) (hok : xa_okM M n = true) (hw1 : nest = false → Cond.methodLink own k M.1 ∈ xa_gw) (hw2 : nest = true → Cond.methodLinkNest own k M.1 "MayMust" ∈ xa_nest) (hw3 : Cond.static M.1 ∈ xa_gw) (hRf : d + 1 ≤ R.frames) (hRl : 64 * (d + 1) ≤ R.locals)
    (hM : xa_Met l D cI cP tr fmt b0 d M (st.take n).reverse h r h') (hm1 : h.length ≤ h'.length) (hm2 : xa_sl h ≤ xa_sl h') (hRc : h'.length ≤ n0 + R.cells) (hRs : xa_sl h' ≤ s0 + R.slots)
    (hn : n ≤ st.length) (hr : xa_room (st.drop n) = true) (hdg : decode cc pc = .ok (.invokestatic k, 3)) (kk : xa_WW p l e R s m args below meth c Q D cI cP tr fmt b0 nL n0 s0 (pc + 3, ls, r.toList ++ st.drop n, h')) : xa_WW p l e R s m args below meth c Q D cI cP tr fmt b0 nL n0 s0 (pc, ls, st, h) := by
  intro rl H locs cells slots hl hR hS hc1 hc2
  dsimp only at hl hR hc1 hc2 ⊢
  have h8 := xs_sum (tr := tr) hf hr
  have hst : st.map (xa_v tr fmt) = (((st.take n).reverse).map (xa_v tr fmt)).reverse ++ (st.drop n).map (xa_v tr fmt) := by
    rw [← List.map_reverse, List.reverse_reverse, ← List.map_append, List.take_append_drop]
  have hp : PreS s H (xa_Pc D cI cP tr fmt b0 (st.take n).reverse h) (((st.take n).reverse).map (xa_v tr fmt)) := ⟨xa_blind, fun U hU hW => xa_pre hI hR hS hU hW⟩
  have hlen : (((st.take n).reverse).map (xa_v tr fmt)).length = n := by simp; omega
  refine xa_after (as := (((st.take n).reverse).map (xa_v tr fmt)).toArray) (mc := h'.length - h.length) (ms := xa_sl h' - xa_sl h) hl hS (by omega) (by omega) ?_ kk
  cases nest with
  | false => exact va_runS ⟨hx, hb, hml, hown, hts⟩ hM ⟨xa_callB hcw hok hts (hw1 rfl) hRf hRl, hts _ hw3⟩ hp rfl hlen hl.2.1 hst (lv_room h8) hdg ⟨by omega, by omega⟩
  | true => exact va_runSN ⟨hx, hb, hml, hown, hts⟩ hM ⟨xa_callN hcw hok hts hI (hw2 rfl) hRf hRl, hts _ hw3, trivial⟩ hp rfl hlen hl.2.1 hst (lv_room h8) hdg ⟨by omega, by omega⟩
/-- a constructor -/
theorem xs_calli {M : xa_M} {n d o : Nat} {r : Option Value} {h' : xa_H} (nest : Bool) (hx : p.tables.exec = Jvm.exec) (hb : c.code = cc) (hml : c.maxLocals = nL) (hf : fmt.category = 1) (hown : s.vm.findClass own = some m.cls) (hts : ∀ w ∈ xa_gw, w.before args s = true) (hI : xa_Inv D cI cP tr fmt (fun q => b0 ≤ q) s) (hcw : xa_cw M) (hok : xa_okM M n = true) (hw1 : nest = false → Cond.methodLink own k M.1 ∈ xa_gw) (hw2 : nest = true → Cond.methodLinkNest own k M.1 "MayMust" ∈ xa_nest) (hw3 : Cond.instanceMethod M.1 ∈ xa_gw) (hnm : M.1.name = "<init>") (hret : M.2.2.2.1 = none) (hRf : d + 1 ≤ R.frames) (hRl : 64 * (d + 1) ≤ R.locals)
    (hM : xa_Met l D cI cP tr fmt b0 d M (st.take (n + 1)).reverse h r h') (hm1 : h.length ≤ h'.length) (hm2 : xa_sl h ≤ xa_sl h') (hRc : h'.length ≤ n0 + R.cells) (hRs : xa_sl h' ≤ s0 + R.slots)
    (ho : st[n]? = some (.ref o)) (hr : xa_room (st.drop (n + 1)) = true) (hdg : decode cc pc = .ok (.invokespecial k, 3)) (kk : xa_WW p l e R s m args below meth c Q D cI cP tr fmt b0 nL n0 s0 (pc + 3, ls, r.toList ++ st.drop (n + 1), h')) : xa_WW p l e R s m args below meth c Q D cI cP tr fmt b0 nL n0 s0 (pc, ls, st, h) := by
  intro rl H locs cells slots hl hR hS hc1 hc2
  dsimp only at hl hR hc1 hc2 ⊢
  have h8 := xs_sum (tr := tr) hf hr
  have hlt : n < st.length := (List.getElem?_eq_some_iff.mp ho).1
  rw [xa_take1 ho] at hM
  have hst : st.map (xa_v tr fmt) = (((st.take n).reverse).map (xa_v tr fmt)).reverse ++ .ref (tr o) :: (st.drop (n + 1)).map (xa_v tr fmt) := by
    have := congrArg (List.map (xa_v tr fmt)) (xa_split ho)
    rw [this, List.map_append, ← List.map_reverse, List.reverse_reverse]
    rfl
  have hp : PreS s H (xa_Pc D cI cP tr fmt b0 (.ref o :: (st.take n).reverse) h) (.ref (tr o) :: ((st.take n).reverse).map (xa_v tr fmt)) := ⟨xa_blind, fun U hU hW => xa_pre (as := .ref o :: (st.take n).reverse) hI hR hS hU hW⟩
  have hlen : (((st.take n).reverse).map (xa_v tr fmt)).length = n := by simp; omega
  obtain ⟨y, mc, mL, mr, mt⟩ := M
  dsimp only at hret hnm hw1 hw2 hw3
  subst hret
  refine xa_after (as := (Value.ref (tr o) :: ((st.take n).reverse).map (xa_v tr fmt)).toArray) (mc := h'.length - h.length) (ms := xa_sl h' - xa_sl h) hl hS (by omega) (by omega) ?_ kk
  cases nest with
  | false => exact va_runI ⟨hx, hb, hml, hown, hts⟩ hM ⟨xa_callB hcw hok hts (hw1 rfl) hRf hRl, hnm, hts _ hw3⟩ hp rfl hlen hl.2.1 hst (lv_room h8) hdg ⟨by omega, by omega⟩
  | true => exact va_runIN ⟨hx, hb, hml, hown, hts⟩ hM ⟨xa_callN hcw hok hts hI (hw2 rfl) hRf hRl, hnm, hts _ hw3⟩ hp rfl hlen hl.2.1 hst (lv_room h8) hdg ⟨by omega, by omega⟩
/-- a call of an object's method -/
theorem xs_callv {M : xa_M} {n d o ci : Nat} {fs : List Value} {r : Option Value} {h' : xa_H} (hx : p.tables.exec = Jvm.exec) (hb : c.code = cc) (hml : c.maxLocals = nL) (hf : fmt.category = 1) (hown : s.vm.findClass own = some m.cls) (hts : ∀ w ∈ xa_gw, w.before args s = true) (hI : xa_Inv D cI cP tr fmt (fun q => b0 ≤ q) s) (hcw : xa_cw M) (hok : xa_okM M n = true) (hw1 : Cond.methodLink own k M.1 ∈ xa_gw) (hw2 : Cond.instanceMethod M.1 ∈ xa_gw) (hw3 : Cond.selects M.1.cls M.1 M.1 ∈ xa_gw) (hci : (ci = 60 ∧ M.1.cls = "java/lang/String") ∨ (ci < 12 ∧ ∃ q, vwCl[ci]? = some q ∧ q.1 = M.1.cls)) (hRf : d + 1 ≤ R.frames) (hRl : 64 * (d + 1) ≤ R.locals)
    (hM : xa_Met l D cI cP tr fmt b0 d M (st.take (n + 1)).reverse h r h') (hm1 : h.length ≤ h'.length) (hm2 : xa_sl h ≤ xa_sl h') (hRc : h'.length ≤ n0 + R.cells) (hRs : xa_sl h' ≤ s0 + R.slots)
    (ho : st[n]? = some (.ref o)) (hcell : h[o]? = some (.inr (ci, fs))) (hr : xa_room (st.drop (n + 1)) = true) (hdg : decode cc pc = .ok (.invokevirtual k, 3)) (kk : xa_WW p l e R s m args below meth c Q D cI cP tr fmt b0 nL n0 s0 (pc + 3, ls, r.toList ++ st.drop (n + 1), h')) : xa_WW p l e R s m args below meth c Q D cI cP tr fmt b0 nL n0 s0 (pc, ls, st, h) := by
  intro rl H locs cells slots hl hR hS hc1 hc2
  dsimp only at hl hR hc1 hc2 ⊢
  have h8 := xs_sum (tr := tr) hf hr
  have hlt : n < st.length := (List.getElem?_eq_some_iff.mp ho).1
  rw [xa_take1 ho] at hM
  have hst : st.map (xa_v tr fmt) = (((st.take n).reverse).map (xa_v tr fmt)).reverse ++ .ref (tr o) :: (st.drop (n + 1)).map (xa_v tr fmt) := by
    have := congrArg (List.map (xa_v tr fmt)) (xa_split ho)
    rw [this, List.map_append, ← List.map_reverse, List.reverse_reverse]
    rfl
  have hrec : ∃ cellB : Cell, H[tr o]? = some cellB ∧ cellB.vm.isStatics = false ∧ s.vm.findClass M.1.cls = some cellB.cls := by
    have hc := hR.2.2 o _ hcell
    rcases hci with ⟨h60, hcl⟩ | ⟨h12, q, hq, hcl⟩
    · rcases hc with ⟨h1, -⟩ | ⟨-, ⟨cell, g1, g2, g3, -⟩, -⟩ | ⟨h1, -⟩
      · omega
      · exact ⟨cell, g1, g2, by rw [hcl]; exact g3⟩
      · omega
    · rcases hc with ⟨h1, -⟩ | ⟨h1, -⟩ | ⟨-, -, hat⟩
      · omega
      · omega
      · obtain ⟨cell, g1, g2, g3⟩ := va_recv hI.1 (xa_P1 hat) hq (q0 := 0) rfl
        exact ⟨cell, g1, g2, by rw [← hcl]; exact g3⟩
  have hp : PreV s H M.1.cls (tr o) (xa_Pc D cI cP tr fmt b0 (.ref o :: (st.take n).reverse) h) (((st.take n).reverse).map (xa_v tr fmt)) := ⟨xa_blind, hrec, fun U hU hW => xa_pre (as := .ref o :: (st.take n).reverse) hI hR hS hU hW⟩
  have hlen : (((st.take n).reverse).map (xa_v tr fmt)).length = n := by simp; omega
  refine xa_after (as := (Value.ref (tr o) :: ((st.take n).reverse).map (xa_v tr fmt)).toArray) (mc := h'.length - h.length) (ms := xa_sl h' - xa_sl h) hl hS (by omega) (by omega) ?_ kk
  exact va_runV ⟨hx, hb, hml, hown, hts⟩ hM ⟨xa_callB hcw hok hts hw1 hRf hRl, hts _ hw2, hts _ hw3⟩ hp rfl hlen hl.2.1 hst (lv_room h8) hdg ⟨by omega, by omega⟩
end XA6
end
section
/-! ===== the small machine's runs hold on the machine ===== -/
theorem xa_lk_mem {tb : List xa_I} {pc : Nat} {q : Jvm.ClassFile.Instr × Nat × List Nat × Int32} (h : xa_lk tb pc = some q) : (pc, q) ∈ tb := by
  induction tb with
  | nil => simp [xa_lk] at h
  | cons e es ih =>
    unfold xa_lk at h
    cases hb : Nat.beq e.1 pc with
    | true =>
      rw [hb] at h
      simp only [cond_true, Option.some.injEq] at h
      have := Nat.eq_of_beq_eq_true hb
      subst this
      subst h
      exact List.mem_cons_self
    | false =>
      rw [hb] at h
      exact List.mem_cons_of_mem _ (ih h)
section XA7
variable {i : Jvm.ClassFile.Instr} {len pc : Nat} {a : List Nat} {cv : Int32} {ls st : List Value} {h : xa_H}
set_option maxHeartbeats 4000000 in
theorem xa_mono {σ : xa_S} (hs : xa_step i len a cv pc ls st h = some (.inl σ)) : h.length ≤ σ.2.2.2.length ∧ xa_sl h ≤ xa_sl σ.2.2.2 := by
  cases i with
  | putfield k =>
    change xa_putf _ _ _ _ _ _ _ = _ at hs
    unfold xa_putf at hs
    split at hs
    · split at hs
      · rename_i ho
        split at hs
        · cases hs
          dsimp only
          rw [List.length_set, xa_sl_set ho (by simp [xa_s1])]
          exact ⟨Nat.le_refl _, Nat.le_refl _⟩
        · cases hs
      · cases hs
    · cases hs
  | iastore =>
    change xa_iast _ _ _ _ = _ at hs
    unfold xa_iast at hs
    split at hs
    · split at hs
      · rename_i kd n f ho
        split at hs
        · cases hs
          dsimp only
          rw [List.length_set, xa_sl_set ho (by simp [xa_s1])]
          exact ⟨Nat.le_refl _, Nat.le_refl _⟩
        · cases hs
      · cases hs
    · cases hs
  | aastore =>
    change xa_aast _ _ _ _ = _ at hs
    unfold xa_aast at hs
    split at hs
    · split at hs
      · rename_i ho hv
        split at hs
        · cases hs
          dsimp only
          rw [List.length_set, xa_sl_set ho (by simp [xa_s1])]
          exact ⟨Nat.le_refl _, Nat.le_refl _⟩
        · cases hs
      · cases hs
    · cases hs
  | newarray t =>
    change xa_newa _ _ _ _ = _ at hs
    unfold xa_newa at hs
    split at hs
    · split at hs
      · cases hs
        dsimp only
        rw [List.length_append, xa_sl_app]
        exact ⟨Nat.le_add_right _ _, Nat.le_add_right _ _⟩
      · cases hs
    · cases hs
  | anewarray t =>
    change xa_newq _ _ _ _ = _ at hs
    unfold xa_newq at hs
    split at hs
    · split at hs
      · cases hs
        dsimp only
        rw [List.length_append, xa_sl_app]
        exact ⟨Nat.le_add_right _ _, Nat.le_add_right _ _⟩
      · cases hs
    · cases hs
  | new k =>
    change xa_new _ _ _ _ _ = _ at hs
    unfold xa_new at hs
    cases hs
    dsimp only
    rw [List.length_append, xa_sl_app]
    exact ⟨Nat.le_add_right _ _, Nat.le_add_right _ _⟩
  | invokestatic k =>
    unfold xa_step at hs
    dsimp only at hs
    split at hs
    · unfold xa_copy at hs
      split at hs
      · split at hs
        · rename_i k0 m0 f k1 m1 g hb0 ha0
          split at hs
          · cases hs
            dsimp only
            rw [List.length_set, xa_sl_set ha0 (by simp [xa_s1])]
            exact ⟨Nat.le_refl _, Nat.le_refl _⟩
          · cases hs
        · cases hs
      · cases hs
    · unfold xa_max at hs
      repeat' split at hs
      all_goals first | (cases hs; exact ⟨Nat.le_refl _, Nat.le_refl _⟩) | cases hs
    · unfold xa_min at hs
      repeat' split at hs
      all_goals first | (cases hs; exact ⟨Nat.le_refl _, Nat.le_refl _⟩) | cases hs
    · unfold xa_call at hs
      split at hs <;> cases hs
  | invokevirtual k =>
    change xa_vcall _ _ _ _ _ _ _ = _ at hs
    unfold xa_vcall xa_call at hs
    repeat' split at hs
    all_goals cases hs
  | invokespecial k =>
    unfold xa_step at hs
    dsimp only at hs
    split at hs
    · unfold xa_oinit at hs
      repeat' split at hs
      all_goals first | (cases hs; exact ⟨Nat.le_refl _, Nat.le_refl _⟩) | cases hs
    · unfold xa_icall xa_call at hs
      repeat' split at hs
      all_goals cases hs
  | _ =>
    unfold xa_step at hs
    dsimp only at hs
    first
      | (split at hs
         · cases hs; exact ⟨Nat.le_refl _, Nat.le_refl _⟩
         · cases hs)
      | (split at hs <;> cases hs)
      | (cases hs; exact ⟨Nat.le_refl _, Nat.le_refl _⟩)
      | (simp only [xa_ldi, xa_ldl, xa_lda, xa_sti, xa_sta, xa_inc, xa_if1, xa_if2, xa_sw, xa_getf, xa_iald, xa_bald, xa_alen, xa_aald, xa_gets, xa_ldc, xa_nx] at hs
         repeat' split at hs
         all_goals first | (cases hs; exact ⟨Nat.le_refl _, Nat.le_refl _⟩) | cases hs)
set_option maxHeartbeats 4000000 in
theorem xa_retf {r : xa_R} (hs : xa_step i len a cv pc ls st h = some (.inr (.inl r))) : (i = .ireturn ∧ ∃ v, st = [.int v] ∧ r = (some (.int v), h)) ∨ (i = .return_ ∧ st = [] ∧ r = (none, h)) := by
  cases i with
  | ireturn =>
    unfold xa_step at hs
    dsimp only at hs
    split at hs
    · cases hs
      exact Or.inl ⟨rfl, _, rfl, rfl⟩
    · cases hs
  | return_ =>
    unfold xa_step at hs
    dsimp only at hs
    split at hs
    · cases hs
      exact Or.inr ⟨rfl, rfl, rfl⟩
    · cases hs
  | _ =>
    exfalso
    unfold xa_step at hs
    dsimp only at hs
    first
      | (split at hs <;> cases hs; done)
      | (cases hs; done)
      | (simp only [xa_ldi, xa_ldl, xa_lda, xa_sti, xa_sta, xa_inc, xa_if1, xa_if2, xa_sw, xa_getf, xa_putf, xa_iald, xa_bald, xa_iast, xa_alen, xa_newa, xa_newq, xa_new, xa_aald, xa_aast, xa_gets, xa_ldc, xa_copy, xa_max, xa_min, xa_call, xa_vcall, xa_icall, xa_oinit, xa_nx] at hs
         repeat' split at hs
         all_goals cases hs)
set_option maxHeartbeats 4000000 in
theorem xa_callf {mi : Nat} {as : List Value} {f : Nat × List Value × List Value} (hs : xa_step i len a cv pc ls st h = some (.inr (.inr (mi, as, f)))) : mi = a.getD 1 0 ∧ ((∃ k, i = .invokestatic k ∧ (a.getD 0 0 ≠ 2 ∧ a.getD 0 0 ≠ 3 ∧ a.getD 0 0 ≠ 4) ∧ xa_call (pc + len) (a.getD 1 0) (a.getD 2 0) ls st = some (.inr (.inr (mi, as, f)))) ∨ (∃ k, i = .invokevirtual k ∧ xa_vcall (pc + len) (a.getD 1 0) (a.getD 2 0) (a.getD 3 0) ls st h = some (.inr (.inr (mi, as, f)))) ∨ (∃ k, i = .invokespecial k ∧ a.getD 0 0 ≠ 9 ∧ xa_icall (pc + len) (a.getD 1 0) (a.getD 2 0) ls st = some (.inr (.inr (mi, as, f))))) := by
  cases i with
  | invokestatic k =>
    unfold xa_step at hs
    dsimp only at hs
    split at hs
    · exfalso
      simp only [xa_copy, xa_nx] at hs
      repeat' split at hs
      all_goals cases hs
    · exfalso
      simp only [xa_max, xa_nx] at hs
      repeat' split at hs
      all_goals cases hs
    · exfalso
      simp only [xa_min, xa_nx] at hs
      repeat' split at hs
      all_goals cases hs
    · rename_i h2 h3 h4
      have hs' := hs
      unfold xa_call at hs'
      split at hs'
      · cases hs'
        exact ⟨rfl, Or.inl ⟨k, rfl, ⟨h2, h3, h4⟩, hs⟩⟩
      · cases hs'
  | invokevirtual k =>
    have hs1 : xa_vcall (pc + len) (a.getD 1 0) (a.getD 2 0) (a.getD 3 0) ls st h = some (.inr (.inr (mi, as, f))) := hs
    have hs' := hs1
    unfold xa_vcall xa_call at hs'
    repeat' split at hs'
    all_goals first | (cases hs'; exact ⟨rfl, Or.inr (Or.inl ⟨k, rfl, hs1⟩)⟩) | cases hs'
  | invokespecial k =>
    unfold xa_step at hs
    dsimp only at hs
    split at hs
    · exfalso
      simp only [xa_oinit, xa_nx] at hs
      repeat' split at hs
      all_goals cases hs
    · rename_i h9
      have hs' := hs
      unfold xa_icall xa_call at hs'
      repeat' split at hs'
      all_goals first | (cases hs'; exact ⟨rfl, Or.inr (Or.inr ⟨k, rfl, h9, hs⟩)⟩) | cases hs'
  | _ =>
    exfalso
    unfold xa_step at hs
    dsimp only at hs
    first
      | (split at hs <;> cases hs; done)
      | (cases hs; done)
      | (simp only [xa_ldi, xa_ldl, xa_lda, xa_sti, xa_sta, xa_inc, xa_if1, xa_if2, xa_sw, xa_getf, xa_putf, xa_iald, xa_bald, xa_iast, xa_alen, xa_newa, xa_newq, xa_new, xa_aald, xa_aast, xa_gets, xa_ldc, xa_nx] at hs
         repeat' split at hs
         all_goals cases hs)
end XA7
end
section
/-! ===== one step, a method, all methods ===== -/
theorem xa_df_v (tr : Nat → Nat) (fmt : Value) : ∀ ci, (xa_df ci).map (xa_v tr fmt) = xa_df ci := by
  intro ci
  unfold xa_df
  split <;> rfl
section XA8
variable {p : Program} {l : Launch} {e : Env} {R : Room} {s : State} {m : MethodId} {args : Array Value} {below : List Frame} {meth : Method} {c : Code} {Q : State → Prop} {D : va_G} {cI cP : ClassId} {tr : Nat → Nat} {fmt : Value} {b0 nL n0 s0 : Nat} {cc : ByteArray} {ms : List xa_M} {y : MethodName} {ret : Option FieldType} {pc len : Nat} {a : List Nat} {cv : Int32} {ls st : List Value} {h : xa_H} {σ : xa_S} {i : Jvm.ClassFile.Instr}
set_option maxHeartbeats 8000000 in
theorem xs_next (hx : p.tables.exec = Jvm.exec) (hb : c.code = cc) (hml : c.maxLocals = nL) (hf : fmt.category = 1) (hown : s.vm.findClass y.cls = some m.cls) (hnm : y.name = "<init>" → meth.name = y.name) (hts : ∀ w ∈ xa_gw, w.before args s = true) (hI : xa_Inv D cI cP tr fmt (fun q => b0 ≤ q) s) (hT : xa_tr tr b0) (hRf : 1 ≤ R.frames) (hRl : 64 ≤ R.locals)
    (hok : xa_okB ms y ret pc i len a cv = true) (hdg : decode cc pc = .ok (i, len)) (hs : xa_step i len a cv pc ls st h = some (.inl σ)) (hRc0 : h.length ≤ n0 + R.cells) (hRs0 : xa_sl h ≤ s0 + R.slots) (hRc : σ.2.2.2.length ≤ n0 + R.cells) (hRs : xa_sl σ.2.2.2 ≤ s0 + R.slots) (kk : xa_WW p l e R s m args below meth c Q D cI cP tr fmt b0 nL n0 s0 σ) : xa_WW p l e R s m args below meth c Q D cI cP tr fmt b0 nL n0 s0 (pc, ls, st, h) := by
  cases i with
  | iload k =>
    obtain ⟨rfl, h2⟩ : len = 2 ∧ a.getD 0 0 = k := of_decide_eq_true hok
    exact xs_ldi (k := a.getD 0 0) (n2 := pc + 2) (fun hl k2 => lv_iload hx hb (by rw [hdg, h2]) hl k2) hs kk
  | iload_n k =>
    obtain ⟨rfl, h2⟩ : len = 1 ∧ (k : Nat) = a.getD 0 0 := of_decide_eq_true hok
    exact xs_ldi (k := a.getD 0 0) (n2 := pc + 1) (fun hl k2 => lv_iload_n hx hb hdg h2 hl k2) hs kk
  | lload_n k =>
    obtain ⟨rfl, h2⟩ : len = 1 ∧ (k : Nat) = a.getD 0 0 := of_decide_eq_true hok
    exact xs_ldl (k := a.getD 0 0) (n2 := pc + 1) (fun hl k2 => lv_lload_n hx hb hdg h2 hl k2) hs kk
  | aload k =>
    obtain ⟨rfl, h2⟩ : len = 2 ∧ a.getD 0 0 = k := of_decide_eq_true hok
    exact xs_lda (k := a.getD 0 0) (n2 := pc + 2) (fun hl k2 => lv_aload hx hb (by rw [hdg, h2]) hl k2) hs kk
  | aload_n k =>
    obtain ⟨rfl, h2⟩ : len = 1 ∧ (k : Nat) = a.getD 0 0 := of_decide_eq_true hok
    exact xs_lda (k := a.getD 0 0) (n2 := pc + 1) (fun hl k2 => lv_aload_n hx hb hdg h2 hl k2) hs kk
  | istore k =>
    obtain ⟨rfl, h2⟩ : len = 2 ∧ a.getD 0 0 = k := of_decide_eq_true hok
    exact xs_sti (k := a.getD 0 0) (n2 := pc + 2) hf (fun hl hk k2 => lv_istore hx hb (by rw [hdg, h2]) hl hk rfl k2) hs kk
  | istore_n k =>
    obtain ⟨rfl, h2⟩ : len = 1 ∧ (k : Nat) = a.getD 0 0 := of_decide_eq_true hok
    exact xs_sti (k := a.getD 0 0) (n2 := pc + 1) hf (fun hl hk k2 => lv_istore_n hx hb hdg h2 hl hk rfl k2) hs kk
  | astore_n k =>
    obtain ⟨rfl, h2⟩ : len = 1 ∧ (k : Nat) = a.getD 0 0 := of_decide_eq_true hok
    exact xs_sta (k := a.getD 0 0) (n2 := pc + 1) hf (fun hl hk k2 => lv_astore_n hx hb hdg h2 hl hk rfl k2) hs kk
  | iinc k n =>
    obtain ⟨rfl, h2, h3⟩ : len = 3 ∧ a.getD 0 0 = k ∧ Int32.ofInt n = cv := of_decide_eq_true hok
    exact xs_inc (k := a.getD 0 0) hf hx hb rfl h3 (by rw [hdg, h2]) hs kk
  | goto off =>
    obtain ⟨rfl, h2⟩ : len = 3 ∧ (pc : Int) + off = ((a.getD 0 0 : Nat) : Int) := of_decide_eq_true hok
    cases hs
    intro rl H locs cells slots hl hR hS hc1 hc2
    exact lv_goto hx hb hdg h2 (kk rl H locs cells slots hl hR hS hc1 hc2)
  | ifCond cd off =>
    obtain ⟨rfl, h2⟩ : len = 3 ∧ (pc : Int) + off = ((a.getD 0 0 : Nat) : Int) := of_decide_eq_true hok
    exact xs_if1 hx hb hdg h2 hs kk
  | if_icmp cd off =>
    obtain ⟨rfl, h2⟩ : len = 3 ∧ (pc : Int) + off = ((a.getD 0 0 : Nat) : Int) := of_decide_eq_true hok
    exact xs_if2 hx hb hdg h2 hs kk
  | tableswitch d lo hi offs =>
    unfold xa_okB at hok
    simp only [Bool.and_eq_true, decide_eq_true_eq] at hok
    obtain ⟨⟨h1, h2, h3⟩, h4⟩ := hok
    refine xs_sw hx hb h1 h2 h3 (fun j hj => ?_) hdg hs kk
    have h5 := List.all_eq_true.mp h4 j (List.mem_range.mpr hj)
    cases ho : offs[j]? with
    | none => rw [ho] at h5; cases h5
    | some off => rw [ho] at h5; exact ⟨off, rfl, of_decide_eq_true h5⟩
  | getfield k =>
    unfold xa_okB at hok
    simp only [Bool.and_eq_true, decide_eq_true_eq] at hok
    obtain ⟨rfl, h2⟩ := hok
    refine xs_getf (ci := a.getD 0 0) (fk := a.getD 1 0) hx hb hown hts hI ?_ hdg hs kk
    split at h2
    · rename_i h60
      refine Or.inl ⟨h60, ?_⟩
      split at h2
      · rename_i h0
        exact Or.inl ⟨h0, xa_in_gw h2⟩
      · rename_i h0
        exact Or.inr ⟨h0, xa_in_gw h2⟩
      · cases h2
    · simp only [Bool.and_eq_true, decide_eq_true_eq] at h2
      refine Or.inr ⟨h2.1, ?_⟩
      have h3 := h2.2
      split at h3
      · rename_i q hq
        simp only [Bool.and_eq_true, decide_eq_true_eq] at h3
        exact ⟨q, hq, h3.1, xa_in_gw h3.2⟩
      · cases h3
  | putfield k =>
    unfold xa_okB at hok
    simp only [Bool.and_eq_true, decide_eq_true_eq] at hok
    obtain ⟨⟨rfl, h12⟩, h2⟩ := hok
    split at h2
    · rename_i q hq
      simp only [Bool.and_eq_true, decide_eq_true_eq] at h2
      obtain ⟨⟨⟨h3, h4⟩, h5⟩, h6⟩ := h2
      split at h5
      · rename_i ty hty
        refine xs_putf (ci := a.getD 0 0) (fk := a.getD 1 0) (kd := a.getD 2 0) hx hb hown hts hI hT h12 hq h3 (xa_in_gw h4) hty ?_ ?_ hdg hs kk
        · intro v hv
          split at h5
          · rename_i h0
            have hti : ty = .int := of_decide_eq_true h5
            subst hti
            rw [h0] at hv
            cases v <;> first | exact ⟨rfl, rfl⟩ | (simp [xa_kd] at hv)
          · rename_i h0
            cases v with
            | int x => exact absurd (Nat.eq_of_beq_eq_true hv) h0
            | ref x => cases ty <;> first | exact ⟨rfl, rfl⟩ | (simp [xa_isref] at h5)
            | _ => simp [xa_kd] at hv
        · intro hfn
          rw [if_pos hfn] at h6
          have h7 := of_decide_eq_true h6
          exact ⟨(hnm h7.1).trans h7.1, h7.2⟩
      · cases h5
    · cases h2
  | iaload =>
    obtain rfl : len = 1 := of_decide_eq_true hok
    exact xs_iald hx hb hI hdg hs kk
  | baload =>
    obtain rfl : len = 1 := of_decide_eq_true hok
    exact xs_bald hx hb hdg hs kk
  | iastore =>
    obtain rfl : len = 1 := of_decide_eq_true hok
    exact xs_iast hx hb hI hT hdg hs kk
  | arraylength =>
    obtain rfl : len = 1 := of_decide_eq_true hok
    exact xs_alen hx hb hI hdg hs kk
  | aaload =>
    obtain rfl : len = 1 := of_decide_eq_true hok
    exact xs_aald hx hb hI hdg hs kk
  | aastore =>
    obtain rfl : len = 1 := of_decide_eq_true hok
    exact xs_aast hx hb hI hT hdg hs kk
  | newarray t =>
    unfold xa_okB at hok
    simp only [Bool.and_eq_true, decide_eq_true_eq] at hok
    obtain ⟨⟨rfl, rfl⟩, h2⟩ := hok
    exact xs_newa hx hb hts hI hT (xa_in_gw h2) hdg hs hRc hRs kk
  | anewarray k =>
    unfold xa_okB at hok
    simp only [Bool.and_eq_true, decide_eq_true_eq] at hok
    obtain ⟨rfl, h2⟩ := hok
    exact xs_newq hx hb hown hts hI hT (xa_in_gw h2) hdg hs hRc hRs kk
  | new k =>
    unfold xa_okB at hok
    simp only [Bool.and_eq_true, decide_eq_true_eq] at hok
    obtain ⟨rfl, h2⟩ := hok
    split at h2
    · rename_i q hq
      simp only [Bool.and_eq_true, decide_eq_true_eq] at h2
      obtain ⟨⟨⟨⟨h3, h4⟩, h5⟩, h6⟩, h7⟩ := h2
      have h12 : a.getD 0 0 < 12 := (List.getElem?_eq_some_iff.mp hq).1
      refine xs_new (ci := a.getD 0 0) hx hb hown hts hI hT h12 hq (xa_in_gw h3) (xa_in_gw h4) (xa_in_gw h5) h6 (fun j hj => ?_) hdg hs hRc hRs kk
      have h8 := List.all_eq_true.mp h7 j (List.mem_range.mpr hj)
      rw [xa_df_v]
      unfold xa_ty
      cases hp : parseFieldDescriptor (q.2.1 j).2.2.1 with
      | none => rw [hp] at h8; cases h8
      | some ty => rw [hp] at h8; exact of_decide_eq_true h8
    · cases h2
  | getstatic k =>
    unfold xa_okB at hok
    simp only [Bool.and_eq_true, decide_eq_true_eq] at hok
    obtain ⟨rfl, h2⟩ := hok
    refine xs_gets (which := a.getD 0 0) hx hb hown hts hI ?_ ?_ hdg hs kk
    · intro h0
      rw [h0] at h2
      exact xa_in_gw h2
    · intro h0
      split at h2
      · rename_i h1; exact absurd h1 h0
      · exact xa_in_gw h2
  | ldc k =>
    unfold xa_okB at hok
    simp only [Bool.and_eq_true, decide_eq_true_eq] at hok
    obtain ⟨rfl, h2⟩ := hok
    refine xs_ldc (which := a.getD 0 0) hx hb hown hts hI ?_ ?_ hdg hs kk
    · intro h0
      rw [h0] at h2
      exact xa_in_gw h2
    · intro j h0
      rw [h0] at h2
      try dsimp only at h2
      simp only [Bool.and_eq_true, decide_eq_true_eq, List.any_eq_true] at h2
      obtain ⟨h3, ⟨q1, q2, q3⟩, h4, h5, h6⟩ := h2
      dsimp only at h5 h6
      subst h5
      subst h6
      exact ⟨h3, q2, h4⟩
  | invokestatic k =>
    unfold xa_okB at hok
    simp only [Bool.and_eq_true, decide_eq_true_eq] at hok
    obtain ⟨rfl, h2⟩ := hok
    unfold xa_step at hs
    dsimp only at hs
    split at hs
    · rename_i h0
      rw [h0] at h2
      try dsimp only at h2
      simp only [Bool.and_eq_true] at h2
      exact xs_copy hx hb hml hf hown hts hI hT (xa_in_gw h2.1.1.1) (xa_in_gw h2.1.1.2) (xa_in_gw h2.1.2) (xa_in_gw h2.2) hRf hRl hdg hs kk
    · rename_i h0
      rw [h0] at h2
      try dsimp only at h2
      simp only [Bool.and_eq_true] at h2
      exact xs_max hx hb hml hf hown hts (xa_in_gw h2.1.1.1) (xa_in_gw h2.1.1.2) (xa_in_gw h2.1.2) (xa_in_gw h2.2) hRf hRl hRc0 hRs0 hdg hs kk
    · rename_i h0
      rw [h0] at h2
      try dsimp only at h2
      simp only [Bool.and_eq_true] at h2
      exact xs_min hx hb hml hf hown hts (xa_in_gw h2.1.1.1) (xa_in_gw h2.1.1.2) (xa_in_gw h2.1.2) (xa_in_gw h2.2) hRf hRl hRc0 hRs0 hdg hs kk
    · unfold xa_call at hs
      split at hs <;> cases hs
  | invokevirtual k =>
    exfalso
    change xa_vcall _ _ _ _ _ _ _ = _ at hs
    unfold xa_vcall xa_call at hs
    repeat' split at hs
    all_goals cases hs
  | invokespecial k =>
    unfold xa_okB at hok
    simp only [Bool.and_eq_true, decide_eq_true_eq] at hok
    obtain ⟨rfl, h2⟩ := hok
    unfold xa_step at hs
    dsimp only at hs
    split at hs
    · rename_i h0
      rw [h0] at h2
      try dsimp only at h2
      simp only [Bool.and_eq_true] at h2
      exact xs_oinit hx hb hml hf hown hts (xa_in_gw h2.1.1) (xa_in_gw h2.1.2) (xa_in_gw h2.2) hRf hRl hdg hs kk
    · unfold xa_icall xa_call at hs
      repeat' split at hs
      all_goals cases hs
  | ireturn =>
    exfalso
    unfold xa_step at hs
    dsimp only at hs
    split at hs <;> cases hs
  | return_ =>
    exfalso
    unfold xa_step at hs
    dsimp only at hs
    split at hs <;> cases hs
  | _ =>
    unfold xa_step at hs
    dsimp only at hs
    split at hs
    · rename_i st' hst
      cases hs
      intro rl H locs cells slots hl hR hS hc1 hc2
      exact xs_alu (own := y.cls) (len := len) (a := a) (cv := cv) hx hb hown hts (by exact hok) hdg hst (kk rl H locs cells slots hl hR hS hc1 hc2)
    · cases hs
/-- an entry of a table, with its bytes -/
def xa_okI (ms : List xa_M) (y : MethodName) (cc : ByteArray) (ret : Option FieldType) (q : xa_I) : Bool := decide (decode cc q.1 = .ok (q.2.1, q.2.2.1)) && xa_okB ms y ret q.1 q.2.1 q.2.2.1 q.2.2.2.1 q.2.2.2.2
theorem xa_narrow {k : Nat} {v : Int32} (hr : match k with
    | 0 => ret = some .int
    | 1 => ret = some .boolean
    | 2 => ret = some .char
    | _ => ret = some .byte) (h : xa_rok k v) : ∃ ty, ret = some ty ∧ narrow ty (.int v) = .int v := by
  unfold xa_rok at h
  split at h
  · exact ⟨.int, hr, rfl⟩
  · refine ⟨.boolean, hr, ?_⟩
    rcases h with rfl | rfl <;> decide +kernel
  · refine ⟨.char, hr, ?_⟩
    show Value.int _ = _
    congr 1
  · rename_i k0 k1 k2
    match k, k0, k1, k2, hr with
    | 0, k0, _, _, _ => exact absurd rfl k0
    | 1, _, k1, _, _ => exact absurd rfl k1
    | 2, _, _, k2, _ => exact absurd rfl k2
    | k + 3, _, _, _, hr => exact ⟨.byte, hr, by rw [narrow_byte, h]⟩
end XA8
end
section
/-! ===== a method's run, and all methods by the depth of calls ===== -/
section XA9
variable {p : Program} {l : Launch} {e : Env} {R : Room} {s : State} {m : MethodId} {args : Array Value} {below : List Frame} {meth : Method} {c : Code} {Q : State → Prop} {D : va_G} {cI cP : ClassId} {tr : Nat → Nat} {fmt : Value} {b0 nL n0 s0 : Nat} {cc : ByteArray} {ms : List xa_M} {y : MethodName} {ret : Option FieldType}
set_option maxHeartbeats 4000000 in
theorem xs_main {d : Nat} {C : Nat → List Value → xa_H → Option Value → xa_H → Prop} {tb : List xa_I} {q : xa_R} (hx : p.tables.exec = Jvm.exec) (hb : c.code = cc) (hml : c.maxLocals = nL) (hf : fmt.category = 1) (hown : s.vm.findClass y.cls = some m.cls) (hnm : y.name = "<init>" → meth.name = y.name) (hts : ∀ w ∈ xa_gw, w.before args s = true) (hI : xa_Inv D cI cP tr fmt (fun q => b0 ≤ q) s) (hT : xa_tr tr b0) (hRf : d + 1 ≤ R.frames) (hRl : 64 * (d + 1) ≤ R.locals)
    (hms : ∀ M ∈ ms, xa_okC M = true) (htb : ∀ w ∈ tb, w.2.1 = .nop ∨ xa_okI ms y cc ret w = true)
    (hC : ∀ mi as h r h', C mi as h r h' → (h.length ≤ h'.length ∧ xa_sl h ≤ xa_sl h') ∧ ∀ M, ms[mi]? = some M → xa_Met l D cI cP tr fmt b0 d M as h r h')
    (hRc : q.2.length ≤ n0 + R.cells) (hRs : xa_sl q.2 ≤ s0 + R.slots)
    (hfin1 : ∀ (pc : Nat) (rl : Array Slot) (H : Heap) (locs : List Loc) (cells slots : Nat) (v : Int32) (ty : FieldType), decode cc pc = .ok (.ireturn, 1) → xa_HR D cI cP tr fmt (fun q => b0 ≤ q) s q.2 H → va_S (fun q => b0 ≤ q) s.heap H locs → n0 + cells = q.2.length → s0 + slots = xa_sl q.2 → q.1 = some (.int v) → ret = some ty → narrow ty (.int v) = .int v → W p l e R s m args below meth c H locs cells slots Q (F0 m pc rl [.int v]))
    (hfin2 : ∀ (pc : Nat) (rl : Array Slot) (H : Heap) (locs : List Loc) (cells slots : Nat), decode cc pc = .ok (.return_, 1) → xa_HR D cI cP tr fmt (fun q => b0 ≤ q) s q.2 H → va_S (fun q => b0 ≤ q) s.heap H locs → n0 + cells = q.2.length → s0 + slots = xa_sl q.2 → q.1 = none → ret = none → W p l e R s m args below meth c H locs cells slots Q (F0 m pc rl [])) :
    ∀ (n : Nat) (σ : xa_S), xa_ev C tb n σ q → (σ.2.2.2.length ≤ q.2.length ∧ xa_sl σ.2.2.2 ≤ xa_sl q.2) ∧ xa_WW p l e R s m args below meth c Q D cI cP tr fmt b0 nL n0 s0 σ := by
  intro n
  induction n with
  | zero => intro σ h; exact h.elim
  | succ n ih =>
    intro σ hev
    obtain ⟨pc, ls, st, h⟩ := σ
    unfold xa_ev at hev
    split at hev
    · exact hev.elim
    · rename_i i len a cv hlk
      have hok := htb _ (xa_lk_mem hlk)
      rcases hok with hnop | hok
      · have hnop : i = .nop := hnop
        subst hnop
        exact hev.elim
      unfold xa_okI at hok
      simp only [Bool.and_eq_true, decide_eq_true_eq] at hok
      obtain ⟨hdg, hok⟩ := hok
      split at hev
      · exact hev.elim
      · rename_i σ' hst
        obtain ⟨hm, hW⟩ := ih σ' hev
        have hm2 := xa_mono hst
        refine ⟨⟨Nat.le_trans hm2.1 hm.1, Nat.le_trans hm2.2 hm.2⟩, ?_⟩
        exact xs_next hx hb hml hf hown hnm hts hI hT (by omega) (by omega) hok hdg hst (by have := Nat.le_trans hm2.1 hm.1; omega) (by have := Nat.le_trans hm2.2 hm.2; omega) (by have := hm.1; omega) (by have := hm.2; omega) hW
      · rename_i r hst
        obtain ⟨hfine, rfl⟩ := hev
        rcases xa_retf hst with ⟨rfl, v, rfl, rfl⟩ | ⟨rfl, rfl, rfl⟩
        · refine ⟨⟨Nat.le_refl _, Nat.le_refl _⟩, ?_⟩
          intro rl H locs cells slots hl hR hS hc1 hc2
          unfold xa_okB at hok
          simp only [Bool.and_eq_true, decide_eq_true_eq] at hok
          obtain ⟨rfl, hok⟩ := hok
          obtain ⟨ty, ht1, ht2⟩ := xa_narrow (k := a.getD 0 0) (v := v) (ret := ret) (by
            generalize a.getD 0 0 = k at hok ⊢
            match k, hok with
            | 0, hok => have h9 : ret = some .int := of_decide_eq_true hok; exact h9
            | 1, hok => have h9 : ret = some .boolean := of_decide_eq_true hok; exact h9
            | 2, hok => have h9 : ret = some .char := of_decide_eq_true hok; exact h9
            | k + 3, hok => have h9 : ret = some .byte := of_decide_eq_true hok; exact h9) hfine
          exact hfin1 pc rl H locs cells slots v ty hdg hR hS hc1 hc2 rfl ht1 ht2
        · refine ⟨⟨Nat.le_refl _, Nat.le_refl _⟩, ?_⟩
          intro rl H locs cells slots hl hR hS hc1 hc2
          obtain ⟨rfl, h2⟩ : len = 1 ∧ ret = none := of_decide_eq_true hok
          exact hfin2 pc rl H locs cells slots hdg hR hS hc1 hc2 rfl h2
      · rename_i mi as pc' ls' st' hst
        obtain ⟨r, h', hc, hev⟩ := hev
        obtain ⟨⟨hm1, hm2⟩, hMet⟩ := hC mi as h r h' hc
        obtain ⟨⟨hm3, hm4⟩, hW⟩ := ih _ hev
        dsimp only at hm3 hm4
        refine ⟨⟨Nat.le_trans hm1 hm3, Nat.le_trans hm2 hm4⟩, ?_⟩
        obtain ⟨rfl, hcase⟩ := xa_callf hst
        rcases hcase with ⟨k, rfl, ⟨n2, n3, n4⟩, hcall⟩ | ⟨k, rfl, hcall⟩ | ⟨k, rfl, n9, hcall⟩
        · unfold xa_okB at hok
          simp only [Bool.and_eq_true, decide_eq_true_eq] at hok
          obtain ⟨rfl, hok⟩ := hok
          unfold xa_call at hcall
          split at hcall
          · rename_i hcc
            cases hcall
            split at hok
            · rename_i z; exact absurd z n2
            · rename_i z; exact absurd z n3
            · rename_i z; exact absurd z n4
            · split at hok
              · rename_i M hM
                simp only [Bool.and_eq_true] at hok
                exact xs_calls false hx hb hml hf hown hts hI (xa_cw_of (hms M (List.mem_of_getElem? hM))) hok.1.1 (fun _ => xa_in_gw hok.1.2) (fun z => by cases z) (xa_in_gw hok.2) hRf hRl (hMet M hM) hm1 hm2 (by omega) (by omega) (Nat.le_of_ble_eq_true hcc.1) hcc.2 hdg hW
              · cases hok
            · split at hok
              · rename_i M hM
                simp only [Bool.and_eq_true, decide_eq_true_eq] at hok
                exact xs_calls true hx hb hml hf hown hts hI (xa_cw_of (hms M (List.mem_of_getElem? hM))) hok.1.1 (fun z => by cases z) (fun _ => xa_nest_of hok.1.2) (xa_in_gw hok.2) hRf hRl (hMet M hM) hm1 hm2 (by omega) (by omega) (Nat.le_of_ble_eq_true hcc.1) hcc.2 hdg hW
              · cases hok
            · cases hok
          · cases hcall
        · unfold xa_okB at hok
          simp only [Bool.and_eq_true, decide_eq_true_eq] at hok
          obtain ⟨rfl, hok⟩ := hok
          unfold xa_vcall xa_call at hcall
          split at hcall
          · rename_i o ho
            split at hcall
            · rename_i ci fs hcell
              split at hcall
              · rename_i hci
                split at hcall
                · rename_i hcc
                  cases hcall
                  split at hok
                  · rename_i M hM
                    simp only [Bool.and_eq_true] at hok
                    obtain ⟨⟨⟨⟨h1, h2⟩, h3⟩, h4⟩, h5⟩ := hok
                    refine xs_callv hx hb hml hf hown hts hI (xa_cw_of (hms M (List.mem_of_getElem? hM))) h1 (xa_in_gw h2) (xa_in_gw h3) (xa_in_gw h4) (ci := ci) ?_ hRf hRl (hMet M hM) hm1 hm2 (by omega) (by omega) ho hcell hcc.2 hdg hW
                    split at h5
                    · rename_i z
                      exact Or.inl ⟨hci.trans z, of_decide_eq_true h5⟩
                    · simp only [Bool.and_eq_true, decide_eq_true_eq] at h5
                      refine Or.inr ⟨by rw [hci]; exact h5.1, ?_⟩
                      have h6 := h5.2
                      split at h6
                      · rename_i q hq
                        exact ⟨q, by rw [hci]; exact hq, of_decide_eq_true h6⟩
                      · cases h6
                  · cases hok
                · cases hcall
              · cases hcall
            · cases hcall
          · cases hcall
        · unfold xa_okB at hok
          simp only [Bool.and_eq_true, decide_eq_true_eq] at hok
          obtain ⟨rfl, hok⟩ := hok
          unfold xa_icall xa_call at hcall
          split at hcall
          · rename_i o ho
            split at hcall
            · rename_i hcc
              cases hcall
              split at hok
              · rename_i z; exact absurd z n9
              · split at hok
                · rename_i M hM
                  simp only [Bool.and_eq_true, decide_eq_true_eq] at hok
                  exact xs_calli false hx hb hml hf hown hts hI (xa_cw_of (hms M (List.mem_of_getElem? hM))) hok.1.1.1 (fun _ => xa_in_gw hok.1.1.2) (fun z => by cases z) (xa_in_gw hok.1.2) hok.2.1 hok.2.2 hRf hRl (hMet M hM) hm1 hm2 (by omega) (by omega) ho hcc.2 hdg hW
                · cases hok
              · split at hok
                · rename_i M hM
                  simp only [Bool.and_eq_true, decide_eq_true_eq] at hok
                  exact xs_calli true hx hb hml hf hown hts hI (xa_cw_of (hms M (List.mem_of_getElem? hM))) hok.1.1.1 (fun z => by cases z) (fun _ => xa_nest_of hok.1.1.2) (xa_in_gw hok.1.2) hok.2.1 hok.2.2 hRf hRl (hMet M hM) hm1 hm2 (by omega) (by omega) ho hcc.2 hdg hW
                · cases hok
              · cases hok
            · cases hcall
          · cases hcall
end XA9
/-- a method and its table -/
def xa_okT (ms : List xa_M) (M : xa_M) : Bool := plainName M.1.cls && xa_okC M && M.2.2.2.2.all (fun w => (match w.2.1 with
  | .nop => true
  | _ => false) || xa_okI ms M.1 M.2.1 M.2.2.2.1 w)
theorem xa_okT_tb {ms : List xa_M} {M : xa_M} (htb : M.2.2.2.2.all (fun w => (match w.2.1 with
  | .nop => true
  | _ => false) || xa_okI ms M.1 M.2.1 M.2.2.2.1 w) = true) : ∀ w ∈ M.2.2.2.2, w.2.1 = .nop ∨ xa_okI ms M.1 M.2.1 M.2.2.2.1 w = true := by
  intro w hw
  have h1 := List.all_eq_true.mp htb w hw
  rcases Bool.or_eq_true _ _ ▸ h1 with h2 | h2
  · left
    split at h2
    · assumption
    · cases h2
  · exact Or.inr h2
theorem xa_okT_c {ms : List xa_M} {M : xa_M} (h : xa_okT ms M = true) : xa_okC M = true := by
  unfold xa_okT at h
  simp only [Bool.and_eq_true] at h
  exact h.1.2
/-- the slots that arguments take -/
theorem xa_en_sl {tr : Nat → Nat} {fmt : Value} (hf : fmt.category = 1) : ∀ (as : List Value) (j k : Nat) (v : Value), (∀ v ∈ as, xa_kn v = true) → (as.flatMap xa_ar)[k]? = some v → xa_kn v = true → (j + k, xa_v tr fmt v) ∈ lv_args j (as.map (xa_v tr fmt)) := by
  intro as
  induction as with
  | nil => intro j k v _ h; simp at h
  | cons w ws ih =>
    intro j k v hd h hn
    have hd' : ∀ v ∈ ws, xa_kn v = true := fun v hv => hd v (List.mem_cons_of_mem _ hv)
    have hw := hd w List.mem_cons_self
    rw [List.map_cons]
    unfold lv_args
    rw [xa_cat hf]
    rw [List.flatMap_cons] at h
    by_cases hl : ∃ x, w = .long x
    · obtain ⟨x, rfl⟩ := hl
      match k, h with
      | 0, h =>
        simp [xa_ar] at h
        subst h
        exact List.mem_cons_self
      | 1, h =>
        simp [xa_ar] at h
        subst h
        simp [xa_kn] at hn
      | k + 2, h =>
        refine List.mem_cons_of_mem _ ?_
        have h' := ih (j + 2) k v hd' (by simpa [xa_ar] using h) hn
        rw [show j + (k + 2) = j + 2 + k by omega]
        simpa [Value.category] using h'
    · have he : xa_ar w = [w] := by
        cases w <;> first | rfl | exact absurd ⟨_, rfl⟩ hl
      have hc : w.category ≠ 2 := by
        cases w <;> first | (simp [Value.category]; done) | exact absurd ⟨_, rfl⟩ hl | (simp [xa_kn] at hw)
      rw [he] at h
      rw [if_neg hc]
      match k, h with
      | 0, h =>
        simp at h
        subst h
        exact List.mem_cons_self
      | k + 1, h =>
        refine List.mem_cons_of_mem _ ?_
        have h' := ih (j + 1) k v hd' (by simpa using h) hn
        rw [show j + (k + 1) = j + 1 + k by omega]
        exact h'
theorem xa_en_len {tr : Nat → Nat} {fmt : Value} (hf : fmt.category = 1) : ∀ (as : List Value), (∀ v ∈ as, xa_kn v = true) → (lg_sl (as.map (xa_v tr fmt))).length = (as.flatMap xa_ar).length := by
  intro as
  induction as with
  | nil => intro _; rfl
  | cons w ws ih =>
    intro hd
    have hw := hd w List.mem_cons_self
    have h1 := ih (fun v hv => hd v (List.mem_cons_of_mem _ hv))
    unfold lg_sl at h1 ⊢
    rw [List.map_cons, List.flatMap_cons, List.flatMap_cons, List.length_append, List.length_append, h1, xa_cat hf]
    congr 1
    cases w <;> first | rfl | (simp [xa_kn] at hw)
theorem xa_entry {tr : Nat → Nat} {fmt : Value} (hf : fmt.category = 1) {as : List Value} {n : Nat} (hlen : (xa_en as n).length = n) (hd : as.all xa_kn = true) : xa_L tr fmt n (xa_en as n) ((lg_sl (as.map (xa_v tr fmt)) ++ List.replicate (n - (lg_sl (as.map (xa_v tr fmt))).length) Slot.unset).toArray) := by
  have hd' : ∀ v ∈ as, xa_kn v = true := fun v hv => List.all_eq_true.mp hd v hv
  have hle : (lg_sl (as.map (xa_v tr fmt))).length ≤ n := by
    rw [xa_en_len hf as hd']
    unfold xa_en at hlen
    rw [List.length_append, List.length_replicate] at hlen
    omega
  have h := lv_entry (as.map (xa_v tr fmt)) hle
  refine ⟨hlen, h.1, h.2.1, fun k v hk hn => ?_⟩
  unfold xa_en at hk
  by_cases hlt : k < (as.flatMap xa_ar).length
  · rw [List.getElem?_append_left hlt] at hk
    have := xa_en_sl (tr := tr) (fmt := fmt) hf as 0 k v hd' hk hn
    rw [Nat.zero_add] at this
    exact h.2.2 _ this
  · rw [List.getElem?_append_right (by omega)] at hk
    have := (List.mem_replicate.mp (List.mem_of_getElem? hk)).2
    subst this
    simp [xa_kn] at hn
theorem xa_evmono {C : Nat → List Value → xa_H → Option Value → xa_H → Prop} {tb : List xa_I} (hC : ∀ mi as h r h', C mi as h r h' → h.length ≤ h'.length ∧ xa_sl h ≤ xa_sl h') : ∀ (n : Nat) (σ : xa_S) (q : xa_R), xa_ev C tb n σ q → σ.2.2.2.length ≤ q.2.length ∧ xa_sl σ.2.2.2 ≤ xa_sl q.2 := by
  intro n
  induction n with
  | zero => intro σ q h; exact h.elim
  | succ n ih =>
    intro σ q hev
    obtain ⟨pc, ls, st, h⟩ := σ
    unfold xa_ev at hev
    split at hev
    · exact hev.elim
    · split at hev
      · exact hev.elim
      · rename_i σ' hst
        have h1 := ih σ' q hev
        have h2 := xa_mono hst
        exact ⟨Nat.le_trans h2.1 h1.1, Nat.le_trans h2.2 h1.2⟩
      · rename_i r hst
        obtain ⟨-, rfl⟩ := hev
        rcases xa_retf hst with ⟨-, v, -, rfl⟩ | ⟨-, -, rfl⟩
        · exact ⟨Nat.le_refl _, Nat.le_refl _⟩
        · exact ⟨Nat.le_refl _, Nat.le_refl _⟩
      · obtain ⟨r, h', hc, hev⟩ := hev
        have h1 := hC _ _ _ _ _ hc
        have h2 := ih _ q hev
        exact ⟨Nat.le_trans h1.1 h2.1, Nat.le_trans h1.2 h2.2⟩
theorem xa_rnmono {ms : List xa_M} : ∀ (d mi : Nat) (as : List Value) (h : xa_H) (r : Option Value) (h' : xa_H), xa_rn ms d mi as h r h' → h.length ≤ h'.length ∧ xa_sl h ≤ xa_sl h' := by
  intro d
  induction d with
  | zero => intro mi as h r h' hr; exact hr.elim
  | succ d ih =>
    intro mi as h r h' hr
    obtain ⟨M, n, hM, -, hev⟩ := hr
    exact xa_evmono ih n _ _ hev
set_option maxHeartbeats 4000000 in
theorem xa_sound {l : Launch} {D : va_G} {cI cP : ClassId} {tr : Nat → Nat} {fmt : Value} {b0 : Nat} {ms : List xa_M} (hms : ∀ M ∈ ms, xa_okT ms M = true) (hf : fmt.category = 1) (hT : xa_tr tr b0) :
    ∀ (d mi : Nat) (as : List Value) (h : xa_H) (r : Option Value) (h' : xa_H), xa_rn ms d mi as h r h' → (h.length ≤ h'.length ∧ xa_sl h ≤ xa_sl h') ∧ ∀ M, ms[mi]? = some M → xa_Met l D cI cP tr fmt b0 d M as h r h' := by
  intro d
  induction d with
  | zero => intro mi as h r h' hr; exact hr.elim
  | succ d ih =>
    intro mi as h r h' hr
    obtain ⟨M, n, hM, ⟨hlen, hkn⟩, hev⟩ := hr
    have hokT := hms M (List.mem_of_getElem? hM)
    unfold xa_okT at hokT
    simp only [Bool.and_eq_true] at hokT
    obtain ⟨⟨hpl, -⟩, htb⟩ := hokT
    have htb' : ∀ w ∈ M.2.2.2.2, w.2.1 = .nop ∨ xa_okI ms M.1 M.2.1 M.2.2.2.1 w = true := xa_okT_tb htb
    have hmc : ∀ M ∈ ms, xa_okC M = true := fun M hM => xa_okT_c (hms M hM)
    refine ⟨?_, ?_⟩
    · exact xa_rnmono (d + 1) mi as h r h' ⟨M, n, hM, ⟨hlen, hkn⟩, hev⟩
    · intro M2 hM2
      have e2 : M2 = M := Option.some.inj (hM2.symm.trans hM)
      subst e2
      unfold xa_Met
      refine Met.ofW (cc := M2.2.1) (maxL := M2.2.2.1) (ret := M2.2.2.2.1) hpl rfl ?_
      intro p e s m args below meth c s₁ B hml hv
      obtain ⟨rfl, hHR, hI⟩ := hv
      have hts0 := atoms_spec (ws := .code M2.1 M2.2.1 M2.2.2.1 M2.2.2.2.1 :: xa_gw) B.pre
      have hts : ∀ w ∈ xa_gw, w.before (as.map (xa_v tr fmt)).toArray s = true := fun w hw => hts0 w (List.mem_cons_of_mem _ hw)
      have hown : s.vm.findClass M2.1.cls = some m.cls := findClass_of_methodNamed B.named
      have hnm : meth.name = M2.1.name := (name_of_methodNamed B.named B.method).1
      have hlocks := B.notSynchronized
      have hr := B.returns
      rw [lg_entry_eq]
      have hL := xa_entry (tr := tr) hf hlen hkn
      have main := xs_main (p := p) (l := l) (e := e) (R := xa_rm (d + 1) (h'.length - h.length) (xa_sl h' - xa_sl h)) (s := s) (m := m) (args := (as.map (xa_v tr fmt)).toArray) (below := below) (meth := meth) (c := c) (Q := MQ below (xa_Qc D cI cP tr fmt b0 r h') (as.map (xa_v tr fmt)).toArray s (h'.length - h.length) (xa_sl h' - xa_sl h) (fun q => b0 ≤ q)) (n0 := h.length) (s0 := xa_sl h) (d := d) (q := (r, h')) B.exec B.bytes hml hf hown (fun _ => hnm) hts hI hT (Nat.le_refl _) (Nat.le_refl _) hmc htb' ih
        (by show h'.length ≤ h.length + (h'.length - h.length); omega) (by show xa_sl h' ≤ xa_sl h + (xa_sl h' - xa_sl h); omega)
        (by
          intro pc rl H locs cells slots v ty hdg hR hS hc1 hc2 hq hty hn
          dsimp only at hR hc1 hc2 hq
          have e1 : cells = h'.length - h.length := by omega
          have e2 : slots = xa_sl h' - xa_sl h := by omega
          subst e1
          subst e2
          subst hq
          exact W.zret B.exec B.bytes (hr.trans hty) hn (fun t ht hW => ⟨rfl, by rw [ht]; exact hR.moved hW.alike, hS.F ht⟩) hS.2.2 hdg)
        (by
          intro pc rl H locs cells slots hdg hR hS hc1 hc2 hq hty
          dsimp only at hR hc1 hc2 hq
          have e1 : cells = h'.length - h.length := by omega
          have e2 : slots = xa_sl h' - xa_sl h := by omega
          subst e1
          subst e2
          subst hq
          exact W.vret B.exec B.bytes (hr.trans hty) (fun t ht hW => ⟨rfl, by rw [ht]; exact hR.moved hW.alike, hS.F ht⟩) hS.2.2 hdg)
        n _ hev
      exact main.2 _ s.heap [] 0 0 hL hHR va_S.rf rfl rfl
end
section
def t_Joiner_init : List xa_I := [
  (65535, .nop, 0, [226, 71], 0),
  (0, .aload_n 0, 1, [0], 0),
  (1, .invokespecial 3, 3, [9, 0, 0, 0, 0, 227, 89, 90], 0),
  (4, .aload_n 0, 1, [0], 0),
  (5, .new 9, 3, [1, 0, 0, 0, 0, 228, 187, 69], 0),
  (8, .dup, 1, [], 0),
  (9, .invokespecial 11, 3, [1, 8, 0, 0, 0, 189, 0, 0, 0, 229], 0),
  (12, .putfield 12, 3, [0, 0, 1, 0, 0, 230], 0),
  (15, .aload_n 0, 1, [0], 0),
  (16, .bipush 36, 2, [], 36),
  (18, .newarray .int, 2, [0, 0, 0, 0, 0, 108], 0),
  (20, .putfield 18, 3, [0, 1, 1, 0, 0, 231], 0),
  (23, .aload_n 0, 1, [0], 0),
  (24, .bipush 6, 2, [], 6),
  (26, .newarray .int, 2, [0, 0, 0, 0, 0, 108], 0),
  (28, .putfield 22, 3, [0, 2, 1, 0, 0, 232], 0),
  (31, .aload_n 0, 1, [0], 0),
  (32, .iconst 0, 1, [], 0),
  (33, .putfield 25, 3, [0, 3, 0, 0, 0, 233], 0),
  (36, .return_, 1, [], 0)]
def m_Joiner_init : xa_M := (⟨"MayMust$Joiner", "<init>", "()V"⟩, prog_2_method_1_code, 1, none, t_Joiner_init)
abbrev n_Joiner_init : Nat := 0
def t_Joiner_combine : List xa_I := [
  (65535, .nop, 0, [767, 71], 0),
  (0, .aload_n 0, 1, [0], 0),
  (1, .getfield 12, 3, [0, 0, 0, 0, 0, 230], 0),
  (4, .aload_n 1, 1, [1], 0),
  (5, .invokevirtual 29, 3, [0, 17, 0, 2, 0, 768, 517, 518], 0),
  (8, .aload_n 2, 1, [2], 0),
  (9, .invokevirtual 29, 3, [0, 17, 0, 2, 0, 768, 517, 518], 0),
  (12, .invokevirtual 34, 3, [0, 9, 2, 1, 0, 769, 652, 653], 0),
  (15, .iload_n 3, 1, [3], 0),
  (16, .ifCond .eq 9, 3, [25], 0),
  (19, .aload_n 0, 1, [0], 0),
  (20, .aload_n 1, 1, [1], 0),
  (21, .aload_n 2, 1, [2], 0),
  (22, .invokevirtual 38, 3, [0, 2, 2, 0, 0, 770, 772, 22], 0),
  (25, .aload_n 0, 1, [0], 0),
  (26, .getfield 12, 3, [0, 0, 0, 0, 0, 230], 0),
  (29, .iconst 0, 1, [], 0),
  (30, .iconst 0, 1, [], 0),
  (31, .invokevirtual 42, 3, [0, 10, 2, 1, 0, 778, 661, 662], 0),
  (34, .ifCond .ne 6, 3, [40], 0),
  (37, .bipush (-2), 2, [], (-2)),
  (39, .ireturn, 1, [0], 0),
  (40, .aload_n 0, 1, [0], 0),
  (41, .iconst 0, 1, [], 0),
  (42, .putfield 25, 3, [0, 3, 0, 0, 0, 233], 0),
  (45, .aload_n 0, 1, [0], 0),
  (46, .getfield 18, 3, [0, 1, 0, 0, 0, 231], 0),
  (49, .iconst (-1), 1, [], (-1)),
  (50, .invokestatic 46, 3, [0, 191, 2, 0, 0, 788, 505], 0),
  (53, .aload_n 0, 1, [0], 0),
  (54, .iconst 0, 1, [], 0),
  (55, .iconst 0, 1, [], 0),
  (56, .invokevirtual 51, 3, [0, 7, 2, 0, 0, 789, 791, 25], 0),
  (59, .pop, 1, [], 0),
  (60, .aload 4, 2, [4], 0),
  (62, .bipush 6, 2, [], 6),
  (64, .invokevirtual 55, 3, [0, 18, 1, 2, 0, 793, 495, 496], 0),
  (67, .iconst 0, 1, [], 0),
  (68, .istore 5, 2, [5], 0),
  (70, .iload 5, 2, [5], 0),
  (72, .bipush 6, 2, [], 6),
  (74, .if_icmp .ge 35, 3, [109], 0),
  (77, .iload 5, 2, [5], 0),
  (79, .aload_n 0, 1, [0], 0),
  (80, .getfield 25, 3, [0, 3, 0, 0, 0, 233], 0),
  (83, .if_icmp .ge 26, 3, [109], 0),
  (86, .aload_n 0, 1, [0], 0),
  (87, .aload_n 1, 1, [1], 0),
  (88, .aload_n 2, 1, [2], 0),
  (89, .iload_n 3, 1, [3], 0),
  (90, .iload 5, 2, [5], 0),
  (92, .aload 4, 2, [4], 0),
  (94, .invokevirtual 59, 3, [0, 5, 5, 0, 0, 794, 796, 26], 0),
  (97, .ifCond .ne 6, 3, [103], 0),
  (100, .bipush (-3), 2, [], (-3)),
  (102, .ireturn, 1, [0], 0),
  (103, .iinc 5 1, 3, [5], 1),
  (106, .goto (-36), 3, [70], 0),
  (109, .aload 4, 2, [4], 0),
  (111, .aload_n 0, 1, [0], 0),
  (112, .getfield 25, 3, [0, 3, 0, 0, 0, 233], 0),
  (115, .invokevirtual 63, 3, [0, 19, 1, 2, 0, 805, 499, 500], 0),
  (118, .aload_n 0, 1, [0], 0),
  (119, .getfield 25, 3, [0, 3, 0, 0, 0, 233], 0),
  (122, .ireturn, 1, [0], 0)]
def m_Joiner_combine : xa_M := (⟨"MayMust$Joiner", "combine", "(LMayMust$Plan;LMayMust$Plan;ZLMayMust$Plan;)I"⟩, prog_2_method_2_code, 6, (some .int), t_Joiner_combine)
abbrev n_Joiner_combine : Nat := 1
def t_Joiner_dropClashes : List xa_I := [
  (65535, .nop, 0, [773, 71], 0),
  (0, .iconst 1, 1, [], 1),
  (1, .istore_n 3, 1, [3], 0),
  (2, .iconst 0, 1, [], 0),
  (3, .istore 4, 2, [4], 0),
  (5, .iload_n 3, 1, [3], 0),
  (6, .ifCond .eq 23, 3, [29], 0),
  (9, .iload 4, 2, [4], 0),
  (11, .bipush 36, 2, [], 36),
  (13, .if_icmp .gt 16, 3, [29], 0),
  (16, .aload_n 0, 1, [0], 0),
  (17, .aload_n 1, 1, [1], 0),
  (18, .aload_n 2, 1, [2], 0),
  (19, .invokevirtual 66, 3, [0, 3, 2, 0, 0, 774, 776, 23], 0),
  (22, .istore_n 3, 1, [3], 0),
  (23, .iinc 4 1, 3, [4], 1),
  (26, .goto (-21), 3, [5], 0),
  (29, .return_, 1, [], 0)]
def m_Joiner_dropClashes : xa_M := (⟨"MayMust$Joiner", "dropClashes", "(LMayMust$Plan;LMayMust$Plan;)V"⟩, prog_2_method_3_code, 5, none, t_Joiner_dropClashes)
abbrev n_Joiner_dropClashes : Nat := 2
def t_Joiner_dropSome : List xa_I := [
  (65535, .nop, 0, [777, 71], 0),
  (0, .iconst 0, 1, [], 0),
  (1, .istore_n 3, 1, [3], 0),
  (2, .iconst 0, 1, [], 0),
  (3, .istore 4, 2, [4], 0),
  (5, .iload 4, 2, [4], 0),
  (7, .aload_n 1, 1, [1], 0),
  (8, .invokevirtual 29, 3, [0, 17, 0, 2, 0, 768, 517, 518], 0),
  (11, .if_icmp .ge 67, 3, [78], 0),
  (14, .iconst 0, 1, [], 0),
  (15, .istore 5, 2, [5], 0),
  (17, .iload 5, 2, [5], 0),
  (19, .aload_n 2, 1, [2], 0),
  (20, .invokevirtual 29, 3, [0, 17, 0, 2, 0, 768, 517, 518], 0),
  (23, .if_icmp .ge 49, 3, [72], 0),
  (26, .aload_n 0, 1, [0], 0),
  (27, .getfield 12, 3, [0, 0, 0, 0, 0, 230], 0),
  (30, .iload 4, 2, [4], 0),
  (32, .iload 5, 2, [5], 0),
  (34, .invokevirtual 42, 3, [0, 10, 2, 1, 0, 778, 661, 662], 0),
  (37, .ifCond .eq 29, 3, [66], 0),
  (40, .aload_n 0, 1, [0], 0),
  (41, .aload_n 1, 1, [1], 0),
  (42, .aload_n 2, 1, [2], 0),
  (43, .iload 4, 2, [4], 0),
  (45, .iload 5, 2, [5], 0),
  (47, .invokevirtual 70, 3, [0, 4, 4, 0, 0, 779, 781, 24], 0),
  (50, .ifCond .eq 16, 3, [66], 0),
  (53, .aload_n 0, 1, [0], 0),
  (54, .getfield 12, 3, [0, 0, 0, 0, 0, 230], 0),
  (57, .iload 4, 2, [4], 0),
  (59, .iload 5, 2, [5], 0),
  (61, .invokevirtual 74, 3, [0, 11, 2, 1, 0, 787, 694, 695], 0),
  (64, .iconst 1, 1, [], 1),
  (65, .istore_n 3, 1, [3], 0),
  (66, .iinc 5 1, 3, [5], 1),
  (69, .goto (-52), 3, [17], 0),
  (72, .iinc 4 1, 3, [4], 1),
  (75, .goto (-70), 3, [5], 0),
  (78, .iload_n 3, 1, [3], 0),
  (79, .ireturn, 1, [1], 0)]
def m_Joiner_dropSome : xa_M := (⟨"MayMust$Joiner", "dropSome", "(LMayMust$Plan;LMayMust$Plan;)Z"⟩, prog_2_method_4_code, 6, (some .boolean), t_Joiner_dropSome)
abbrev n_Joiner_dropSome : Nat := 3
def t_Joiner_clashes : List xa_I := [
  (65535, .nop, 0, [782, 71], 0),
  (0, .iconst 0, 1, [], 0),
  (1, .istore 5, 2, [5], 0),
  (3, .iload 5, 2, [5], 0),
  (5, .iconst 3, 1, [], 3),
  (6, .if_icmp .ge 61, 3, [67], 0),
  (9, .aload_n 0, 1, [0], 0),
  (10, .getfield 12, 3, [0, 0, 0, 0, 0, 230], 0),
  (13, .aload_n 1, 1, [1], 0),
  (14, .iload_n 3, 1, [3], 0),
  (15, .iload 5, 2, [5], 0),
  (17, .invokevirtual 77, 3, [0, 22, 2, 2, 0, 783, 623, 624], 0),
  (20, .aload_n 2, 1, [2], 0),
  (21, .iload 4, 2, [4], 0),
  (23, .iload 5, 2, [5], 0),
  (25, .invokevirtual 80, 3, [0, 21, 2, 2, 0, 784, 630, 631], 0),
  (28, .invokevirtual 83, 3, [0, 12, 2, 1, 0, 785, 678, 679], 0),
  (31, .ifCond .ne 28, 3, [59], 0),
  (34, .aload_n 0, 1, [0], 0),
  (35, .getfield 12, 3, [0, 0, 0, 0, 0, 230], 0),
  (38, .aload_n 2, 1, [2], 0),
  (39, .iload 4, 2, [4], 0),
  (41, .iload 5, 2, [5], 0),
  (43, .invokevirtual 77, 3, [0, 22, 2, 2, 0, 783, 623, 624], 0),
  (46, .aload_n 1, 1, [1], 0),
  (47, .iload_n 3, 1, [3], 0),
  (48, .iload 5, 2, [5], 0),
  (50, .invokevirtual 80, 3, [0, 21, 2, 2, 0, 784, 630, 631], 0),
  (53, .invokevirtual 86, 3, [0, 13, 2, 1, 0, 786, 686, 687], 0),
  (56, .ifCond .eq 5, 3, [61], 0),
  (59, .iconst 1, 1, [], 1),
  (60, .ireturn, 1, [1], 0),
  (61, .iinc 5 1, 3, [5], 1),
  (64, .goto (-61), 3, [3], 0),
  (67, .iconst 0, 1, [], 0),
  (68, .ireturn, 1, [1], 0)]
def m_Joiner_clashes : xa_M := (⟨"MayMust$Joiner", "clashes", "(LMayMust$Plan;LMayMust$Plan;II)Z"⟩, prog_2_method_5_code, 6, (some .boolean), t_Joiner_clashes)
abbrev n_Joiner_clashes : Nat := 4
def t_Joiner_spread : List xa_I := [
  (65535, .nop, 0, [797, 71], 0),
  (0, .iconst 0, 1, [], 0),
  (1, .istore 6, 2, [6], 0),
  (3, .iload 6, 2, [6], 0),
  (5, .iconst 3, 1, [], 3),
  (6, .if_icmp .ge 130, 3, [136], 0),
  (9, .iconst 0, 1, [], 0),
  (10, .istore 7, 2, [7], 0),
  (12, .iload 7, 2, [7], 0),
  (14, .bipush 36, 2, [], 36),
  (16, .if_icmp .ge 114, 3, [130], 0),
  (19, .iload 7, 2, [7], 0),
  (21, .bipush 6, 2, [], 6),
  (23, .idiv, 1, [], 0),
  (24, .istore 8, 2, [8], 0),
  (26, .iload 7, 2, [7], 0),
  (28, .bipush 6, 2, [], 6),
  (30, .irem, 1, [], 0),
  (31, .istore 9, 2, [9], 0),
  (33, .aload_n 1, 1, [1], 0),
  (34, .aload_n 0, 1, [0], 0),
  (35, .getfield 22, 3, [0, 2, 0, 0, 0, 232], 0),
  (38, .iload 4, 2, [4], 0),
  (40, .iaload, 1, [], 0),
  (41, .bipush 6, 2, [], 6),
  (43, .idiv, 1, [], 0),
  (44, .iload 6, 2, [6], 0),
  (46, .iload 8, 2, [8], 0),
  (48, .invokevirtual 89, 3, [0, 23, 3, 2, 0, 798, 619, 620], 0),
  (51, .aload_n 2, 1, [2], 0),
  (52, .aload_n 0, 1, [0], 0),
  (53, .getfield 22, 3, [0, 2, 0, 0, 0, 232], 0),
  (56, .iload 4, 2, [4], 0),
  (58, .iaload, 1, [], 0),
  (59, .bipush 6, 2, [], 6),
  (61, .irem, 1, [], 0),
  (62, .iload 6, 2, [6], 0),
  (64, .iload 9, 2, [9], 0),
  (66, .invokevirtual 89, 3, [0, 23, 3, 2, 0, 798, 619, 620], 0),
  (69, .iload_n 3, 1, [3], 0),
  (70, .invokestatic 93, 3, [0, 6, 3, 0, 0, 799, 800], 0),
  (73, .istore 10, 2, [10], 0),
  (75, .iload 10, 2, [10], 0),
  (77, .ifCond .le 47, 3, [124], 0),
  (80, .aload_n 0, 1, [0], 0),
  (81, .getfield 12, 3, [0, 0, 0, 0, 0, 230], 0),
  (84, .iload 8, 2, [8], 0),
  (86, .iload 9, 2, [9], 0),
  (88, .invokevirtual 42, 3, [0, 10, 2, 1, 0, 778, 661, 662], 0),
  (91, .ifCond .eq 33, 3, [124], 0),
  (94, .aload_n 0, 1, [0], 0),
  (95, .iload 8, 2, [8], 0),
  (97, .iload 9, 2, [9], 0),
  (99, .invokevirtual 51, 3, [0, 7, 2, 0, 0, 789, 791, 25], 0),
  (102, .istore 11, 2, [11], 0),
  (104, .iload 11, 2, [11], 0),
  (106, .ifCond .ge 5, 3, [111], 0),
  (109, .iconst 0, 1, [], 0),
  (110, .ireturn, 1, [1], 0),
  (111, .aload 5, 2, [5], 0),
  (113, .iload 4, 2, [4], 0),
  (115, .iload 6, 2, [6], 0),
  (117, .iload 11, 2, [11], 0),
  (119, .iload 10, 2, [10], 0),
  (121, .invokevirtual 97, 3, [0, 25, 4, 2, 0, 804, 521, 522], 0),
  (124, .iinc 7 1, 3, [7], 1),
  (127, .goto (-115), 3, [12], 0),
  (130, .iinc 6 1, 3, [6], 1),
  (133, .goto (-130), 3, [3], 0),
  (136, .iconst 1, 1, [], 1),
  (137, .ireturn, 1, [1], 0)]
def m_Joiner_spread : xa_M := (⟨"MayMust$Joiner", "spread", "(LMayMust$Plan;LMayMust$Plan;ZILMayMust$Plan;)Z"⟩, prog_2_method_6_code, 12, (some .boolean), t_Joiner_spread)
abbrev n_Joiner_spread : Nat := 5
def t_Joiner_arrowOf : List xa_I := [
  (65535, .nop, 0, [801, 71], 0),
  (0, .iload_n 0, 1, [0], 0),
  (1, .iload_n 1, 1, [1], 0),
  (2, .invokestatic 101, 3, [4, 0, 0, 0, 0, 802, 344, 74, 345], 0),
  (5, .istore_n 3, 1, [3], 0),
  (6, .iload_n 2, 1, [2], 0),
  (7, .ifCond .eq 15, 3, [22], 0),
  (10, .iload_n 3, 1, [3], 0),
  (11, .ifCond .le 11, 3, [22], 0),
  (14, .iload_n 0, 1, [0], 0),
  (15, .iload_n 1, 1, [1], 0),
  (16, .invokestatic 106, 3, [3, 0, 0, 0, 0, 803, 433, 74, 434], 0),
  (19, .goto 4, 3, [23], 0),
  (22, .iload_n 3, 1, [3], 0),
  (23, .ireturn, 1, [0], 0)]
def m_Joiner_arrowOf : xa_M := (⟨"MayMust$Joiner", "arrowOf", "(IIZ)I"⟩, prog_2_method_7_code, 4, (some .int), t_Joiner_arrowOf)
abbrev n_Joiner_arrowOf : Nat := 6
def t_Joiner_numberOf : List xa_I := [
  (65535, .nop, 0, [792, 71], 0),
  (0, .iload_n 1, 1, [1], 0),
  (1, .bipush 6, 2, [], 6),
  (3, .imul, 1, [], 0),
  (4, .iload_n 2, 1, [2], 0),
  (5, .iadd, 1, [], 0),
  (6, .istore_n 3, 1, [3], 0),
  (7, .iload_n 3, 1, [3], 0),
  (8, .ifCond .lt 12, 3, [20], 0),
  (11, .iload_n 3, 1, [3], 0),
  (12, .aload_n 0, 1, [0], 0),
  (13, .getfield 18, 3, [0, 1, 0, 0, 0, 231], 0),
  (16, .arraylength, 1, [], 0),
  (17, .if_icmp .lt 5, 3, [22], 0),
  (20, .iconst (-1), 1, [], (-1)),
  (21, .ireturn, 1, [0], 0),
  (22, .aload_n 0, 1, [0], 0),
  (23, .getfield 18, 3, [0, 1, 0, 0, 0, 231], 0),
  (26, .iload_n 3, 1, [3], 0),
  (27, .iaload, 1, [], 0),
  (28, .ifCond .ge 42, 3, [70], 0),
  (31, .aload_n 0, 1, [0], 0),
  (32, .getfield 25, 3, [0, 3, 0, 0, 0, 233], 0),
  (35, .bipush 6, 2, [], 6),
  (37, .if_icmp .ge 33, 3, [70], 0),
  (40, .aload_n 0, 1, [0], 0),
  (41, .getfield 18, 3, [0, 1, 0, 0, 0, 231], 0),
  (44, .iload_n 3, 1, [3], 0),
  (45, .aload_n 0, 1, [0], 0),
  (46, .getfield 25, 3, [0, 3, 0, 0, 0, 233], 0),
  (49, .iastore, 1, [], 0),
  (50, .aload_n 0, 1, [0], 0),
  (51, .getfield 22, 3, [0, 2, 0, 0, 0, 232], 0),
  (54, .aload_n 0, 1, [0], 0),
  (55, .getfield 25, 3, [0, 3, 0, 0, 0, 233], 0),
  (58, .iload_n 3, 1, [3], 0),
  (59, .iastore, 1, [], 0),
  (60, .aload_n 0, 1, [0], 0),
  (61, .dup, 1, [], 0),
  (62, .getfield 25, 3, [0, 3, 0, 0, 0, 233], 0),
  (65, .iconst 1, 1, [], 1),
  (66, .iadd, 1, [], 0),
  (67, .putfield 25, 3, [0, 3, 0, 0, 0, 233], 0),
  (70, .aload_n 0, 1, [0], 0),
  (71, .getfield 18, 3, [0, 1, 0, 0, 0, 231], 0),
  (74, .iload_n 3, 1, [3], 0),
  (75, .iaload, 1, [], 0),
  (76, .ireturn, 1, [0], 0)]
def m_Joiner_numberOf : xa_M := (⟨"MayMust$Joiner", "numberOf", "(II)I"⟩, prog_2_method_8_code, 4, (some .int), t_Joiner_numberOf)
abbrev n_Joiner_numberOf : Nat := 7
def t_Pairs_init : List xa_I := [
  (65535, .nop, 0, [190, 69], 0),
  (0, .aload_n 0, 1, [0], 0),
  (1, .invokespecial 3, 3, [9, 0, 0, 0, 0, 191, 89, 90], 0),
  (4, .aload_n 0, 1, [0], 0),
  (5, .bipush 6, 2, [], 6),
  (7, .newarray .int, 2, [0, 0, 0, 0, 0, 108], 0),
  (9, .putfield 9, 3, [1, 0, 1, 0, 0, 192], 0),
  (12, .aload_n 0, 1, [0], 0),
  (13, .bipush 6, 2, [], 6),
  (15, .newarray .int, 2, [0, 0, 0, 0, 0, 108], 0),
  (17, .putfield 15, 3, [1, 1, 1, 0, 0, 193], 0),
  (20, .return_, 1, [], 0)]
def m_Pairs_init : xa_M := (⟨"MayMust$Pairs", "<init>", "()V"⟩, prog_3_method_1_code, 1, none, t_Pairs_init)
abbrev n_Pairs_init : Nat := 8
def t_Pairs_fill : List xa_I := [
  (65535, .nop, 0, [654, 69], 0),
  (0, .iconst 0, 1, [], 0),
  (1, .istore_n 3, 1, [3], 0),
  (2, .iload_n 3, 1, [3], 0),
  (3, .bipush 6, 2, [], 6),
  (5, .if_icmp .ge 49, 3, [54], 0),
  (8, .aload_n 0, 1, [0], 0),
  (9, .getfield 9, 3, [1, 0, 0, 0, 0, 192], 0),
  (12, .iload_n 3, 1, [3], 0),
  (13, .iload_n 3, 1, [3], 0),
  (14, .iload_n 1, 1, [1], 0),
  (15, .if_icmp .ge 11, 3, [26], 0),
  (18, .iconst 1, 1, [], 1),
  (19, .iload_n 2, 1, [2], 0),
  (20, .ishl, 1, [], 0),
  (21, .iconst 1, 1, [], 1),
  (22, .isub, 1, [], 0),
  (23, .goto 4, 3, [27], 0),
  (26, .iconst 0, 1, [], 0),
  (27, .iastore, 1, [], 0),
  (28, .aload_n 0, 1, [0], 0),
  (29, .getfield 15, 3, [1, 1, 0, 0, 0, 193], 0),
  (32, .iload_n 3, 1, [3], 0),
  (33, .iload_n 3, 1, [3], 0),
  (34, .iload_n 2, 1, [2], 0),
  (35, .if_icmp .ge 11, 3, [46], 0),
  (38, .iconst 1, 1, [], 1),
  (39, .iload_n 1, 1, [1], 0),
  (40, .ishl, 1, [], 0),
  (41, .iconst 1, 1, [], 1),
  (42, .isub, 1, [], 0),
  (43, .goto 4, 3, [47], 0),
  (46, .iconst 0, 1, [], 0),
  (47, .iastore, 1, [], 0),
  (48, .iinc 3 1, 3, [3], 1),
  (51, .goto (-49), 3, [2], 0),
  (54, .return_, 1, [], 0)]
def m_Pairs_fill : xa_M := (⟨"MayMust$Pairs", "fill", "(II)V"⟩, prog_3_method_2_code, 4, none, t_Pairs_fill)
abbrev n_Pairs_fill : Nat := 9
def t_Pairs_has : List xa_I := [
  (65535, .nop, 0, [663, 69], 0),
  (0, .iload_n 1, 1, [1], 0),
  (1, .iload_n 2, 1, [2], 0),
  (2, .invokestatic 18, 3, [0, 15, 2, 0, 0, 664, 665], 0),
  (5, .ifCond .eq 20, 3, [25], 0),
  (8, .aload_n 0, 1, [0], 0),
  (9, .getfield 9, 3, [1, 0, 0, 0, 0, 192], 0),
  (12, .iload_n 1, 1, [1], 0),
  (13, .iaload, 1, [], 0),
  (14, .iload_n 2, 1, [2], 0),
  (15, .invokestatic 22, 3, [1, 127, 2, 0, 0, 627, 0, 0, 0, 667], 0),
  (18, .ifCond .eq 7, 3, [25], 0),
  (21, .iconst 1, 1, [], 1),
  (22, .goto 4, 3, [26], 0),
  (25, .iconst 0, 1, [], 0),
  (26, .ireturn, 1, [1], 0)]
def m_Pairs_has : xa_M := (⟨"MayMust$Pairs", "has", "(II)Z"⟩, prog_3_method_3_code, 3, (some .boolean), t_Pairs_has)
abbrev n_Pairs_has : Nat := 10
def t_Pairs_drop : List xa_I := [
  (65535, .nop, 0, [696, 69], 0),
  (0, .iload_n 1, 1, [1], 0),
  (1, .iload_n 2, 1, [2], 0),
  (2, .invokestatic 18, 3, [0, 15, 2, 0, 0, 664, 665], 0),
  (5, .ifCond .eq 31, 3, [36], 0),
  (8, .aload_n 0, 1, [0], 0),
  (9, .getfield 9, 3, [1, 0, 0, 0, 0, 192], 0),
  (12, .iload_n 1, 1, [1], 0),
  (13, .dup2, 1, [], 0),
  (14, .iaload, 1, [], 0),
  (15, .iconst 1, 1, [], 1),
  (16, .iload_n 2, 1, [2], 0),
  (17, .ishl, 1, [], 0),
  (18, .iconst (-1), 1, [], (-1)),
  (19, .ixor, 1, [], 0),
  (20, .iand, 1, [], 0),
  (21, .iastore, 1, [], 0),
  (22, .aload_n 0, 1, [0], 0),
  (23, .getfield 15, 3, [1, 1, 0, 0, 0, 193], 0),
  (26, .iload_n 2, 1, [2], 0),
  (27, .dup2, 1, [], 0),
  (28, .iaload, 1, [], 0),
  (29, .iconst 1, 1, [], 1),
  (30, .iload_n 1, 1, [1], 0),
  (31, .ishl, 1, [], 0),
  (32, .iconst (-1), 1, [], (-1)),
  (33, .ixor, 1, [], 0),
  (34, .iand, 1, [], 0),
  (35, .iastore, 1, [], 0),
  (36, .return_, 1, [], 0)]
def m_Pairs_drop : xa_M := (⟨"MayMust$Pairs", "drop", "(II)V"⟩, prog_3_method_4_code, 3, none, t_Pairs_drop)
abbrev n_Pairs_drop : Nat := 11
def t_Pairs_leftLacks : List xa_I := [
  (65535, .nop, 0, [680, 69], 0),
  (0, .aload_n 0, 1, [0], 0),
  (1, .getfield 9, 3, [1, 0, 0, 0, 0, 192], 0),
  (4, .iload_n 1, 1, [1], 0),
  (5, .iload_n 2, 1, [2], 0),
  (6, .invokestatic 25, 3, [0, 14, 3, 0, 0, 681, 682], 0),
  (9, .ireturn, 1, [1], 0)]
def m_Pairs_leftLacks : xa_M := (⟨"MayMust$Pairs", "leftLacks", "(II)Z"⟩, prog_3_method_5_code, 3, (some .boolean), t_Pairs_leftLacks)
abbrev n_Pairs_leftLacks : Nat := 12
def t_Pairs_rightLacks : List xa_I := [
  (65535, .nop, 0, [688, 69], 0),
  (0, .aload_n 0, 1, [0], 0),
  (1, .getfield 15, 3, [1, 1, 0, 0, 0, 193], 0),
  (4, .iload_n 1, 1, [1], 0),
  (5, .iload_n 2, 1, [2], 0),
  (6, .invokestatic 25, 3, [0, 14, 3, 0, 0, 681, 682], 0),
  (9, .ireturn, 1, [1], 0)]
def m_Pairs_rightLacks : xa_M := (⟨"MayMust$Pairs", "rightLacks", "(II)Z"⟩, prog_3_method_6_code, 3, (some .boolean), t_Pairs_rightLacks)
abbrev n_Pairs_rightLacks : Nat := 13
def t_Pairs_lacks : List xa_I := [
  (65535, .nop, 0, [683, 69], 0),
  (0, .iconst 0, 1, [], 0),
  (1, .istore_n 3, 1, [3], 0),
  (2, .iload_n 3, 1, [3], 0),
  (3, .aload_n 0, 1, [0], 0),
  (4, .arraylength, 1, [], 0),
  (5, .if_icmp .ge 27, 3, [32], 0),
  (8, .aload_n 0, 1, [0], 0),
  (9, .iload_n 3, 1, [3], 0),
  (10, .iaload, 1, [], 0),
  (11, .iload_n 2, 1, [2], 0),
  (12, .iand, 1, [], 0),
  (13, .ifCond .ne 13, 3, [26], 0),
  (16, .iload_n 1, 1, [1], 0),
  (17, .iload_n 3, 1, [3], 0),
  (18, .ishr, 1, [], 0),
  (19, .iconst 1, 1, [], 1),
  (20, .iand, 1, [], 0),
  (21, .ifCond .eq 5, 3, [26], 0),
  (24, .iconst 1, 1, [], 1),
  (25, .ireturn, 1, [1], 0),
  (26, .iinc 3 1, 3, [3], 1),
  (29, .goto (-27), 3, [2], 0),
  (32, .iconst 0, 1, [], 0),
  (33, .ireturn, 1, [1], 0)]
def m_Pairs_lacks : xa_M := (⟨"MayMust$Pairs", "lacks", "([III)Z"⟩, prog_3_method_7_code, 4, (some .boolean), t_Pairs_lacks)
abbrev n_Pairs_lacks : Nat := 14
def t_Pairs_isPair : List xa_I := [
  (65535, .nop, 0, [666, 69], 0),
  (0, .iload_n 0, 1, [0], 0),
  (1, .ifCond .lt 23, 3, [24], 0),
  (4, .iload_n 0, 1, [0], 0),
  (5, .bipush 6, 2, [], 6),
  (7, .if_icmp .ge 17, 3, [24], 0),
  (10, .iload_n 1, 1, [1], 0),
  (11, .ifCond .lt 13, 3, [24], 0),
  (14, .iload_n 1, 1, [1], 0),
  (15, .bipush 6, 2, [], 6),
  (17, .if_icmp .ge 7, 3, [24], 0),
  (20, .iconst 1, 1, [], 1),
  (21, .goto 4, 3, [25], 0),
  (24, .iconst 0, 1, [], 0),
  (25, .ireturn, 1, [1], 0)]
def m_Pairs_isPair : xa_M := (⟨"MayMust$Pairs", "isPair", "(II)Z"⟩, prog_3_method_8_code, 2, (some .boolean), t_Pairs_isPair)
abbrev n_Pairs_isPair : Nat := 15
def t_Plan_init : List xa_I := [
  (65535, .nop, 0, [96, 63], 0),
  (0, .aload_n 0, 1, [0], 0),
  (1, .invokespecial 3, 3, [9, 0, 0, 0, 0, 97, 89, 90], 0),
  (4, .aload_n 0, 1, [0], 0),
  (5, .iconst 1, 1, [], 1),
  (6, .putfield 9, 3, [2, 0, 0, 0, 0, 98], 0),
  (9, .aload_n 0, 1, [0], 0),
  (10, .bipush 18, 2, [], 18),
  (12, .newarray .int, 2, [0, 0, 0, 0, 0, 108], 0),
  (14, .putfield 15, 3, [2, 1, 1, 0, 0, 99], 0),
  (17, .aload_n 0, 1, [0], 0),
  (18, .bipush 18, 2, [], 18),
  (20, .newarray .int, 2, [0, 0, 0, 0, 0, 108], 0),
  (22, .putfield 19, 3, [2, 2, 1, 0, 0, 100], 0),
  (25, .return_, 1, [], 0)]
def m_Plan_init : xa_M := (⟨"MayMust$Plan", "<init>", "()V"⟩, prog_4_method_1_code, 1, none, t_Plan_init)
abbrev n_Plan_init : Nat := 16
def t_Plan_size : List xa_I := [
  (65535, .nop, 0, [519, 63], 0),
  (0, .aload_n 0, 1, [0], 0),
  (1, .getfield 9, 3, [2, 0, 0, 0, 0, 98], 0),
  (4, .ireturn, 1, [0], 0)]
def m_Plan_size : xa_M := (⟨"MayMust$Plan", "size", "()I"⟩, prog_4_method_2_code, 1, (some .int), t_Plan_size)
abbrev n_Plan_size : Nat := 17
def t_Plan_reset : List xa_I := [
  (65535, .nop, 0, [497, 63], 0),
  (0, .aload_n 0, 1, [0], 0),
  (1, .iload_n 1, 1, [1], 0),
  (2, .invokevirtual 22, 3, [0, 19, 1, 2, 0, 498, 499, 500], 0),
  (5, .aload_n 0, 1, [0], 0),
  (6, .getfield 15, 3, [2, 1, 0, 0, 0, 99], 0),
  (9, .iconst 0, 1, [], 0),
  (10, .invokestatic 26, 3, [0, 191, 2, 0, 0, 504, 505], 0),
  (13, .aload_n 0, 1, [0], 0),
  (14, .getfield 19, 3, [2, 2, 0, 0, 0, 100], 0),
  (17, .iconst 0, 1, [], 0),
  (18, .invokestatic 26, 3, [0, 191, 2, 0, 0, 504, 505], 0),
  (21, .return_, 1, [], 0)]
def m_Plan_reset : xa_M := (⟨"MayMust$Plan", "reset", "(I)V"⟩, prog_4_method_3_code, 2, none, t_Plan_reset)
abbrev n_Plan_reset : Nat := 18
def t_Plan_resize : List xa_I := [
  (65535, .nop, 0, [501, 63], 0),
  (0, .aload_n 0, 1, [0], 0),
  (1, .iconst 1, 1, [], 1),
  (2, .iload_n 1, 1, [1], 0),
  (3, .bipush 6, 2, [], 6),
  (5, .invokestatic 32, 3, [4, 0, 0, 0, 0, 502, 344, 74, 345], 0),
  (8, .invokestatic 38, 3, [3, 0, 0, 0, 0, 503, 433, 74, 434], 0),
  (11, .putfield 9, 3, [2, 0, 0, 0, 0, 98], 0),
  (14, .return_, 1, [], 0)]
def m_Plan_resize : xa_M := (⟨"MayMust$Plan", "resize", "(I)V"⟩, prog_4_method_4_code, 2, none, t_Plan_resize)
abbrev n_Plan_resize : Nat := 19
def t_Plan_become : List xa_I := [
  (65535, .nop, 0, [530, 63], 0),
  (0, .aload_n 0, 1, [0], 0),
  (1, .aload_n 1, 1, [1], 0),
  (2, .getfield 9, 3, [2, 0, 0, 0, 0, 98], 0),
  (5, .putfield 9, 3, [2, 0, 0, 0, 0, 98], 0),
  (8, .aload_n 1, 1, [1], 0),
  (9, .getfield 15, 3, [2, 1, 0, 0, 0, 99], 0),
  (12, .iconst 0, 1, [], 0),
  (13, .aload_n 0, 1, [0], 0),
  (14, .getfield 15, 3, [2, 1, 0, 0, 0, 99], 0),
  (17, .iconst 0, 1, [], 0),
  (18, .aload_n 0, 1, [0], 0),
  (19, .getfield 15, 3, [2, 1, 0, 0, 0, 99], 0),
  (22, .arraylength, 1, [], 0),
  (23, .invokestatic 41, 3, [2, 0, 0, 0, 0, 531, 533, 532, 81], 0),
  (26, .aload_n 1, 1, [1], 0),
  (27, .getfield 19, 3, [2, 2, 0, 0, 0, 100], 0),
  (30, .iconst 0, 1, [], 0),
  (31, .aload_n 0, 1, [0], 0),
  (32, .getfield 19, 3, [2, 2, 0, 0, 0, 100], 0),
  (35, .iconst 0, 1, [], 0),
  (36, .aload_n 0, 1, [0], 0),
  (37, .getfield 19, 3, [2, 2, 0, 0, 0, 100], 0),
  (40, .arraylength, 1, [], 0),
  (41, .invokestatic 41, 3, [2, 0, 0, 0, 0, 531, 533, 532, 81], 0),
  (44, .return_, 1, [], 0)]
def m_Plan_become : xa_M := (⟨"MayMust$Plan", "become", "(LMayMust$Plan;)V"⟩, prog_4_method_5_code, 2, none, t_Plan_become)
abbrev n_Plan_become : Nat := 20
def t_Plan_anyFrom : List xa_I := [
  (65535, .nop, 0, [632, 63], 0),
  (0, .iload_n 1, 1, [1], 0),
  (1, .iload_n 2, 1, [2], 0),
  (2, .invokestatic 47, 3, [0, 30, 2, 0, 0, 524, 525], 0),
  (5, .ifCond .eq 16, 3, [21], 0),
  (8, .aload_n 0, 1, [0], 0),
  (9, .getfield 15, 3, [2, 1, 0, 0, 0, 99], 0),
  (12, .iload_n 1, 1, [1], 0),
  (13, .iconst 3, 1, [], 3),
  (14, .imul, 1, [], 0),
  (15, .iload_n 2, 1, [2], 0),
  (16, .iadd, 1, [], 0),
  (17, .iaload, 1, [], 0),
  (18, .goto 4, 3, [22], 0),
  (21, .iconst 0, 1, [], 0),
  (22, .ireturn, 1, [0], 0)]
def m_Plan_anyFrom : xa_M := (⟨"MayMust$Plan", "anyFrom", "(II)I"⟩, prog_4_method_6_code, 3, (some .int), t_Plan_anyFrom)
abbrev n_Plan_anyFrom : Nat := 21
def t_Plan_mustFrom : List xa_I := [
  (65535, .nop, 0, [625, 63], 0),
  (0, .iload_n 1, 1, [1], 0),
  (1, .iload_n 2, 1, [2], 0),
  (2, .invokestatic 47, 3, [0, 30, 2, 0, 0, 524, 525], 0),
  (5, .ifCond .eq 16, 3, [21], 0),
  (8, .aload_n 0, 1, [0], 0),
  (9, .getfield 19, 3, [2, 2, 0, 0, 0, 100], 0),
  (12, .iload_n 1, 1, [1], 0),
  (13, .iconst 3, 1, [], 3),
  (14, .imul, 1, [], 0),
  (15, .iload_n 2, 1, [2], 0),
  (16, .iadd, 1, [], 0),
  (17, .iaload, 1, [], 0),
  (18, .goto 4, 3, [22], 0),
  (21, .iconst 0, 1, [], 0),
  (22, .ireturn, 1, [0], 0)]
def m_Plan_mustFrom : xa_M := (⟨"MayMust$Plan", "mustFrom", "(II)I"⟩, prog_4_method_7_code, 3, (some .int), t_Plan_mustFrom)
abbrev n_Plan_mustFrom : Nat := 22
def t_Plan_at : List xa_I := [
  (65535, .nop, 0, [621, 63], 0),
  (0, .aload_n 0, 1, [0], 0),
  (1, .iload_n 1, 1, [1], 0),
  (2, .iload_n 2, 1, [2], 0),
  (3, .invokevirtual 51, 3, [0, 22, 2, 2, 0, 622, 623, 624], 0),
  (6, .iload_n 3, 1, [3], 0),
  (7, .invokestatic 54, 3, [1, 127, 2, 0, 0, 627, 0, 0, 0, 626], 0),
  (10, .ifCond .eq 5, 3, [15], 0),
  (13, .iconst 2, 1, [], 2),
  (14, .ireturn, 1, [0], 0),
  (15, .aload_n 0, 1, [0], 0),
  (16, .iload_n 1, 1, [1], 0),
  (17, .iload_n 2, 1, [2], 0),
  (18, .invokevirtual 57, 3, [0, 21, 2, 2, 0, 629, 630, 631], 0),
  (21, .iload_n 3, 1, [3], 0),
  (22, .invokestatic 54, 3, [1, 127, 2, 0, 0, 627, 0, 0, 0, 626], 0),
  (25, .ifCond .eq 7, 3, [32], 0),
  (28, .iconst 1, 1, [], 1),
  (29, .goto 4, 3, [33], 0),
  (32, .iconst 0, 1, [], 0),
  (33, .ireturn, 1, [0], 0)]
def m_Plan_at : xa_M := (⟨"MayMust$Plan", "at", "(III)I"⟩, prog_4_method_8_code, 4, (some .int), t_Plan_at)
abbrev n_Plan_at : Nat := 23
def t_Plan_lay : List xa_I := [
  (65535, .nop, 0, [640, 63], 0),
  (0, .iload_n 1, 1, [1], 0),
  (1, .iload_n 2, 1, [2], 0),
  (2, .invokestatic 47, 3, [0, 30, 2, 0, 0, 524, 525], 0),
  (5, .ifCond .eq 48, 3, [53], 0),
  (8, .aload_n 0, 1, [0], 0),
  (9, .getfield 15, 3, [2, 1, 0, 0, 0, 99], 0),
  (12, .iload_n 1, 1, [1], 0),
  (13, .iconst 3, 1, [], 3),
  (14, .imul, 1, [], 0),
  (15, .iload_n 2, 1, [2], 0),
  (16, .iadd, 1, [], 0),
  (17, .dup2, 1, [], 0),
  (18, .iaload, 1, [], 0),
  (19, .iconst 1, 1, [], 1),
  (20, .iload_n 3, 1, [3], 0),
  (21, .ishl, 1, [], 0),
  (22, .iconst (-1), 1, [], (-1)),
  (23, .ixor, 1, [], 0),
  (24, .iand, 1, [], 0),
  (25, .iastore, 1, [], 0),
  (26, .aload_n 0, 1, [0], 0),
  (27, .getfield 19, 3, [2, 2, 0, 0, 0, 100], 0),
  (30, .iload_n 1, 1, [1], 0),
  (31, .iconst 3, 1, [], 3),
  (32, .imul, 1, [], 0),
  (33, .iload_n 2, 1, [2], 0),
  (34, .iadd, 1, [], 0),
  (35, .dup2, 1, [], 0),
  (36, .iaload, 1, [], 0),
  (37, .iconst 1, 1, [], 1),
  (38, .iload_n 3, 1, [3], 0),
  (39, .ishl, 1, [], 0),
  (40, .iconst (-1), 1, [], (-1)),
  (41, .ixor, 1, [], 0),
  (42, .iand, 1, [], 0),
  (43, .iastore, 1, [], 0),
  (44, .aload_n 0, 1, [0], 0),
  (45, .iload_n 1, 1, [1], 0),
  (46, .iload_n 2, 1, [2], 0),
  (47, .iload_n 3, 1, [3], 0),
  (48, .iload 4, 2, [4], 0),
  (50, .invokevirtual 60, 3, [0, 25, 4, 2, 0, 641, 521, 522], 0),
  (53, .return_, 1, [], 0)]
def m_Plan_lay : xa_M := (⟨"MayMust$Plan", "lay", "(IIII)V"⟩, prog_4_method_9_code, 5, none, t_Plan_lay)
abbrev n_Plan_lay : Nat := 24
def t_Plan_raise : List xa_I := [
  (65535, .nop, 0, [523, 63], 0),
  (0, .iload_n 1, 1, [1], 0),
  (1, .iload_n 2, 1, [2], 0),
  (2, .invokestatic 47, 3, [0, 30, 2, 0, 0, 524, 525], 0),
  (5, .ifCond .ne 4, 3, [9], 0),
  (8, .return_, 1, [], 0),
  (9, .iload 4, 2, [4], 0),
  (11, .iconst 1, 1, [], 1),
  (12, .if_icmp .lt 19, 3, [31], 0),
  (15, .aload_n 0, 1, [0], 0),
  (16, .getfield 15, 3, [2, 1, 0, 0, 0, 99], 0),
  (19, .iload_n 1, 1, [1], 0),
  (20, .iconst 3, 1, [], 3),
  (21, .imul, 1, [], 0),
  (22, .iload_n 2, 1, [2], 0),
  (23, .iadd, 1, [], 0),
  (24, .dup2, 1, [], 0),
  (25, .iaload, 1, [], 0),
  (26, .iconst 1, 1, [], 1),
  (27, .iload_n 3, 1, [3], 0),
  (28, .ishl, 1, [], 0),
  (29, .ior, 1, [], 0),
  (30, .iastore, 1, [], 0),
  (31, .iload 4, 2, [4], 0),
  (33, .iconst 2, 1, [], 2),
  (34, .if_icmp .lt 19, 3, [53], 0),
  (37, .aload_n 0, 1, [0], 0),
  (38, .getfield 19, 3, [2, 2, 0, 0, 0, 100], 0),
  (41, .iload_n 1, 1, [1], 0),
  (42, .iconst 3, 1, [], 3),
  (43, .imul, 1, [], 0),
  (44, .iload_n 2, 1, [2], 0),
  (45, .iadd, 1, [], 0),
  (46, .dup2, 1, [], 0),
  (47, .iaload, 1, [], 0),
  (48, .iconst 1, 1, [], 1),
  (49, .iload_n 3, 1, [3], 0),
  (50, .ishl, 1, [], 0),
  (51, .ior, 1, [], 0),
  (52, .iastore, 1, [], 0),
  (53, .return_, 1, [], 0)]
def m_Plan_raise : xa_M := (⟨"MayMust$Plan", "raise", "(IIII)V"⟩, prog_4_method_10_code, 5, none, t_Plan_raise)
abbrev n_Plan_raise : Nat := 25
def t_Plan_settle : List xa_I := [
  (65535, .nop, 0, [759, 63], 0),
  (0, .iconst 0, 1, [], 0),
  (1, .istore_n 2, 1, [2], 0),
  (2, .iload_n 2, 1, [2], 0),
  (3, .bipush 18, 2, [], 18),
  (5, .if_icmp .ge 40, 3, [45], 0),
  (8, .iload_n 1, 1, [1], 0),
  (9, .ifCond .eq 18, 3, [27], 0),
  (12, .aload_n 0, 1, [0], 0),
  (13, .getfield 19, 3, [2, 2, 0, 0, 0, 100], 0),
  (16, .iload_n 2, 1, [2], 0),
  (17, .aload_n 0, 1, [0], 0),
  (18, .getfield 15, 3, [2, 1, 0, 0, 0, 99], 0),
  (21, .iload_n 2, 1, [2], 0),
  (22, .iaload, 1, [], 0),
  (23, .iastore, 1, [], 0),
  (24, .goto 15, 3, [39], 0),
  (27, .aload_n 0, 1, [0], 0),
  (28, .getfield 15, 3, [2, 1, 0, 0, 0, 99], 0),
  (31, .iload_n 2, 1, [2], 0),
  (32, .aload_n 0, 1, [0], 0),
  (33, .getfield 19, 3, [2, 2, 0, 0, 0, 100], 0),
  (36, .iload_n 2, 1, [2], 0),
  (37, .iaload, 1, [], 0),
  (38, .iastore, 1, [], 0),
  (39, .iinc 2 1, 3, [2], 1),
  (42, .goto (-40), 3, [2], 0),
  (45, .return_, 1, [], 0)]
def m_Plan_settle : xa_M := (⟨"MayMust$Plan", "settle", "(Z)V"⟩, prog_4_method_11_code, 3, none, t_Plan_settle)
abbrev n_Plan_settle : Nat := 26
def t_Plan_musts : List xa_I := [
  (65535, .nop, 0, [589, 63], 0),
  (0, .aload_n 0, 1, [0], 0),
  (1, .getfield 19, 3, [2, 2, 0, 0, 0, 100], 0),
  (4, .invokestatic 64, 3, [0, 29, 1, 0, 0, 590, 591], 0),
  (7, .ireturn, 1, [0], 0)]
def m_Plan_musts : xa_M := (⟨"MayMust$Plan", "musts", "()I"⟩, prog_4_method_12_code, 1, (some .int), t_Plan_musts)
abbrev n_Plan_musts : Nat := 27
def t_Plan_choices : List xa_I := [
  (65535, .nop, 0, [602, 63], 0),
  (0, .aload_n 0, 1, [0], 0),
  (1, .getfield 15, 3, [2, 1, 0, 0, 0, 99], 0),
  (4, .invokestatic 64, 3, [0, 29, 1, 0, 0, 590, 591], 0),
  (7, .aload_n 0, 1, [0], 0),
  (8, .getfield 19, 3, [2, 2, 0, 0, 0, 100], 0),
  (11, .invokestatic 64, 3, [0, 29, 1, 0, 0, 590, 591], 0),
  (14, .isub, 1, [], 0),
  (15, .ireturn, 1, [0], 0)]
def m_Plan_choices : xa_M := (⟨"MayMust$Plan", "choices", "()I"⟩, prog_4_method_13_code, 1, (some .int), t_Plan_choices)
abbrev n_Plan_choices : Nat := 28
def t_Plan_bitsOf : List xa_I := [
  (65535, .nop, 0, [592, 63], 0),
  (0, .iconst 0, 1, [], 0),
  (1, .istore_n 1, 1, [1], 0),
  (2, .aload_n 0, 1, [0], 0),
  (3, .astore_n 2, 1, [2], 0),
  (4, .aload_n 2, 1, [2], 0),
  (5, .arraylength, 1, [], 0),
  (6, .istore_n 3, 1, [3], 0),
  (7, .iconst 0, 1, [], 0),
  (8, .istore 4, 2, [4], 0),
  (10, .iload 4, 2, [4], 0),
  (12, .iload_n 3, 1, [3], 0),
  (13, .if_icmp .ge 23, 3, [36], 0),
  (16, .aload_n 2, 1, [2], 0),
  (17, .iload 4, 2, [4], 0),
  (19, .iaload, 1, [], 0),
  (20, .istore 5, 2, [5], 0),
  (22, .iload_n 1, 1, [1], 0),
  (23, .iload 5, 2, [5], 0),
  (25, .invokestatic 68, 3, [0, 179, 1, 0, 0, 593, 594], 0),
  (28, .iadd, 1, [], 0),
  (29, .istore_n 1, 1, [1], 0),
  (30, .iinc 4 1, 3, [4], 1),
  (33, .goto (-23), 3, [10], 0),
  (36, .iload_n 1, 1, [1], 0),
  (37, .ireturn, 1, [0], 0)]
def m_Plan_bitsOf : xa_M := (⟨"MayMust$Plan", "bitsOf", "([I)I"⟩, prog_4_method_14_code, 6, (some .int), t_Plan_bitsOf)
abbrev n_Plan_bitsOf : Nat := 29
def t_Plan_isSpot : List xa_I := [
  (65535, .nop, 0, [526, 63], 0),
  (0, .iload_n 0, 1, [0], 0),
  (1, .ifCond .lt 22, 3, [23], 0),
  (4, .iload_n 0, 1, [0], 0),
  (5, .bipush 6, 2, [], 6),
  (7, .if_icmp .ge 16, 3, [23], 0),
  (10, .iload_n 1, 1, [1], 0),
  (11, .ifCond .lt 12, 3, [23], 0),
  (14, .iload_n 1, 1, [1], 0),
  (15, .iconst 3, 1, [], 3),
  (16, .if_icmp .ge 7, 3, [23], 0),
  (19, .iconst 1, 1, [], 1),
  (20, .goto 4, 3, [24], 0),
  (23, .iconst 0, 1, [], 0),
  (24, .ireturn, 1, [1], 0)]
def m_Plan_isSpot : xa_M := (⟨"MayMust$Plan", "isSpot", "(II)Z"⟩, prog_4_method_15_code, 2, (some .boolean), t_Plan_isSpot)
abbrev n_Plan_isSpot : Nat := 30
def t_Reader_init : List xa_I := [
  (65535, .nop, 0, [126, 65], 0),
  (0, .aload_n 0, 1, [0], 0),
  (1, .invokespecial 3, 3, [9, 0, 0, 0, 0, 127, 89, 90], 0),
  (4, .aload_n 0, 1, [0], 0),
  (5, .new 9, 3, [8, 0, 0, 0, 0, 128, 129, 66], 0),
  (8, .dup, 1, [], 0),
  (9, .invokespecial 11, 3, [1, 80, 0, 0, 0, 131, 0, 0, 0, 130], 0),
  (12, .putfield 12, 3, [3, 0, 1, 0, 0, 150], 0),
  (15, .return_, 1, [], 0)]
def m_Reader_init : xa_M := (⟨"MayMust$Reader", "<init>", "()V"⟩, prog_5_method_1_code, 1, none, t_Reader_init)
abbrev n_Reader_init : Nat := 31
def t_Reader_readPlan : List xa_I := [
  (65535, .nop, 0, [322, 65], 0),
  (0, .aload_n 0, 1, [0], 0),
  (1, .getfield 12, 3, [3, 0, 0, 0, 0, 150], 0),
  (4, .aload_n 1, 1, [1], 0),
  (5, .invokevirtual 18, 3, [0, 81, 1, 8, 0, 323, 324, 325], 0),
  (8, .aload_n 0, 1, [0], 0),
  (9, .aload_n 2, 1, [2], 0),
  (10, .invokevirtual 22, 3, [0, 33, 1, 3, 0, 474, 476, 4], 0),
  (13, .ifCond .ne 14, 3, [27], 0),
  (16, .bipush (-10), 2, [], (-10)),
  (18, .aload_n 0, 1, [0], 0),
  (19, .getfield 12, 3, [3, 0, 0, 0, 0, 150], 0),
  (22, .invokevirtual 26, 3, [0, 83, 0, 8, 0, 507, 508, 509], 0),
  (25, .isub, 1, [], 0),
  (26, .ireturn, 1, [0], 0),
  (27, .iconst 0, 1, [], 0),
  (28, .istore_n 3, 1, [3], 0),
  (29, .iload_n 3, 1, [3], 0),
  (30, .sipush 300, 3, [], 300),
  (33, .if_icmp .ge 38, 3, [71], 0),
  (36, .aload_n 0, 1, [0], 0),
  (37, .getfield 12, 3, [3, 0, 0, 0, 0, 150], 0),
  (40, .invokevirtual 30, 3, [0, 82, 0, 8, 0, 511, 483, 484], 0),
  (43, .ifCond .eq 28, 3, [71], 0),
  (46, .aload_n 0, 1, [0], 0),
  (47, .aload_n 2, 1, [2], 0),
  (48, .invokevirtual 33, 3, [0, 34, 1, 3, 0, 512, 514, 5], 0),
  (51, .ifCond .ne 14, 3, [65], 0),
  (54, .bipush (-10), 2, [], (-10)),
  (56, .aload_n 0, 1, [0], 0),
  (57, .getfield 12, 3, [3, 0, 0, 0, 0, 150], 0),
  (60, .invokevirtual 26, 3, [0, 83, 0, 8, 0, 507, 508, 509], 0),
  (63, .isub, 1, [], 0),
  (64, .ireturn, 1, [0], 0),
  (65, .iinc 3 1, 3, [3], 1),
  (68, .goto (-39), 3, [29], 0),
  (71, .iload_n 3, 1, [3], 0),
  (72, .ireturn, 1, [0], 0)]
def m_Reader_readPlan : xa_M := (⟨"MayMust$Reader", "readPlan", "(LMayMust$Text;LMayMust$Plan;)I"⟩, prog_5_method_2_code, 4, (some .int), t_Reader_readPlan)
abbrev n_Reader_readPlan : Nat := 32
def t_Reader_readHead : List xa_I := [
  (65535, .nop, 0, [477, 65], 0),
  (0, .aload_n 0, 1, [0], 0),
  (1, .getfield 12, 3, [3, 0, 0, 0, 0, 150], 0),
  (4, .iconst 4, 1, [], 4),
  (5, .invokevirtual 36, 3, [0, 85, 1, 8, 0, 478, 479, 480], 0),
  (8, .ifCond .ne 5, 3, [13], 0),
  (11, .iconst 0, 1, [], 0),
  (12, .ireturn, 1, [1], 0),
  (13, .aload_n 0, 1, [0], 0),
  (14, .getfield 12, 3, [3, 0, 0, 0, 0, 150], 0),
  (17, .iconst 2, 1, [], 2),
  (18, .iconst 1, 1, [], 1),
  (19, .bipush 6, 2, [], 6),
  (21, .invokevirtual 40, 3, [0, 86, 3, 8, 0, 490, 491, 492], 0),
  (24, .istore_n 2, 1, [2], 0),
  (25, .iload_n 2, 1, [2], 0),
  (26, .ifCond .lt 15, 3, [41], 0),
  (29, .aload_n 0, 1, [0], 0),
  (30, .getfield 12, 3, [3, 0, 0, 0, 0, 150], 0),
  (33, .bipush 59, 2, [], 59),
  (35, .invokevirtual 36, 3, [0, 85, 1, 8, 0, 478, 479, 480], 0),
  (38, .ifCond .ne 5, 3, [43], 0),
  (41, .iconst 0, 1, [], 0),
  (42, .ireturn, 1, [1], 0),
  (43, .aload_n 1, 1, [1], 0),
  (44, .iload_n 2, 1, [2], 0),
  (45, .invokevirtual 44, 3, [0, 18, 1, 2, 0, 494, 495, 496], 0),
  (48, .iconst 1, 1, [], 1),
  (49, .ireturn, 1, [1], 0)]
def m_Reader_readHead : xa_M := (⟨"MayMust$Reader", "readHead", "(LMayMust$Plan;)Z"⟩, prog_5_method_3_code, 3, (some .boolean), t_Reader_readHead)
abbrev n_Reader_readHead : Nat := 33
def t_Reader_readItem : List xa_I := [
  (65535, .nop, 0, [515, 65], 0),
  (0, .aload_n 0, 1, [0], 0),
  (1, .getfield 12, 3, [3, 0, 0, 0, 0, 150], 0),
  (4, .invokevirtual 30, 3, [0, 82, 0, 8, 0, 511, 483, 484], 0),
  (7, .bipush 6, 2, [], 6),
  (9, .if_icmp .ne 7, 3, [16], 0),
  (12, .iconst 2, 1, [], 2),
  (13, .goto 4, 3, [17], 0),
  (16, .iconst 1, 1, [], 1),
  (17, .istore_n 2, 1, [2], 0),
  (18, .aload_n 0, 1, [0], 0),
  (19, .getfield 12, 3, [3, 0, 0, 0, 0, 150], 0),
  (22, .iconst 5, 1, [], 5),
  (23, .invokevirtual 36, 3, [0, 85, 1, 8, 0, 478, 479, 480], 0),
  (26, .ifCond .ne 17, 3, [43], 0),
  (29, .aload_n 0, 1, [0], 0),
  (30, .getfield 12, 3, [3, 0, 0, 0, 0, 150], 0),
  (33, .bipush 6, 2, [], 6),
  (35, .invokevirtual 36, 3, [0, 85, 1, 8, 0, 478, 479, 480], 0),
  (38, .ifCond .ne 5, 3, [43], 0),
  (41, .iconst 0, 1, [], 0),
  (42, .ireturn, 1, [1], 0),
  (43, .aload_n 0, 1, [0], 0),
  (44, .getfield 12, 3, [3, 0, 0, 0, 0, 150], 0),
  (47, .iconst 2, 1, [], 2),
  (48, .iconst 0, 1, [], 0),
  (49, .aload_n 1, 1, [1], 0),
  (50, .invokevirtual 50, 3, [0, 17, 0, 2, 0, 516, 517, 518], 0),
  (53, .iconst 1, 1, [], 1),
  (54, .isub, 1, [], 0),
  (55, .invokevirtual 40, 3, [0, 86, 3, 8, 0, 490, 491, 492], 0),
  (58, .istore_n 3, 1, [3], 0),
  (59, .iload_n 3, 1, [3], 0),
  (60, .ifCond .ge 5, 3, [65], 0),
  (63, .iconst 0, 1, [], 0),
  (64, .ireturn, 1, [1], 0),
  (65, .aload_n 0, 1, [0], 0),
  (66, .getfield 12, 3, [3, 0, 0, 0, 0, 150], 0),
  (69, .iconst 3, 1, [], 3),
  (70, .iconst 0, 1, [], 0),
  (71, .iconst 2, 1, [], 2),
  (72, .invokevirtual 40, 3, [0, 86, 3, 8, 0, 490, 491, 492], 0),
  (75, .istore 4, 2, [4], 0),
  (77, .iload 4, 2, [4], 0),
  (79, .ifCond .ge 5, 3, [84], 0),
  (82, .iconst 0, 1, [], 0),
  (83, .ireturn, 1, [1], 0),
  (84, .aload_n 0, 1, [0], 0),
  (85, .getfield 12, 3, [3, 0, 0, 0, 0, 150], 0),
  (88, .iconst 2, 1, [], 2),
  (89, .iconst 0, 1, [], 0),
  (90, .aload_n 1, 1, [1], 0),
  (91, .invokevirtual 50, 3, [0, 17, 0, 2, 0, 516, 517, 518], 0),
  (94, .iconst 1, 1, [], 1),
  (95, .isub, 1, [], 0),
  (96, .invokevirtual 40, 3, [0, 86, 3, 8, 0, 490, 491, 492], 0),
  (99, .istore 5, 2, [5], 0),
  (101, .iload 5, 2, [5], 0),
  (103, .ifCond .lt 15, 3, [118], 0),
  (106, .aload_n 0, 1, [0], 0),
  (107, .getfield 12, 3, [3, 0, 0, 0, 0, 150], 0),
  (110, .bipush 59, 2, [], 59),
  (112, .invokevirtual 36, 3, [0, 85, 1, 8, 0, 478, 479, 480], 0),
  (115, .ifCond .ne 5, 3, [120], 0),
  (118, .iconst 0, 1, [], 0),
  (119, .ireturn, 1, [1], 0),
  (120, .aload_n 1, 1, [1], 0),
  (121, .iload_n 3, 1, [3], 0),
  (122, .iload 4, 2, [4], 0),
  (124, .iload 5, 2, [5], 0),
  (126, .iload_n 2, 1, [2], 0),
  (127, .invokevirtual 53, 3, [0, 25, 4, 2, 0, 520, 521, 522], 0),
  (130, .iconst 1, 1, [], 1),
  (131, .ireturn, 1, [1], 0)]
def m_Reader_readItem : xa_M := (⟨"MayMust$Reader", "readItem", "(LMayMust$Plan;)Z"⟩, prog_5_method_4_code, 6, (some .boolean), t_Reader_readItem)
abbrev n_Reader_readItem : Nat := 34
def t_Reader_readSaying : List xa_I := [
  (65535, .nop, 0, [542, 65], 0),
  (0, .aload_n 0, 1, [0], 0),
  (1, .getfield 12, 3, [3, 0, 0, 0, 0, 150], 0),
  (4, .aload_n 1, 1, [1], 0),
  (5, .invokevirtual 18, 3, [0, 81, 1, 8, 0, 323, 324, 325], 0),
  (8, .aload_n 2, 1, [2], 0),
  (9, .invokevirtual 57, 3, [0, 54, 0, 5, 0, 543, 544, 545], 0),
  (12, .aload_n 0, 1, [0], 0),
  (13, .aload_n 2, 1, [2], 0),
  (14, .iconst 0, 1, [], 0),
  (15, .invokevirtual 61, 3, [0, 36, 2, 3, 0, 547, 549, 6], 0),
  (18, .ifCond .eq 13, 3, [31], 0),
  (21, .aload_n 0, 1, [0], 0),
  (22, .getfield 12, 3, [3, 0, 0, 0, 0, 150], 0),
  (25, .invokevirtual 30, 3, [0, 82, 0, 8, 0, 511, 483, 484], 0),
  (28, .ifCond .eq 14, 3, [42], 0),
  (31, .bipush (-10), 2, [], (-10)),
  (33, .aload_n 0, 1, [0], 0),
  (34, .getfield 12, 3, [3, 0, 0, 0, 0, 150], 0),
  (37, .invokevirtual 26, 3, [0, 83, 0, 8, 0, 507, 508, 509], 0),
  (40, .isub, 1, [], 0),
  (41, .ireturn, 1, [0], 0),
  (42, .aload_n 2, 1, [2], 0),
  (43, .invokevirtual 65, 3, [0, 53, 0, 5, 0, 563, 564, 565], 0),
  (46, .ireturn, 1, [0], 0)]
def m_Reader_readSaying : xa_M := (⟨"MayMust$Reader", "readSaying", "(LMayMust$Text;LMayMust$Saying;)I"⟩, prog_5_method_5_code, 3, (some .int), t_Reader_readSaying)
abbrev n_Reader_readSaying : Nat := 35
def t_Reader_readBoths : List xa_I := [
  (65535, .nop, 0, [550, 65], 0),
  (0, .aload_n 0, 1, [0], 0),
  (1, .aload_n 1, 1, [1], 0),
  (2, .iload_n 2, 1, [2], 0),
  (3, .invokevirtual 68, 3, [0, 37, 2, 3, 0, 551, 553, 7], 0),
  (6, .ifCond .ne 5, 3, [11], 0),
  (9, .iconst 0, 1, [], 0),
  (10, .ireturn, 1, [1], 0),
  (11, .iconst 0, 1, [], 0),
  (12, .istore_n 3, 1, [3], 0),
  (13, .iload_n 3, 1, [3], 0),
  (14, .sipush 300, 3, [], 300),
  (17, .if_icmp .ge 37, 3, [54], 0),
  (20, .aload_n 0, 1, [0], 0),
  (21, .getfield 12, 3, [3, 0, 0, 0, 0, 150], 0),
  (24, .bipush 124, 2, [], 124),
  (26, .invokevirtual 36, 3, [0, 85, 1, 8, 0, 478, 479, 480], 0),
  (29, .ifCond .eq 25, 3, [54], 0),
  (32, .aload_n 0, 1, [0], 0),
  (33, .aload_n 1, 1, [1], 0),
  (34, .iload_n 2, 1, [2], 0),
  (35, .invokevirtual 68, 3, [0, 37, 2, 3, 0, 551, 553, 7], 0),
  (38, .ifCond .ne 5, 3, [43], 0),
  (41, .iconst 0, 1, [], 0),
  (42, .ireturn, 1, [1], 0),
  (43, .aload_n 1, 1, [1], 0),
  (44, .iconst 4, 1, [], 4),
  (45, .invokevirtual 71, 3, [0, 56, 1, 5, 0, 567, 161, 162], 0),
  (48, .iinc 3 1, 3, [3], 1),
  (51, .goto (-38), 3, [13], 0),
  (54, .iconst 1, 1, [], 1),
  (55, .ireturn, 1, [1], 0)]
def m_Reader_readBoths : xa_M := (⟨"MayMust$Reader", "readBoths", "(LMayMust$Saying;I)Z"⟩, prog_5_method_6_code, 4, (some .boolean), t_Reader_readBoths)
abbrev n_Reader_readBoths : Nat := 36
def t_Reader_readBoth : List xa_I := [
  (65535, .nop, 0, [554, 65], 0),
  (0, .aload_n 0, 1, [0], 0),
  (1, .aload_n 1, 1, [1], 0),
  (2, .iload_n 2, 1, [2], 0),
  (3, .invokevirtual 74, 3, [0, 38, 2, 3, 0, 555, 557, 8], 0),
  (6, .ifCond .ne 5, 3, [11], 0),
  (9, .iconst 0, 1, [], 0),
  (10, .ireturn, 1, [1], 0),
  (11, .iconst 0, 1, [], 0),
  (12, .istore_n 3, 1, [3], 0),
  (13, .iload_n 3, 1, [3], 0),
  (14, .sipush 300, 3, [], 300),
  (17, .if_icmp .ge 37, 3, [54], 0),
  (20, .aload_n 0, 1, [0], 0),
  (21, .getfield 12, 3, [3, 0, 0, 0, 0, 150], 0),
  (24, .bipush 38, 2, [], 38),
  (26, .invokevirtual 36, 3, [0, 85, 1, 8, 0, 478, 479, 480], 0),
  (29, .ifCond .eq 25, 3, [54], 0),
  (32, .aload_n 0, 1, [0], 0),
  (33, .aload_n 1, 1, [1], 0),
  (34, .iload_n 2, 1, [2], 0),
  (35, .invokevirtual 74, 3, [0, 38, 2, 3, 0, 555, 557, 8], 0),
  (38, .ifCond .ne 5, 3, [43], 0),
  (41, .iconst 0, 1, [], 0),
  (42, .ireturn, 1, [1], 0),
  (43, .aload_n 1, 1, [1], 0),
  (44, .iconst 3, 1, [], 3),
  (45, .invokevirtual 71, 3, [0, 56, 1, 5, 0, 567, 161, 162], 0),
  (48, .iinc 3 1, 3, [3], 1),
  (51, .goto (-38), 3, [13], 0),
  (54, .iconst 1, 1, [], 1),
  (55, .ireturn, 1, [1], 0)]
def m_Reader_readBoth : xa_M := (⟨"MayMust$Reader", "readBoth", "(LMayMust$Saying;I)Z"⟩, prog_5_method_7_code, 4, (some .boolean), t_Reader_readBoth)
abbrev n_Reader_readBoth : Nat := 37
def t_Reader_readUnit : List xa_I := [
  (65535, .nop, 0, [558, 65], 0),
  (0, .aload_n 0, 1, [0], 0),
  (1, .getfield 12, 3, [3, 0, 0, 0, 0, 150], 0),
  (4, .invokevirtual 30, 3, [0, 82, 0, 8, 0, 511, 483, 484], 0),
  (7, .iconst 2, 1, [], 2),
  (8, .if_icmp .ne 9, 3, [17], 0),
  (11, .aload_n 0, 1, [0], 0),
  (12, .aload_n 1, 1, [1], 0),
  (13, .invokevirtual 77, 3, [0, 39, 1, 3, 0, 559, 561, 9], 0),
  (16, .ireturn, 1, [1], 0),
  (17, .iload_n 2, 1, [2], 0),
  (18, .bipush 10, 2, [], 10),
  (20, .if_icmp .lt 5, 3, [25], 0),
  (23, .iconst 0, 1, [], 0),
  (24, .ireturn, 1, [1], 0),
  (25, .aload_n 0, 1, [0], 0),
  (26, .getfield 12, 3, [3, 0, 0, 0, 0, 150], 0),
  (29, .bipush 33, 2, [], 33),
  (31, .invokevirtual 36, 3, [0, 85, 1, 8, 0, 478, 479, 480], 0),
  (34, .ifCond .eq 12, 3, [46], 0),
  (37, .aload_n 0, 1, [0], 0),
  (38, .aload_n 1, 1, [1], 0),
  (39, .iload_n 2, 1, [2], 0),
  (40, .iconst 1, 1, [], 1),
  (41, .iadd, 1, [], 0),
  (42, .invokevirtual 81, 3, [0, 40, 2, 3, 0, 568, 570, 10], 0),
  (45, .ireturn, 1, [1], 0),
  (46, .aload_n 0, 1, [0], 0),
  (47, .getfield 12, 3, [3, 0, 0, 0, 0, 150], 0),
  (50, .bipush 40, 2, [], 40),
  (52, .invokevirtual 36, 3, [0, 85, 1, 8, 0, 478, 479, 480], 0),
  (55, .ifCond .eq 32, 3, [87], 0),
  (58, .aload_n 0, 1, [0], 0),
  (59, .aload_n 1, 1, [1], 0),
  (60, .iload_n 2, 1, [2], 0),
  (61, .iconst 1, 1, [], 1),
  (62, .iadd, 1, [], 0),
  (63, .invokevirtual 61, 3, [0, 36, 2, 3, 0, 547, 549, 6], 0),
  (66, .ifCond .eq 19, 3, [85], 0),
  (69, .aload_n 0, 1, [0], 0),
  (70, .getfield 12, 3, [3, 0, 0, 0, 0, 150], 0),
  (73, .bipush 41, 2, [], 41),
  (75, .invokevirtual 36, 3, [0, 85, 1, 8, 0, 478, 479, 480], 0),
  (78, .ifCond .eq 7, 3, [85], 0),
  (81, .iconst 1, 1, [], 1),
  (82, .goto 4, 3, [86], 0),
  (85, .iconst 0, 1, [], 0),
  (86, .ireturn, 1, [1], 0),
  (87, .aload_n 0, 1, [0], 0),
  (88, .getfield 12, 3, [3, 0, 0, 0, 0, 150], 0),
  (91, .bipush 60, 2, [], 60),
  (93, .invokevirtual 36, 3, [0, 85, 1, 8, 0, 478, 479, 480], 0),
  (96, .ifCond .eq 15, 3, [111], 0),
  (99, .aload_n 0, 1, [0], 0),
  (100, .aload_n 1, 1, [1], 0),
  (101, .iconst 5, 1, [], 5),
  (102, .bipush 62, 2, [], 62),
  (104, .iload_n 2, 1, [2], 0),
  (105, .iconst 1, 1, [], 1),
  (106, .iadd, 1, [], 0),
  (107, .invokevirtual 84, 3, [0, 41, 4, 3, 0, 572, 574, 11], 0),
  (110, .ireturn, 1, [1], 0),
  (111, .aload_n 0, 1, [0], 0),
  (112, .getfield 12, 3, [3, 0, 0, 0, 0, 150], 0),
  (115, .bipush 91, 2, [], 91),
  (117, .invokevirtual 36, 3, [0, 85, 1, 8, 0, 478, 479, 480], 0),
  (120, .ifCond .eq 22, 3, [142], 0),
  (123, .aload_n 0, 1, [0], 0),
  (124, .aload_n 1, 1, [1], 0),
  (125, .bipush 8, 2, [], 8),
  (127, .bipush 93, 2, [], 93),
  (129, .iload_n 2, 1, [2], 0),
  (130, .iconst 1, 1, [], 1),
  (131, .iadd, 1, [], 0),
  (132, .invokevirtual 84, 3, [0, 41, 4, 3, 0, 572, 574, 11], 0),
  (135, .ifCond .eq 7, 3, [142], 0),
  (138, .iconst 1, 1, [], 1),
  (139, .goto 4, 3, [143], 0),
  (142, .iconst 0, 1, [], 0),
  (143, .ireturn, 1, [1], 0)]
def m_Reader_readUnit : xa_M := (⟨"MayMust$Reader", "readUnit", "(LMayMust$Saying;I)Z"⟩, prog_5_method_8_code, 3, (some .boolean), t_Reader_readUnit)
abbrev n_Reader_readUnit : Nat := 38
def t_Reader_readBit : List xa_I := [
  (65535, .nop, 0, [562, 65], 0),
  (0, .aload_n 1, 1, [1], 0),
  (1, .invokevirtual 65, 3, [0, 53, 0, 5, 0, 563, 564, 565], 0),
  (4, .bipush 24, 2, [], 24),
  (6, .if_icmp .lt 5, 3, [11], 0),
  (9, .iconst 0, 1, [], 0),
  (10, .ireturn, 1, [1], 0),
  (11, .aload_n 0, 1, [0], 0),
  (12, .getfield 12, 3, [3, 0, 0, 0, 0, 150], 0),
  (15, .iconst 2, 1, [], 2),
  (16, .iconst 0, 1, [], 0),
  (17, .iconst 1, 1, [], 1),
  (18, .invokevirtual 40, 3, [0, 86, 3, 8, 0, 490, 491, 492], 0),
  (21, .istore_n 2, 1, [2], 0),
  (22, .iload_n 2, 1, [2], 0),
  (23, .ifCond .ge 5, 3, [28], 0),
  (26, .iconst 0, 1, [], 0),
  (27, .ireturn, 1, [1], 0),
  (28, .aload_n 1, 1, [1], 0),
  (29, .iload_n 2, 1, [2], 0),
  (30, .iconst 1, 1, [], 1),
  (31, .if_icmp .ne 7, 3, [38], 0),
  (34, .iconst 1, 1, [], 1),
  (35, .goto 4, 3, [39], 0),
  (38, .iconst 0, 1, [], 0),
  (39, .invokevirtual 71, 3, [0, 56, 1, 5, 0, 567, 161, 162], 0),
  (42, .iconst 1, 1, [], 1),
  (43, .ireturn, 1, [1], 0)]
def m_Reader_readBit : xa_M := (⟨"MayMust$Reader", "readBit", "(LMayMust$Saying;)Z"⟩, prog_5_method_9_code, 3, (some .boolean), t_Reader_readBit)
abbrev n_Reader_readBit : Nat := 39
def t_Reader_readNot : List xa_I := [
  (65535, .nop, 0, [571, 65], 0),
  (0, .aload_n 0, 1, [0], 0),
  (1, .aload_n 1, 1, [1], 0),
  (2, .iload_n 2, 1, [2], 0),
  (3, .invokevirtual 74, 3, [0, 38, 2, 3, 0, 555, 557, 8], 0),
  (6, .ifCond .ne 5, 3, [11], 0),
  (9, .iconst 0, 1, [], 0),
  (10, .ireturn, 1, [1], 0),
  (11, .aload_n 1, 1, [1], 0),
  (12, .iconst 2, 1, [], 2),
  (13, .invokevirtual 71, 3, [0, 56, 1, 5, 0, 567, 161, 162], 0),
  (16, .iconst 1, 1, [], 1),
  (17, .ireturn, 1, [1], 0)]
def m_Reader_readNot : xa_M := (⟨"MayMust$Reader", "readNot", "(LMayMust$Saying;I)Z"⟩, prog_5_method_10_code, 3, (some .boolean), t_Reader_readNot)
abbrev n_Reader_readNot : Nat := 40
def t_Reader_readArrow : List xa_I := [
  (65535, .nop, 0, [575, 65], 0),
  (0, .aload_n 0, 1, [0], 0),
  (1, .getfield 12, 3, [3, 0, 0, 0, 0, 150], 0),
  (4, .iconst 3, 1, [], 3),
  (5, .iconst 0, 1, [], 0),
  (6, .iconst 2, 1, [], 2),
  (7, .invokevirtual 40, 3, [0, 86, 3, 8, 0, 490, 491, 492], 0),
  (10, .istore 5, 2, [5], 0),
  (12, .iload 5, 2, [5], 0),
  (14, .ifCond .lt 24, 3, [38], 0),
  (17, .aload_n 0, 1, [0], 0),
  (18, .getfield 12, 3, [3, 0, 0, 0, 0, 150], 0),
  (21, .iload_n 3, 1, [3], 0),
  (22, .invokevirtual 36, 3, [0, 85, 1, 8, 0, 478, 479, 480], 0),
  (25, .ifCond .eq 13, 3, [38], 0),
  (28, .aload_n 0, 1, [0], 0),
  (29, .aload_n 1, 1, [1], 0),
  (30, .iload 4, 2, [4], 0),
  (32, .invokevirtual 74, 3, [0, 38, 2, 3, 0, 555, 557, 8], 0),
  (35, .ifCond .ne 5, 3, [40], 0),
  (38, .iconst 0, 1, [], 0),
  (39, .ireturn, 1, [1], 0),
  (40, .aload_n 1, 1, [1], 0),
  (41, .iload_n 2, 1, [2], 0),
  (42, .iload 5, 2, [5], 0),
  (44, .iadd, 1, [], 0),
  (45, .invokevirtual 71, 3, [0, 56, 1, 5, 0, 567, 161, 162], 0),
  (48, .iconst 1, 1, [], 1),
  (49, .ireturn, 1, [1], 0)]
def m_Reader_readArrow : xa_M := (⟨"MayMust$Reader", "readArrow", "(LMayMust$Saying;III)Z"⟩, prog_5_method_11_code, 6, (some .boolean), t_Reader_readArrow)
abbrev n_Reader_readArrow : Nat := 41
def t_Rounds_init : List xa_I := [
  (65535, .nop, 0, [184, 68], 0),
  (0, .aload_n 0, 1, [0], 0),
  (1, .invokespecial 3, 3, [9, 0, 0, 0, 0, 185, 89, 90], 0),
  (4, .aload_n 0, 1, [0], 0),
  (5, .new 9, 3, [1, 0, 0, 0, 0, 186, 187, 69], 0),
  (8, .dup, 1, [], 0),
  (9, .invokespecial 11, 3, [1, 8, 0, 0, 0, 189, 0, 0, 0, 188], 0),
  (12, .putfield 12, 3, [4, 0, 1, 0, 0, 199], 0),
  (15, .aload_n 0, 1, [0], 0),
  (16, .bipush 36, 2, [], 36),
  (18, .newarray .int, 2, [0, 0, 0, 0, 0, 108], 0),
  (20, .putfield 18, 3, [4, 1, 1, 0, 0, 200], 0),
  (23, .aload_n 0, 1, [0], 0),
  (24, .bipush (-9), 2, [], (-9)),
  (26, .putfield 22, 3, [4, 2, 0, 0, 0, 201], 0),
  (29, .aload_n 0, 1, [0], 0),
  (30, .iconst 0, 1, [], 0),
  (31, .putfield 26, 3, [4, 3, 0, 0, 0, 202], 0),
  (34, .return_, 1, [], 0)]
def m_Rounds_init : xa_M := (⟨"MayMust$Rounds", "<init>", "()V"⟩, prog_6_method_1_code, 1, none, t_Rounds_init)
abbrev n_Rounds_init : Nat := 42
def t_Rounds_play : List xa_I := [
  (65535, .nop, 0, [649, 68], 0),
  (0, .aload_n 0, 1, [0], 0),
  (1, .getfield 12, 3, [4, 0, 0, 0, 0, 199], 0),
  (4, .aload_n 1, 1, [1], 0),
  (5, .invokevirtual 29, 3, [0, 17, 0, 2, 0, 650, 517, 518], 0),
  (8, .aload_n 2, 1, [2], 0),
  (9, .invokevirtual 29, 3, [0, 17, 0, 2, 0, 650, 517, 518], 0),
  (12, .invokevirtual 35, 3, [0, 9, 2, 1, 0, 651, 652, 653], 0),
  (15, .aload_n 0, 1, [0], 0),
  (16, .getfield 18, 3, [4, 1, 0, 0, 0, 200], 0),
  (19, .iconst 0, 1, [], 0),
  (20, .invokestatic 39, 3, [0, 191, 2, 0, 0, 655, 505], 0),
  (23, .aload_n 0, 1, [0], 0),
  (24, .bipush (-9), 2, [], (-9)),
  (26, .putfield 22, 3, [4, 2, 0, 0, 0, 201], 0),
  (29, .aload_n 0, 1, [0], 0),
  (30, .iconst 0, 1, [], 0),
  (31, .putfield 26, 3, [4, 3, 0, 0, 0, 202], 0),
  (34, .iconst 1, 1, [], 1),
  (35, .istore_n 3, 1, [3], 0),
  (36, .iconst 1, 1, [], 1),
  (37, .istore 4, 2, [4], 0),
  (39, .iload_n 3, 1, [3], 0),
  (40, .ifCond .eq 25, 3, [65], 0),
  (43, .iload 4, 2, [4], 0),
  (45, .bipush 37, 2, [], 37),
  (47, .if_icmp .gt 18, 3, [65], 0),
  (50, .aload_n 0, 1, [0], 0),
  (51, .aload_n 1, 1, [1], 0),
  (52, .aload_n 2, 1, [2], 0),
  (53, .iload 4, 2, [4], 0),
  (55, .invokevirtual 44, 3, [0, 48, 3, 4, 0, 656, 658, 14], 0),
  (58, .istore_n 3, 1, [3], 0),
  (59, .iinc 4 1, 3, [4], 1),
  (62, .goto (-23), 3, [39], 0),
  (65, .aload_n 0, 1, [0], 0),
  (66, .getfield 12, 3, [4, 0, 0, 0, 0, 199], 0),
  (69, .iconst 0, 1, [], 0),
  (70, .iconst 0, 1, [], 0),
  (71, .invokevirtual 48, 3, [0, 10, 2, 1, 0, 660, 661, 662], 0),
  (74, .ireturn, 1, [1], 0)]
def m_Rounds_play : xa_M := (⟨"MayMust$Rounds", "play", "(LMayMust$Plan;LMayMust$Plan;)Z"⟩, prog_6_method_2_code, 5, (some .boolean), t_Rounds_play)
abbrev n_Rounds_play : Nat := 43
def t_Rounds_roundOf : List xa_I := [
  (65535, .nop, 0, [700, 68], 0),
  (0, .iload_n 1, 1, [1], 0),
  (1, .ifCond .lt 19, 3, [20], 0),
  (4, .iload_n 1, 1, [1], 0),
  (5, .bipush 6, 2, [], 6),
  (7, .if_icmp .ge 13, 3, [20], 0),
  (10, .iload_n 2, 1, [2], 0),
  (11, .ifCond .lt 9, 3, [20], 0),
  (14, .iload_n 2, 1, [2], 0),
  (15, .bipush 6, 2, [], 6),
  (17, .if_icmp .lt 5, 3, [22], 0),
  (20, .iconst 0, 1, [], 0),
  (21, .ireturn, 1, [0], 0),
  (22, .aload_n 0, 1, [0], 0),
  (23, .getfield 18, 3, [4, 1, 0, 0, 0, 200], 0),
  (26, .iload_n 1, 1, [1], 0),
  (27, .bipush 6, 2, [], 6),
  (29, .imul, 1, [], 0),
  (30, .iload_n 2, 1, [2], 0),
  (31, .iadd, 1, [], 0),
  (32, .iaload, 1, [], 0),
  (33, .ireturn, 1, [0], 0)]
def m_Rounds_roundOf : xa_M := (⟨"MayMust$Rounds", "roundOf", "(II)I"⟩, prog_6_method_3_code, 3, (some .int), t_Rounds_roundOf)
abbrev n_Rounds_roundOf : Nat := 44
def t_Rounds_areOne : List xa_I := [
  (65535, .nop, 0, [733, 68], 0),
  (0, .aload_n 0, 1, [0], 0),
  (1, .iload_n 1, 1, [1], 0),
  (2, .iload_n 2, 1, [2], 0),
  (3, .invokevirtual 52, 3, [0, 44, 2, 4, 0, 734, 698, 699], 0),
  (6, .ifCond .ne 16, 3, [22], 0),
  (9, .aload_n 0, 1, [0], 0),
  (10, .iload_n 2, 1, [2], 0),
  (11, .iload_n 1, 1, [1], 0),
  (12, .invokevirtual 52, 3, [0, 44, 2, 4, 0, 734, 698, 699], 0),
  (15, .ifCond .ne 7, 3, [22], 0),
  (18, .iconst 1, 1, [], 1),
  (19, .goto 4, 3, [23], 0),
  (22, .iconst 0, 1, [], 0),
  (23, .ireturn, 1, [1], 0)]
def m_Rounds_areOne : xa_M := (⟨"MayMust$Rounds", "areOne", "(II)Z"⟩, prog_6_method_4_code, 3, (some .boolean), t_Rounds_areOne)
abbrev n_Rounds_areOne : Nat := 45
def t_Rounds_whyLetter : List xa_I := [
  (65535, .nop, 0, [704, 68], 0),
  (0, .aload_n 0, 1, [0], 0),
  (1, .getfield 22, 3, [4, 2, 0, 0, 0, 201], 0),
  (4, .ireturn, 1, [0], 0)]
def m_Rounds_whyLetter : xa_M := (⟨"MayMust$Rounds", "whyLetter", "()I"⟩, prog_6_method_5_code, 1, (some .int), t_Rounds_whyLetter)
abbrev n_Rounds_whyLetter : Nat := 46
def t_Rounds_whySide : List xa_I := [
  (65535, .nop, 0, [708, 68], 0),
  (0, .aload_n 0, 1, [0], 0),
  (1, .getfield 26, 3, [4, 3, 0, 0, 0, 202], 0),
  (4, .ireturn, 1, [0], 0)]
def m_Rounds_whySide : xa_M := (⟨"MayMust$Rounds", "whySide", "()I"⟩, prog_6_method_6_code, 1, (some .int), t_Rounds_whySide)
abbrev n_Rounds_whySide : Nat := 47
def t_Rounds_playOne : List xa_I := [
  (65535, .nop, 0, [659, 68], 0),
  (0, .iconst 0, 1, [], 0),
  (1, .istore 4, 2, [4], 0),
  (3, .iconst 0, 1, [], 0),
  (4, .istore 5, 2, [5], 0),
  (6, .iload 5, 2, [5], 0),
  (8, .aload_n 0, 1, [0], 0),
  (9, .getfield 18, 3, [4, 1, 0, 0, 0, 200], 0),
  (12, .arraylength, 1, [], 0),
  (13, .if_icmp .ge 61, 3, [74], 0),
  (16, .iload 5, 2, [5], 0),
  (18, .bipush 6, 2, [], 6),
  (20, .idiv, 1, [], 0),
  (21, .istore 6, 2, [6], 0),
  (23, .iload 5, 2, [5], 0),
  (25, .bipush 6, 2, [], 6),
  (27, .irem, 1, [], 0),
  (28, .istore 7, 2, [7], 0),
  (30, .aload_n 0, 1, [0], 0),
  (31, .getfield 12, 3, [4, 0, 0, 0, 0, 199], 0),
  (34, .iload 6, 2, [6], 0),
  (36, .iload 7, 2, [7], 0),
  (38, .invokevirtual 48, 3, [0, 10, 2, 1, 0, 660, 661, 662], 0),
  (41, .ifCond .eq 27, 3, [68], 0),
  (44, .aload_n 0, 1, [0], 0),
  (45, .aload_n 1, 1, [1], 0),
  (46, .aload_n 2, 1, [2], 0),
  (47, .iload 6, 2, [6], 0),
  (49, .iload 7, 2, [7], 0),
  (51, .invokevirtual 56, 3, [0, 50, 4, 4, 0, 668, 670, 15], 0),
  (54, .ifCond .eq 14, 3, [68], 0),
  (57, .aload_n 0, 1, [0], 0),
  (58, .getfield 18, 3, [4, 1, 0, 0, 0, 200], 0),
  (61, .iload 5, 2, [5], 0),
  (63, .iload_n 3, 1, [3], 0),
  (64, .iastore, 1, [], 0),
  (65, .iconst 1, 1, [], 1),
  (66, .istore 4, 2, [4], 0),
  (68, .iinc 5 1, 3, [5], 1),
  (71, .goto (-65), 3, [6], 0),
  (74, .aload_n 0, 1, [0], 0),
  (75, .iload_n 3, 1, [3], 0),
  (76, .invokevirtual 60, 3, [0, 49, 1, 4, 0, 689, 691, 17], 0),
  (79, .iload 4, 2, [4], 0),
  (81, .ireturn, 1, [1], 0)]
def m_Rounds_playOne : xa_M := (⟨"MayMust$Rounds", "playOne", "(LMayMust$Plan;LMayMust$Plan;I)Z"⟩, prog_6_method_7_code, 8, (some .boolean), t_Rounds_playOne)
abbrev n_Rounds_playOne : Nat := 48
def t_Rounds_dropThoseOf : List xa_I := [
  (65535, .nop, 0, [692, 68], 0),
  (0, .iconst 0, 1, [], 0),
  (1, .istore_n 2, 1, [2], 0),
  (2, .iload_n 2, 1, [2], 0),
  (3, .aload_n 0, 1, [0], 0),
  (4, .getfield 18, 3, [4, 1, 0, 0, 0, 200], 0),
  (7, .arraylength, 1, [], 0),
  (8, .if_icmp .ge 34, 3, [42], 0),
  (11, .aload_n 0, 1, [0], 0),
  (12, .getfield 18, 3, [4, 1, 0, 0, 0, 200], 0),
  (15, .iload_n 2, 1, [2], 0),
  (16, .iaload, 1, [], 0),
  (17, .iload_n 1, 1, [1], 0),
  (18, .if_icmp .ne 18, 3, [36], 0),
  (21, .aload_n 0, 1, [0], 0),
  (22, .getfield 12, 3, [4, 0, 0, 0, 0, 199], 0),
  (25, .iload_n 2, 1, [2], 0),
  (26, .bipush 6, 2, [], 6),
  (28, .idiv, 1, [], 0),
  (29, .iload_n 2, 1, [2], 0),
  (30, .bipush 6, 2, [], 6),
  (32, .irem, 1, [], 0),
  (33, .invokevirtual 64, 3, [0, 11, 2, 1, 0, 693, 694, 695], 0),
  (36, .iinc 2 1, 3, [2], 1),
  (39, .goto (-37), 3, [2], 0),
  (42, .return_, 1, [], 0)]
def m_Rounds_dropThoseOf : xa_M := (⟨"MayMust$Rounds", "dropThoseOf", "(I)V"⟩, prog_6_method_8_code, 3, none, t_Rounds_dropThoseOf)
abbrev n_Rounds_dropThoseOf : Nat := 49
def t_Rounds_hasToGo : List xa_I := [
  (65535, .nop, 0, [671, 68], 0),
  (0, .iconst 0, 1, [], 0),
  (1, .istore 5, 2, [5], 0),
  (3, .iload 5, 2, [5], 0),
  (5, .iconst 3, 1, [], 3),
  (6, .if_icmp .ge 50, 3, [56], 0),
  (9, .aload_n 0, 1, [0], 0),
  (10, .aload_n 1, 1, [1], 0),
  (11, .aload_n 2, 1, [2], 0),
  (12, .iload_n 3, 1, [3], 0),
  (13, .iload 4, 2, [4], 0),
  (15, .iload 5, 2, [5], 0),
  (17, .invokevirtual 67, 3, [0, 51, 5, 4, 0, 672, 674, 16], 0),
  (20, .istore 6, 2, [6], 0),
  (22, .iload 6, 2, [6], 0),
  (24, .ifCond .eq 26, 3, [50], 0),
  (27, .iload_n 3, 1, [3], 0),
  (28, .ifCond .ne 20, 3, [48], 0),
  (31, .iload 4, 2, [4], 0),
  (33, .ifCond .ne 15, 3, [48], 0),
  (36, .aload_n 0, 1, [0], 0),
  (37, .iload 5, 2, [5], 0),
  (39, .putfield 22, 3, [4, 2, 0, 0, 0, 201], 0),
  (42, .aload_n 0, 1, [0], 0),
  (43, .iload 6, 2, [6], 0),
  (45, .putfield 26, 3, [4, 3, 0, 0, 0, 202], 0),
  (48, .iconst 1, 1, [], 1),
  (49, .ireturn, 1, [1], 0),
  (50, .iinc 5 1, 3, [5], 1),
  (53, .goto (-50), 3, [3], 0),
  (56, .iconst 0, 1, [], 0),
  (57, .ireturn, 1, [1], 0)]
def m_Rounds_hasToGo : xa_M := (⟨"MayMust$Rounds", "hasToGo", "(LMayMust$Plan;LMayMust$Plan;II)Z"⟩, prog_6_method_9_code, 7, (some .boolean), t_Rounds_hasToGo)
abbrev n_Rounds_hasToGo : Nat := 50
def t_Rounds_sideOf : List xa_I := [
  (65535, .nop, 0, [675, 68], 0),
  (0, .aload_n 0, 1, [0], 0),
  (1, .getfield 12, 3, [4, 0, 0, 0, 0, 199], 0),
  (4, .aload_n 1, 1, [1], 0),
  (5, .iload_n 3, 1, [3], 0),
  (6, .iload 5, 2, [5], 0),
  (8, .invokevirtual 71, 3, [0, 21, 2, 2, 0, 676, 630, 631], 0),
  (11, .aload_n 2, 1, [2], 0),
  (12, .iload 4, 2, [4], 0),
  (14, .iload 5, 2, [5], 0),
  (16, .invokevirtual 71, 3, [0, 21, 2, 2, 0, 676, 630, 631], 0),
  (19, .invokevirtual 74, 3, [0, 12, 2, 1, 0, 677, 678, 679], 0),
  (22, .ifCond .eq 5, 3, [27], 0),
  (25, .iconst 1, 1, [], 1),
  (26, .ireturn, 1, [0], 0),
  (27, .aload_n 0, 1, [0], 0),
  (28, .getfield 12, 3, [4, 0, 0, 0, 0, 199], 0),
  (31, .aload_n 2, 1, [2], 0),
  (32, .iload 4, 2, [4], 0),
  (34, .iload 5, 2, [5], 0),
  (36, .invokevirtual 77, 3, [0, 22, 2, 2, 0, 684, 623, 624], 0),
  (39, .aload_n 1, 1, [1], 0),
  (40, .iload_n 3, 1, [3], 0),
  (41, .iload 5, 2, [5], 0),
  (43, .invokevirtual 77, 3, [0, 22, 2, 2, 0, 684, 623, 624], 0),
  (46, .invokevirtual 80, 3, [0, 13, 2, 1, 0, 685, 686, 687], 0),
  (49, .ifCond .eq 7, 3, [56], 0),
  (52, .iconst 2, 1, [], 2),
  (53, .goto 4, 3, [57], 0),
  (56, .iconst 0, 1, [], 0),
  (57, .ireturn, 1, [0], 0)]
def m_Rounds_sideOf : xa_M := (⟨"MayMust$Rounds", "sideOf", "(LMayMust$Plan;LMayMust$Plan;III)I"⟩, prog_6_method_10_code, 6, (some .int), t_Rounds_sideOf)
abbrev n_Rounds_sideOf : Nat := 51
def t_Saying_init : List xa_I := [
  (65535, .nop, 0, [158, 67], 0),
  (0, .aload_n 0, 1, [0], 0),
  (1, .invokespecial 3, 3, [9, 0, 0, 0, 0, 159, 89, 90], 0),
  (4, .aload_n 0, 1, [0], 0),
  (5, .sipush 300, 3, [], 300),
  (8, .newarray .int, 2, [0, 0, 0, 0, 0, 108], 0),
  (10, .putfield 9, 3, [5, 0, 1, 0, 0, 164], 0),
  (13, .aload_n 0, 1, [0], 0),
  (14, .iconst 0, 1, [], 0),
  (15, .putfield 15, 3, [5, 1, 0, 0, 0, 165], 0),
  (18, .aload_n 0, 1, [0], 0),
  (19, .iconst 0, 1, [], 0),
  (20, .putfield 19, 3, [5, 2, 0, 0, 0, 166], 0),
  (23, .aload_n 0, 1, [0], 0),
  (24, .bipush 24, 2, [], 24),
  (26, .newarray .int, 2, [0, 0, 0, 0, 0, 108], 0),
  (28, .putfield 22, 3, [5, 3, 1, 0, 0, 167], 0),
  (31, .aload_n 0, 1, [0], 0),
  (32, .iconst 0, 1, [], 0),
  (33, .putfield 25, 3, [5, 4, 0, 0, 0, 168], 0),
  (36, .aload_n 0, 1, [0], 0),
  (37, .iconst 1, 1, [], 1),
  (38, .invokevirtual 28, 3, [0, 56, 1, 5, 0, 160, 161, 162], 0),
  (41, .return_, 1, [], 0)]
def m_Saying_init : xa_M := (⟨"MayMust$Saying", "<init>", "()V"⟩, prog_7_method_1_code, 1, none, t_Saying_init)
abbrev n_Saying_init : Nat := 52
def t_Saying_bits : List xa_I := [
  (65535, .nop, 0, [566, 67], 0),
  (0, .aload_n 0, 1, [0], 0),
  (1, .getfield 19, 3, [5, 2, 0, 0, 0, 166], 0),
  (4, .ireturn, 1, [0], 0)]
def m_Saying_bits : xa_M := (⟨"MayMust$Saying", "bits", "()I"⟩, prog_7_method_2_code, 1, (some .int), t_Saying_bits)
abbrev n_Saying_bits : Nat := 53
def t_Saying_reset : List xa_I := [
  (65535, .nop, 0, [546, 67], 0),
  (0, .aload_n 0, 1, [0], 0),
  (1, .iconst 0, 1, [], 0),
  (2, .putfield 15, 3, [5, 1, 0, 0, 0, 165], 0),
  (5, .aload_n 0, 1, [0], 0),
  (6, .iconst 0, 1, [], 0),
  (7, .putfield 19, 3, [5, 2, 0, 0, 0, 166], 0),
  (10, .return_, 1, [], 0)]
def m_Saying_reset : xa_M := (⟨"MayMust$Saying", "reset", "()V"⟩, prog_7_method_3_code, 1, none, t_Saying_reset)
abbrev n_Saying_reset : Nat := 54
def t_Saying_become : List xa_I := [
  (65535, .nop, 0, [579, 67], 0),
  (0, .aload_n 0, 1, [0], 0),
  (1, .aload_n 1, 1, [1], 0),
  (2, .getfield 15, 3, [5, 1, 0, 0, 0, 165], 0),
  (5, .putfield 15, 3, [5, 1, 0, 0, 0, 165], 0),
  (8, .aload_n 0, 1, [0], 0),
  (9, .aload_n 1, 1, [1], 0),
  (10, .getfield 19, 3, [5, 2, 0, 0, 0, 166], 0),
  (13, .putfield 19, 3, [5, 2, 0, 0, 0, 166], 0),
  (16, .aload_n 1, 1, [1], 0),
  (17, .getfield 9, 3, [5, 0, 0, 0, 0, 164], 0),
  (20, .iconst 0, 1, [], 0),
  (21, .aload_n 0, 1, [0], 0),
  (22, .getfield 9, 3, [5, 0, 0, 0, 0, 164], 0),
  (25, .iconst 0, 1, [], 0),
  (26, .aload_n 0, 1, [0], 0),
  (27, .getfield 9, 3, [5, 0, 0, 0, 0, 164], 0),
  (30, .arraylength, 1, [], 0),
  (31, .invokestatic 32, 3, [2, 0, 0, 0, 0, 580, 533, 532, 81], 0),
  (34, .return_, 1, [], 0)]
def m_Saying_become : xa_M := (⟨"MayMust$Saying", "become", "(LMayMust$Saying;)V"⟩, prog_7_method_4_code, 2, none, t_Saying_become)
abbrev n_Saying_become : Nat := 55
def t_Saying_add : List xa_I := [
  (65535, .nop, 0, [163, 67], 0),
  (0, .aload_n 0, 1, [0], 0),
  (1, .getfield 15, 3, [5, 1, 0, 0, 0, 165], 0),
  (4, .sipush 300, 3, [], 300),
  (7, .if_icmp .ge 46, 3, [53], 0),
  (10, .aload_n 0, 1, [0], 0),
  (11, .getfield 9, 3, [5, 0, 0, 0, 0, 164], 0),
  (14, .aload_n 0, 1, [0], 0),
  (15, .getfield 15, 3, [5, 1, 0, 0, 0, 165], 0),
  (18, .iload_n 1, 1, [1], 0),
  (19, .iastore, 1, [], 0),
  (20, .aload_n 0, 1, [0], 0),
  (21, .dup, 1, [], 0),
  (22, .getfield 15, 3, [5, 1, 0, 0, 0, 165], 0),
  (25, .iconst 1, 1, [], 1),
  (26, .iadd, 1, [], 0),
  (27, .putfield 15, 3, [5, 1, 0, 0, 0, 165], 0),
  (30, .aload_n 0, 1, [0], 0),
  (31, .dup, 1, [], 0),
  (32, .getfield 19, 3, [5, 2, 0, 0, 0, 166], 0),
  (35, .iload_n 1, 1, [1], 0),
  (36, .ifCond .eq 8, 3, [44], 0),
  (39, .iload_n 1, 1, [1], 0),
  (40, .iconst 1, 1, [], 1),
  (41, .if_icmp .ne 7, 3, [48], 0),
  (44, .iconst 1, 1, [], 1),
  (45, .goto 4, 3, [49], 0),
  (48, .iconst 0, 1, [], 0),
  (49, .iadd, 1, [], 0),
  (50, .putfield 19, 3, [5, 2, 0, 0, 0, 166], 0),
  (53, .return_, 1, [], 0)]
def m_Saying_add : xa_M := (⟨"MayMust$Saying", "add", "(I)V"⟩, prog_7_method_5_code, 2, none, t_Saying_add)
abbrev n_Saying_add : Nat := 56
def t_Saying_valueOf : List xa_I := [
  (65535, .nop, 0, [846, 67], 0),
  (0, .iload_n 0, 1, [0], 0),
  (1, .invokestatic 38, 3, [0, 64, 1, 0, 0, 825, 826], 0),
  (4, .iload_n 1, 1, [1], 0),
  (5, .invokestatic 42, 3, [1, 127, 2, 0, 0, 627, 0, 0, 0, 847], 0),
  (8, .ifCond .eq 5, 3, [13], 0),
  (11, .iconst 2, 1, [], 2),
  (12, .ireturn, 1, [0], 0),
  (13, .iload_n 0, 1, [0], 0),
  (14, .invokestatic 46, 3, [0, 63, 1, 0, 0, 828, 829], 0),
  (17, .iload_n 1, 1, [1], 0),
  (18, .invokestatic 42, 3, [1, 127, 2, 0, 0, 627, 0, 0, 0, 847], 0),
  (21, .ifCond .eq 7, 3, [28], 0),
  (24, .iconst 1, 1, [], 1),
  (25, .goto 4, 3, [29], 0),
  (28, .iconst 0, 1, [], 0),
  (29, .ireturn, 1, [0], 0)]
def m_Saying_valueOf : xa_M := (⟨"MayMust$Saying", "valueOf", "(II)I"⟩, prog_7_method_6_code, 2, (some .int), t_Saying_valueOf)
abbrev n_Saying_valueOf : Nat := 57
def t_Saying_valuesIn : List xa_I := [
  (65535, .nop, 0, [813, 67], 0),
  (0, .aload_n 0, 1, [0], 0),
  (1, .iconst 0, 1, [], 0),
  (2, .putfield 25, 3, [5, 4, 0, 0, 0, 168], 0),
  (5, .iconst 0, 1, [], 0),
  (6, .istore_n 2, 1, [2], 0),
  (7, .iload_n 2, 1, [2], 0),
  (8, .aload_n 0, 1, [0], 0),
  (9, .getfield 15, 3, [5, 1, 0, 0, 0, 165], 0),
  (12, .if_icmp .ge 24, 3, [36], 0),
  (15, .aload_n 0, 1, [0], 0),
  (16, .aload_n 0, 1, [0], 0),
  (17, .aload_n 0, 1, [0], 0),
  (18, .getfield 9, 3, [5, 0, 0, 0, 0, 164], 0),
  (21, .iload_n 2, 1, [2], 0),
  (22, .iaload, 1, [], 0),
  (23, .aload_n 1, 1, [1], 0),
  (24, .invokevirtual 49, 3, [0, 59, 2, 5, 0, 814, 816, 27], 0),
  (27, .invokevirtual 53, 3, [0, 65, 1, 5, 0, 840, 842, 29], 0),
  (30, .iinc 2 1, 3, [2], 1),
  (33, .goto (-26), 3, [7], 0),
  (36, .aload_n 0, 1, [0], 0),
  (37, .invokevirtual 56, 3, [0, 66, 0, 5, 0, 821, 823, 28], 0),
  (40, .ireturn, 1, [0], 0)]
def m_Saying_valuesIn : xa_M := (⟨"MayMust$Saying", "valuesIn", "(LMayMust$Plan;)I"⟩, prog_7_method_7_code, 3, (some .int), t_Saying_valuesIn)
abbrev n_Saying_valuesIn : Nat := 58
def t_Saying_valuesOf : List xa_I := [
  (65535, .nop, 0, [817, 67], 0),
  (0, .iload_n 1, 1, [1], 0),
  (1, .ifCond .ne 9, 3, [10], 0),
  (4, .iconst 0, 1, [], 0),
  (5, .iconst 0, 1, [], 0),
  (6, .invokestatic 60, 3, [0, 62, 2, 0, 0, 818, 819], 0),
  (9, .ireturn, 1, [0], 0),
  (10, .iload_n 1, 1, [1], 0),
  (11, .iconst 1, 1, [], 1),
  (12, .if_icmp .ne 11, 3, [23], 0),
  (15, .bipush 63, 2, [], 63),
  (17, .bipush 63, 2, [], 63),
  (19, .invokestatic 60, 3, [0, 62, 2, 0, 0, 818, 819], 0),
  (22, .ireturn, 1, [0], 0),
  (23, .aload_n 0, 1, [0], 0),
  (24, .invokevirtual 56, 3, [0, 66, 0, 5, 0, 821, 823, 28], 0),
  (27, .istore_n 3, 1, [3], 0),
  (28, .iload_n 1, 1, [1], 0),
  (29, .iconst 2, 1, [], 2),
  (30, .if_icmp .ne 19, 3, [49], 0),
  (33, .iload_n 3, 1, [3], 0),
  (34, .invokestatic 38, 3, [0, 64, 1, 0, 0, 825, 826], 0),
  (37, .iconst (-1), 1, [], (-1)),
  (38, .ixor, 1, [], 0),
  (39, .iload_n 3, 1, [3], 0),
  (40, .invokestatic 46, 3, [0, 63, 1, 0, 0, 828, 829], 0),
  (43, .iconst (-1), 1, [], (-1)),
  (44, .ixor, 1, [], 0),
  (45, .invokestatic 60, 3, [0, 62, 2, 0, 0, 818, 819], 0),
  (48, .ireturn, 1, [0], 0),
  (49, .iload_n 1, 1, [1], 0),
  (50, .iconst 3, 1, [], 3),
  (51, .if_icmp .ne 10, 3, [61], 0),
  (54, .aload_n 0, 1, [0], 0),
  (55, .invokevirtual 56, 3, [0, 66, 0, 5, 0, 821, 823, 28], 0),
  (58, .iload_n 3, 1, [3], 0),
  (59, .iand, 1, [], 0),
  (60, .ireturn, 1, [0], 0),
  (61, .iload_n 1, 1, [1], 0),
  (62, .iconst 4, 1, [], 4),
  (63, .if_icmp .ne 10, 3, [73], 0),
  (66, .aload_n 0, 1, [0], 0),
  (67, .invokevirtual 56, 3, [0, 66, 0, 5, 0, 821, 823, 28], 0),
  (70, .iload_n 3, 1, [3], 0),
  (71, .ior, 1, [], 0),
  (72, .ireturn, 1, [0], 0),
  (73, .iload_n 1, 1, [1], 0),
  (74, .bipush 8, 2, [], 8),
  (76, .if_icmp .ge 14, 3, [90], 0),
  (79, .iload_n 1, 1, [1], 0),
  (80, .iconst 5, 1, [], 5),
  (81, .isub, 1, [], 0),
  (82, .iload_n 3, 1, [3], 0),
  (83, .aload_n 2, 1, [2], 0),
  (84, .invokestatic 64, 3, [0, 60, 3, 0, 0, 831, 832], 0),
  (87, .goto 12, 3, [99], 0),
  (90, .iload_n 1, 1, [1], 0),
  (91, .bipush 8, 2, [], 8),
  (93, .isub, 1, [], 0),
  (94, .iload_n 3, 1, [3], 0),
  (95, .aload_n 2, 1, [2], 0),
  (96, .invokestatic 68, 3, [0, 61, 3, 0, 0, 837, 838], 0),
  (99, .ireturn, 1, [0], 0)]
def m_Saying_valuesOf : xa_M := (⟨"MayMust$Saying", "valuesOf", "(ILMayMust$Plan;)I"⟩, prog_7_method_8_code, 4, (some .int), t_Saying_valuesOf)
abbrev n_Saying_valuesOf : Nat := 59
def t_Saying_overSome : List xa_I := [
  (65535, .nop, 0, [833, 67], 0),
  (0, .iconst 0, 1, [], 0),
  (1, .istore_n 3, 1, [3], 0),
  (2, .iconst 0, 1, [], 0),
  (3, .istore 4, 2, [4], 0),
  (5, .iconst 0, 1, [], 0),
  (6, .istore 5, 2, [5], 0),
  (8, .iload 5, 2, [5], 0),
  (10, .aload_n 2, 1, [2], 0),
  (11, .invokevirtual 71, 3, [0, 17, 0, 2, 0, 834, 517, 518], 0),
  (14, .if_icmp .ge 55, 3, [69], 0),
  (17, .aload_n 2, 1, [2], 0),
  (18, .iload 5, 2, [5], 0),
  (20, .iload_n 0, 1, [0], 0),
  (21, .invokevirtual 75, 3, [0, 21, 2, 2, 0, 835, 630, 631], 0),
  (24, .iload_n 1, 1, [1], 0),
  (25, .invokestatic 46, 3, [0, 63, 1, 0, 0, 828, 829], 0),
  (28, .iand, 1, [], 0),
  (29, .ifCond .eq 10, 3, [39], 0),
  (32, .iload_n 3, 1, [3], 0),
  (33, .iconst 1, 1, [], 1),
  (34, .iload 5, 2, [5], 0),
  (36, .ishl, 1, [], 0),
  (37, .ior, 1, [], 0),
  (38, .istore_n 3, 1, [3], 0),
  (39, .aload_n 2, 1, [2], 0),
  (40, .iload 5, 2, [5], 0),
  (42, .iload_n 0, 1, [0], 0),
  (43, .invokevirtual 78, 3, [0, 22, 2, 2, 0, 836, 623, 624], 0),
  (46, .iload_n 1, 1, [1], 0),
  (47, .invokestatic 38, 3, [0, 64, 1, 0, 0, 825, 826], 0),
  (50, .iand, 1, [], 0),
  (51, .ifCond .eq 12, 3, [63], 0),
  (54, .iload 4, 2, [4], 0),
  (56, .iconst 1, 1, [], 1),
  (57, .iload 5, 2, [5], 0),
  (59, .ishl, 1, [], 0),
  (60, .ior, 1, [], 0),
  (61, .istore 4, 2, [4], 0),
  (63, .iinc 5 1, 3, [5], 1),
  (66, .goto (-58), 3, [8], 0),
  (69, .iload_n 3, 1, [3], 0),
  (70, .iload 4, 2, [4], 0),
  (72, .invokestatic 60, 3, [0, 62, 2, 0, 0, 818, 819], 0),
  (75, .ireturn, 1, [0], 0)]
def m_Saying_overSome : xa_M := (⟨"MayMust$Saying", "overSome", "(IILMayMust$Plan;)I"⟩, prog_7_method_9_code, 6, (some .int), t_Saying_overSome)
abbrev n_Saying_overSome : Nat := 60
def t_Saying_overEach : List xa_I := [
  (65535, .nop, 0, [839, 67], 0),
  (0, .iconst 0, 1, [], 0),
  (1, .istore_n 3, 1, [3], 0),
  (2, .iconst 0, 1, [], 0),
  (3, .istore 4, 2, [4], 0),
  (5, .iconst 0, 1, [], 0),
  (6, .istore 5, 2, [5], 0),
  (8, .iload 5, 2, [5], 0),
  (10, .aload_n 2, 1, [2], 0),
  (11, .invokevirtual 71, 3, [0, 17, 0, 2, 0, 834, 517, 518], 0),
  (14, .if_icmp .ge 59, 3, [73], 0),
  (17, .aload_n 2, 1, [2], 0),
  (18, .iload 5, 2, [5], 0),
  (20, .iload_n 0, 1, [0], 0),
  (21, .invokevirtual 78, 3, [0, 22, 2, 2, 0, 836, 623, 624], 0),
  (24, .iload_n 1, 1, [1], 0),
  (25, .invokestatic 46, 3, [0, 63, 1, 0, 0, 828, 829], 0),
  (28, .iconst (-1), 1, [], (-1)),
  (29, .ixor, 1, [], 0),
  (30, .iand, 1, [], 0),
  (31, .ifCond .ne 10, 3, [41], 0),
  (34, .iload_n 3, 1, [3], 0),
  (35, .iconst 1, 1, [], 1),
  (36, .iload 5, 2, [5], 0),
  (38, .ishl, 1, [], 0),
  (39, .ior, 1, [], 0),
  (40, .istore_n 3, 1, [3], 0),
  (41, .aload_n 2, 1, [2], 0),
  (42, .iload 5, 2, [5], 0),
  (44, .iload_n 0, 1, [0], 0),
  (45, .invokevirtual 75, 3, [0, 21, 2, 2, 0, 835, 630, 631], 0),
  (48, .iload_n 1, 1, [1], 0),
  (49, .invokestatic 38, 3, [0, 64, 1, 0, 0, 825, 826], 0),
  (52, .iconst (-1), 1, [], (-1)),
  (53, .ixor, 1, [], 0),
  (54, .iand, 1, [], 0),
  (55, .ifCond .ne 12, 3, [67], 0),
  (58, .iload 4, 2, [4], 0),
  (60, .iconst 1, 1, [], 1),
  (61, .iload 5, 2, [5], 0),
  (63, .ishl, 1, [], 0),
  (64, .ior, 1, [], 0),
  (65, .istore 4, 2, [4], 0),
  (67, .iinc 5 1, 3, [5], 1),
  (70, .goto (-62), 3, [8], 0),
  (73, .iload_n 3, 1, [3], 0),
  (74, .iload 4, 2, [4], 0),
  (76, .invokestatic 60, 3, [0, 62, 2, 0, 0, 818, 819], 0),
  (79, .ireturn, 1, [0], 0)]
def m_Saying_overEach : xa_M := (⟨"MayMust$Saying", "overEach", "(IILMayMust$Plan;)I"⟩, prog_7_method_10_code, 6, (some .int), t_Saying_overEach)
abbrev n_Saying_overEach : Nat := 61
def t_Saying_valuesFrom : List xa_I := [
  (65535, .nop, 0, [820, 67], 0),
  (0, .iload_n 0, 1, [0], 0),
  (1, .bipush 63, 2, [], 63),
  (3, .iand, 1, [], 0),
  (4, .iload_n 1, 1, [1], 0),
  (5, .bipush 63, 2, [], 63),
  (7, .iand, 1, [], 0),
  (8, .bipush 6, 2, [], 6),
  (10, .ishl, 1, [], 0),
  (11, .ior, 1, [], 0),
  (12, .ireturn, 1, [0], 0)]
def m_Saying_valuesFrom : xa_M := (⟨"MayMust$Saying", "valuesFrom", "(II)I"⟩, prog_7_method_11_code, 2, (some .int), t_Saying_valuesFrom)
abbrev n_Saying_valuesFrom : Nat := 62
def t_Saying_someOf : List xa_I := [
  (65535, .nop, 0, [830, 67], 0),
  (0, .iload_n 0, 1, [0], 0),
  (1, .bipush 63, 2, [], 63),
  (3, .iand, 1, [], 0),
  (4, .ireturn, 1, [0], 0)]
def m_Saying_someOf : xa_M := (⟨"MayMust$Saying", "someOf", "(I)I"⟩, prog_7_method_12_code, 1, (some .int), t_Saying_someOf)
abbrev n_Saying_someOf : Nat := 63
def t_Saying_soOf : List xa_I := [
  (65535, .nop, 0, [827, 67], 0),
  (0, .iload_n 0, 1, [0], 0),
  (1, .bipush 6, 2, [], 6),
  (3, .ishr, 1, [], 0),
  (4, .bipush 63, 2, [], 63),
  (6, .iand, 1, [], 0),
  (7, .ireturn, 1, [0], 0)]
def m_Saying_soOf : xa_M := (⟨"MayMust$Saying", "soOf", "(I)I"⟩, prog_7_method_13_code, 1, (some .int), t_Saying_soOf)
abbrev n_Saying_soOf : Nat := 64
def t_Saying_push : List xa_I := [
  (65535, .nop, 0, [843, 67], 0),
  (0, .aload_n 0, 1, [0], 0),
  (1, .getfield 25, 3, [5, 4, 0, 0, 0, 168], 0),
  (4, .bipush 24, 2, [], 24),
  (6, .if_icmp .ge 23, 3, [29], 0),
  (9, .aload_n 0, 1, [0], 0),
  (10, .getfield 22, 3, [5, 3, 0, 0, 0, 167], 0),
  (13, .aload_n 0, 1, [0], 0),
  (14, .getfield 25, 3, [5, 4, 0, 0, 0, 168], 0),
  (17, .iload_n 1, 1, [1], 0),
  (18, .iastore, 1, [], 0),
  (19, .aload_n 0, 1, [0], 0),
  (20, .dup, 1, [], 0),
  (21, .getfield 25, 3, [5, 4, 0, 0, 0, 168], 0),
  (24, .iconst 1, 1, [], 1),
  (25, .iadd, 1, [], 0),
  (26, .putfield 25, 3, [5, 4, 0, 0, 0, 168], 0),
  (29, .return_, 1, [], 0)]
def m_Saying_push : xa_M := (⟨"MayMust$Saying", "push", "(I)V"⟩, prog_7_method_14_code, 2, none, t_Saying_push)
abbrev n_Saying_push : Nat := 65
def t_Saying_pop : List xa_I := [
  (65535, .nop, 0, [824, 67], 0),
  (0, .aload_n 0, 1, [0], 0),
  (1, .getfield 25, 3, [5, 4, 0, 0, 0, 168], 0),
  (4, .ifCond .gt 5, 3, [9], 0),
  (7, .iconst 0, 1, [], 0),
  (8, .ireturn, 1, [0], 0),
  (9, .aload_n 0, 1, [0], 0),
  (10, .dup, 1, [], 0),
  (11, .getfield 25, 3, [5, 4, 0, 0, 0, 168], 0),
  (14, .iconst 1, 1, [], 1),
  (15, .isub, 1, [], 0),
  (16, .putfield 25, 3, [5, 4, 0, 0, 0, 168], 0),
  (19, .aload_n 0, 1, [0], 0),
  (20, .getfield 22, 3, [5, 3, 0, 0, 0, 167], 0),
  (23, .aload_n 0, 1, [0], 0),
  (24, .getfield 25, 3, [5, 4, 0, 0, 0, 168], 0),
  (27, .iaload, 1, [], 0),
  (28, .ireturn, 1, [0], 0)]
def m_Saying_pop : xa_M := (⟨"MayMust$Saying", "pop", "()I"⟩, prog_7_method_15_code, 1, (some .int), t_Saying_pop)
abbrev n_Saying_pop : Nat := 66
def t_Shrinker_init : List xa_I := [
  (65535, .nop, 0, [216, 70], 0),
  (0, .aload_n 0, 1, [0], 0),
  (1, .invokespecial 3, 3, [9, 0, 0, 0, 0, 217, 89, 90], 0),
  (4, .aload_n 0, 1, [0], 0),
  (5, .bipush 6, 2, [], 6),
  (7, .newarray .int, 2, [0, 0, 0, 0, 0, 108], 0),
  (9, .putfield 9, 3, [6, 0, 1, 0, 0, 218], 0),
  (12, .return_, 1, [], 0)]
def m_Shrinker_init : xa_M := (⟨"MayMust$Shrinker", "<init>", "()V"⟩, prog_8_method_1_code, 1, none, t_Shrinker_init)
abbrev n_Shrinker_init : Nat := 67
def t_Shrinker_shrink : List xa_I := [
  (65535, .nop, 0, [724, 70], 0),
  (0, .aload_n 0, 1, [0], 0),
  (1, .aload_n 1, 1, [1], 0),
  (2, .aload_n 2, 1, [2], 0),
  (3, .invokevirtual 15, 3, [0, 69, 2, 6, 0, 725, 727, 18], 0),
  (6, .aload_n 0, 1, [0], 0),
  (7, .aload_n 1, 1, [1], 0),
  (8, .invokevirtual 19, 3, [0, 70, 1, 6, 0, 735, 737, 19], 0),
  (11, .istore 4, 2, [4], 0),
  (13, .aload_n 3, 1, [3], 0),
  (14, .iload 4, 2, [4], 0),
  (16, .invokestatic 23, 3, [0, 179, 1, 0, 0, 745, 594], 0),
  (19, .invokevirtual 29, 3, [0, 18, 1, 2, 0, 746, 495, 496], 0),
  (22, .iconst 0, 1, [], 0),
  (23, .istore 5, 2, [5], 0),
  (25, .iload 5, 2, [5], 0),
  (27, .aload_n 1, 1, [1], 0),
  (28, .invokevirtual 35, 3, [0, 17, 0, 2, 0, 729, 517, 518], 0),
  (31, .if_icmp .ge 29, 3, [60], 0),
  (34, .iload 4, 2, [4], 0),
  (36, .iload 5, 2, [5], 0),
  (38, .invokestatic 39, 3, [1, 127, 2, 0, 0, 627, 0, 0, 0, 739], 0),
  (41, .ifCond .eq 13, 3, [54], 0),
  (44, .aload_n 0, 1, [0], 0),
  (45, .aload_n 1, 1, [1], 0),
  (46, .iload 5, 2, [5], 0),
  (48, .iload 4, 2, [4], 0),
  (50, .aload_n 3, 1, [3], 0),
  (51, .invokevirtual 43, 3, [0, 72, 4, 6, 0, 747, 749, 21], 0),
  (54, .iinc 5 1, 3, [5], 1),
  (57, .goto (-32), 3, [25], 0),
  (60, .return_, 1, [], 0)]
def m_Shrinker_shrink : xa_M := (⟨"MayMust$Shrinker", "shrink", "(LMayMust$Plan;LMayMust$Rounds;LMayMust$Plan;)V"⟩, prog_8_method_2_code, 6, none, t_Shrinker_shrink)
abbrev n_Shrinker_shrink : Nat := 68
def t_Shrinker_findLeast : List xa_I := [
  (65535, .nop, 0, [728, 70], 0),
  (0, .iconst 0, 1, [], 0),
  (1, .istore_n 3, 1, [3], 0),
  (2, .iload_n 3, 1, [3], 0),
  (3, .bipush 6, 2, [], 6),
  (5, .if_icmp .ge 58, 3, [63], 0),
  (8, .aload_n 0, 1, [0], 0),
  (9, .getfield 9, 3, [6, 0, 0, 0, 0, 218], 0),
  (12, .iload_n 3, 1, [3], 0),
  (13, .iload_n 3, 1, [3], 0),
  (14, .iastore, 1, [], 0),
  (15, .iload_n 3, 1, [3], 0),
  (16, .iconst 1, 1, [], 1),
  (17, .isub, 1, [], 0),
  (18, .istore 4, 2, [4], 0),
  (20, .iload 4, 2, [4], 0),
  (22, .ifCond .lt 35, 3, [57], 0),
  (25, .iload_n 3, 1, [3], 0),
  (26, .aload_n 1, 1, [1], 0),
  (27, .invokevirtual 35, 3, [0, 17, 0, 2, 0, 729, 517, 518], 0),
  (30, .if_icmp .ge 21, 3, [51], 0),
  (33, .aload_n 2, 1, [2], 0),
  (34, .iload_n 3, 1, [3], 0),
  (35, .iload 4, 2, [4], 0),
  (37, .invokevirtual 47, 3, [0, 45, 2, 4, 0, 730, 731, 732], 0),
  (40, .ifCond .eq 11, 3, [51], 0),
  (43, .aload_n 0, 1, [0], 0),
  (44, .getfield 9, 3, [6, 0, 0, 0, 0, 218], 0),
  (47, .iload_n 3, 1, [3], 0),
  (48, .iload 4, 2, [4], 0),
  (50, .iastore, 1, [], 0),
  (51, .iinc 4 (-1), 3, [4], (-1)),
  (54, .goto (-34), 3, [20], 0),
  (57, .iinc 3 1, 3, [3], 1),
  (60, .goto (-58), 3, [2], 0),
  (63, .return_, 1, [], 0)]
def m_Shrinker_findLeast : xa_M := (⟨"MayMust$Shrinker", "findLeast", "(LMayMust$Plan;LMayMust$Rounds;)V"⟩, prog_8_method_3_code, 5, none, t_Shrinker_findLeast)
abbrev n_Shrinker_findLeast : Nat := 69
def t_Shrinker_reachedIn : List xa_I := [
  (65535, .nop, 0, [738, 70], 0),
  (0, .iconst 1, 1, [], 1),
  (1, .istore_n 2, 1, [2], 0),
  (2, .iconst 0, 1, [], 0),
  (3, .istore_n 3, 1, [3], 0),
  (4, .iload_n 3, 1, [3], 0),
  (5, .bipush 6, 2, [], 6),
  (7, .if_icmp .ge 46, 3, [53], 0),
  (10, .iconst 0, 1, [], 0),
  (11, .istore 4, 2, [4], 0),
  (13, .iload 4, 2, [4], 0),
  (15, .aload_n 1, 1, [1], 0),
  (16, .invokevirtual 35, 3, [0, 17, 0, 2, 0, 729, 517, 518], 0),
  (19, .if_icmp .ge 28, 3, [47], 0),
  (22, .iload_n 2, 1, [2], 0),
  (23, .iload 4, 2, [4], 0),
  (25, .invokestatic 39, 3, [1, 127, 2, 0, 0, 627, 0, 0, 0, 739], 0),
  (28, .ifCond .eq 13, 3, [41], 0),
  (31, .iload_n 2, 1, [2], 0),
  (32, .aload_n 0, 1, [0], 0),
  (33, .aload_n 1, 1, [1], 0),
  (34, .iload 4, 2, [4], 0),
  (36, .invokevirtual 52, 3, [0, 71, 2, 6, 0, 740, 742, 20], 0),
  (39, .ior, 1, [], 0),
  (40, .istore_n 2, 1, [2], 0),
  (41, .iinc 4 1, 3, [4], 1),
  (44, .goto (-31), 3, [13], 0),
  (47, .iinc 3 1, 3, [3], 1),
  (50, .goto (-46), 3, [4], 0),
  (53, .iload_n 2, 1, [2], 0),
  (54, .ireturn, 1, [0], 0)]
def m_Shrinker_reachedIn : xa_M := (⟨"MayMust$Shrinker", "reachedIn", "(LMayMust$Plan;)I"⟩, prog_8_method_4_code, 5, (some .int), t_Shrinker_reachedIn)
abbrev n_Shrinker_reachedIn : Nat := 70
def t_Shrinker_nextOf : List xa_I := [
  (65535, .nop, 0, [743, 70], 0),
  (0, .iconst 0, 1, [], 0),
  (1, .istore_n 3, 1, [3], 0),
  (2, .iconst 0, 1, [], 0),
  (3, .istore 4, 2, [4], 0),
  (5, .iload 4, 2, [4], 0),
  (7, .iconst 3, 1, [], 3),
  (8, .if_icmp .ge 56, 3, [64], 0),
  (11, .aload_n 1, 1, [1], 0),
  (12, .iload_n 2, 1, [2], 0),
  (13, .iload 4, 2, [4], 0),
  (15, .invokevirtual 56, 3, [0, 21, 2, 2, 0, 744, 630, 631], 0),
  (18, .istore 5, 2, [5], 0),
  (20, .iconst 0, 1, [], 0),
  (21, .istore 6, 2, [6], 0),
  (23, .iload 6, 2, [6], 0),
  (25, .bipush 6, 2, [], 6),
  (27, .if_icmp .ge 31, 3, [58], 0),
  (30, .iload 5, 2, [5], 0),
  (32, .iload 6, 2, [6], 0),
  (34, .invokestatic 39, 3, [1, 127, 2, 0, 0, 627, 0, 0, 0, 739], 0),
  (37, .ifCond .eq 15, 3, [52], 0),
  (40, .iload_n 3, 1, [3], 0),
  (41, .iconst 1, 1, [], 1),
  (42, .aload_n 0, 1, [0], 0),
  (43, .getfield 9, 3, [6, 0, 0, 0, 0, 218], 0),
  (46, .iload 6, 2, [6], 0),
  (48, .iaload, 1, [], 0),
  (49, .ishl, 1, [], 0),
  (50, .ior, 1, [], 0),
  (51, .istore_n 3, 1, [3], 0),
  (52, .iinc 6 1, 3, [6], 1),
  (55, .goto (-32), 3, [23], 0),
  (58, .iinc 4 1, 3, [4], 1),
  (61, .goto (-56), 3, [5], 0),
  (64, .iload_n 3, 1, [3], 0),
  (65, .ireturn, 1, [0], 0)]
def m_Shrinker_nextOf : xa_M := (⟨"MayMust$Shrinker", "nextOf", "(LMayMust$Plan;I)I"⟩, prog_8_method_5_code, 7, (some .int), t_Shrinker_nextOf)
abbrev n_Shrinker_nextOf : Nat := 71
def t_Shrinker_carryArrows : List xa_I := [
  (65535, .nop, 0, [750, 70], 0),
  (0, .iconst 0, 1, [], 0),
  (1, .istore 5, 2, [5], 0),
  (3, .iload 5, 2, [5], 0),
  (5, .iconst 3, 1, [], 3),
  (6, .if_icmp .ge 57, 3, [63], 0),
  (9, .iconst 0, 1, [], 0),
  (10, .istore 6, 2, [6], 0),
  (12, .iload 6, 2, [6], 0),
  (14, .bipush 6, 2, [], 6),
  (16, .if_icmp .ge 41, 3, [57], 0),
  (19, .aload 4, 2, [4], 0),
  (21, .iload_n 3, 1, [3], 0),
  (22, .iload_n 2, 1, [2], 0),
  (23, .invokestatic 60, 3, [0, 73, 2, 0, 0, 751, 752], 0),
  (26, .iload 5, 2, [5], 0),
  (28, .iload_n 3, 1, [3], 0),
  (29, .aload_n 0, 1, [0], 0),
  (30, .getfield 9, 3, [6, 0, 0, 0, 0, 218], 0),
  (33, .iload 6, 2, [6], 0),
  (35, .iaload, 1, [], 0),
  (36, .invokestatic 60, 3, [0, 73, 2, 0, 0, 751, 752], 0),
  (39, .aload_n 1, 1, [1], 0),
  (40, .iload_n 2, 1, [2], 0),
  (41, .iload 5, 2, [5], 0),
  (43, .iload 6, 2, [6], 0),
  (45, .invokevirtual 63, 3, [0, 23, 3, 2, 0, 754, 619, 620], 0),
  (48, .invokevirtual 67, 3, [0, 25, 4, 2, 0, 755, 521, 522], 0),
  (51, .iinc 6 1, 3, [6], 1),
  (54, .goto (-42), 3, [12], 0),
  (57, .iinc 5 1, 3, [5], 1),
  (60, .goto (-57), 3, [3], 0),
  (63, .return_, 1, [], 0)]
def m_Shrinker_carryArrows : xa_M := (⟨"MayMust$Shrinker", "carryArrows", "(LMayMust$Plan;IILMayMust$Plan;)V"⟩, prog_8_method_6_code, 7, none, t_Shrinker_carryArrows)
abbrev n_Shrinker_carryArrows : Nat := 72
def t_Shrinker_rankIn : List xa_I := [
  (65535, .nop, 0, [753, 70], 0),
  (0, .iload_n 0, 1, [0], 0),
  (1, .iconst 1, 1, [], 1),
  (2, .iload_n 1, 1, [1], 0),
  (3, .ishl, 1, [], 0),
  (4, .iconst 1, 1, [], 1),
  (5, .isub, 1, [], 0),
  (6, .iand, 1, [], 0),
  (7, .invokestatic 23, 3, [0, 179, 1, 0, 0, 745, 594], 0),
  (10, .ireturn, 1, [0], 0)]
def m_Shrinker_rankIn : xa_M := (⟨"MayMust$Shrinker", "rankIn", "(II)I"⟩, prog_8_method_7_code, 2, (some .int), t_Shrinker_rankIn)
abbrev n_Shrinker_rankIn : Nat := 73
def t_Text_init : List xa_I := [
  (65535, .nop, 0, [113, 64], 0),
  (0, .aload_n 0, 1, [0], 0),
  (1, .invokespecial 3, 3, [9, 0, 0, 0, 0, 114, 89, 90], 0),
  (4, .aload_n 0, 1, [0], 0),
  (5, .sipush 300, 3, [], 300),
  (8, .newarray .int, 2, [0, 0, 0, 0, 0, 108], 0),
  (10, .putfield 9, 3, [7, 0, 1, 0, 0, 115], 0),
  (13, .aload_n 0, 1, [0], 0),
  (14, .iconst 0, 1, [], 0),
  (15, .putfield 15, 3, [7, 1, 0, 0, 0, 116], 0),
  (18, .return_, 1, [], 0)]
def m_Text_init : xa_M := (⟨"MayMust$Text", "<init>", "()V"⟩, prog_9_method_1_code, 1, none, t_Text_init)
abbrev n_Text_init : Nat := 74
def t_Text_size : List xa_I := [
  (65535, .nop, 0, [303, 64], 0),
  (0, .aload_n 0, 1, [0], 0),
  (1, .getfield 15, 3, [7, 1, 0, 0, 0, 116], 0),
  (4, .ireturn, 1, [0], 0)]
def m_Text_size : xa_M := (⟨"MayMust$Text", "size", "()I"⟩, prog_9_method_2_code, 1, (some .int), t_Text_size)
abbrev n_Text_size : Nat := 75
def t_Text_drain : List xa_I := [
  (65535, .nop, 0, [311, 64], 0),
  (0, .aload_n 0, 1, [0], 0),
  (1, .getfield 15, 3, [7, 1, 0, 0, 0, 116], 0),
  (4, .istore_n 1, 1, [1], 0),
  (5, .aload_n 0, 1, [0], 0),
  (6, .iconst 0, 1, [], 0),
  (7, .putfield 15, 3, [7, 1, 0, 0, 0, 116], 0),
  (10, .iload_n 1, 1, [1], 0),
  (11, .ireturn, 1, [0], 0)]
def m_Text_drain : xa_M := (⟨"MayMust$Text", "drain", "()I"⟩, prog_9_method_3_code, 2, (some .int), t_Text_drain)
abbrev n_Text_drain : Nat := 76
def t_Text_append : List xa_I := [
  (65535, .nop, 0, [299, 64], 0),
  (0, .iload_n 3, 1, [3], 0),
  (1, .sipush 300, 3, [], 300),
  (4, .aload_n 0, 1, [0], 0),
  (5, .getfield 15, 3, [7, 1, 0, 0, 0, 116], 0),
  (8, .isub, 1, [], 0),
  (9, .if_icmp .le 5, 3, [14], 0),
  (12, .iconst 0, 1, [], 0),
  (13, .ireturn, 1, [1], 0),
  (14, .iload_n 3, 1, [3], 0),
  (15, .iconst 1, 1, [], 1),
  (16, .isub, 1, [], 0),
  (17, .istore 4, 2, [4], 0),
  (19, .iload 4, 2, [4], 0),
  (21, .ifCond .lt 40, 3, [61], 0),
  (24, .aload_n 0, 1, [0], 0),
  (25, .getfield 9, 3, [7, 0, 0, 0, 0, 115], 0),
  (28, .aload_n 0, 1, [0], 0),
  (29, .getfield 15, 3, [7, 1, 0, 0, 0, 116], 0),
  (32, .lload_n 1, 1, [1], 0),
  (33, .bipush 8, 2, [], 8),
  (35, .iload 4, 2, [4], 0),
  (37, .imul, 1, [], 0),
  (38, .lushr, 1, [], 0),
  (39, .l2i, 1, [], 0),
  (40, .sipush 255, 3, [], 255),
  (43, .iand, 1, [], 0),
  (44, .iastore, 1, [], 0),
  (45, .aload_n 0, 1, [0], 0),
  (46, .dup, 1, [], 0),
  (47, .getfield 15, 3, [7, 1, 0, 0, 0, 116], 0),
  (50, .iconst 1, 1, [], 1),
  (51, .iadd, 1, [], 0),
  (52, .putfield 15, 3, [7, 1, 0, 0, 0, 116], 0),
  (55, .iinc 4 (-1), 3, [4], (-1)),
  (58, .goto (-39), 3, [19], 0),
  (61, .iconst 1, 1, [], 1),
  (62, .ireturn, 1, [1], 0)]
def m_Text_append : xa_M := (⟨"MayMust$Text", "append", "(JI)Z"⟩, prog_9_method_4_code, 5, (some .boolean), t_Text_append)
abbrev n_Text_append : Nat := 77
def t_Text_byteAt : List xa_I := [
  (65535, .nop, 0, [331, 64], 0),
  (0, .iload_n 1, 1, [1], 0),
  (1, .ifCond .lt 20, 3, [21], 0),
  (4, .iload_n 1, 1, [1], 0),
  (5, .aload_n 0, 1, [0], 0),
  (6, .getfield 15, 3, [7, 1, 0, 0, 0, 116], 0),
  (9, .if_icmp .ge 12, 3, [21], 0),
  (12, .aload_n 0, 1, [0], 0),
  (13, .getfield 9, 3, [7, 0, 0, 0, 0, 115], 0),
  (16, .iload_n 1, 1, [1], 0),
  (17, .iaload, 1, [], 0),
  (18, .goto 4, 3, [22], 0),
  (21, .iconst (-1), 1, [], (-1)),
  (22, .ireturn, 1, [0], 0)]
def m_Text_byteAt : xa_M := (⟨"MayMust$Text", "byteAt", "(I)I"⟩, prog_9_method_5_code, 2, (some .int), t_Text_byteAt)
abbrev n_Text_byteAt : Nat := 78
def t_Text_spells : List xa_I := [
  (65535, .nop, 0, [364, 64], 0),
  (0, .iload_n 2, 1, [2], 0),
  (1, .iload_n 1, 1, [1], 0),
  (2, .isub, 1, [], 0),
  (3, .aload_n 3, 1, [3], 0),
  (4, .invokevirtual 19, 3, [0, 180, 0, 60, 0, 365, 366, 367], 0),
  (7, .if_icmp .eq 5, 3, [12], 0),
  (10, .iconst 0, 1, [], 0),
  (11, .ireturn, 1, [1], 0),
  (12, .iconst 0, 1, [], 0),
  (13, .istore 4, 2, [4], 0),
  (15, .iload 4, 2, [4], 0),
  (17, .aload_n 3, 1, [3], 0),
  (18, .invokevirtual 19, 3, [0, 180, 0, 60, 0, 365, 366, 367], 0),
  (21, .if_icmp .ge 28, 3, [49], 0),
  (24, .aload_n 0, 1, [0], 0),
  (25, .iload_n 1, 1, [1], 0),
  (26, .iload 4, 2, [4], 0),
  (28, .iadd, 1, [], 0),
  (29, .invokevirtual 25, 3, [0, 78, 1, 7, 0, 375, 329, 330], 0),
  (32, .aload_n 3, 1, [3], 0),
  (33, .iload 4, 2, [4], 0),
  (35, .invokevirtual 29, 3, [0, 181, 1, 60, 0, 376, 377, 378], 0),
  (38, .if_icmp .eq 5, 3, [43], 0),
  (41, .iconst 0, 1, [], 0),
  (42, .ireturn, 1, [1], 0),
  (43, .iinc 4 1, 3, [4], 1),
  (46, .goto (-31), 3, [15], 0),
  (49, .iconst 1, 1, [], 1),
  (50, .ireturn, 1, [1], 0)]
def m_Text_spells : xa_M := (⟨"MayMust$Text", "spells", "(IILjava/lang/String;)Z"⟩, prog_9_method_6_code, 5, (some .boolean), t_Text_spells)
abbrev n_Text_spells : Nat := 79
def t_Tokens_init : List xa_I := [
  (65535, .nop, 0, [132, 66], 0),
  (0, .aload_n 0, 1, [0], 0),
  (1, .invokespecial 3, 3, [9, 0, 0, 0, 0, 133, 89, 90], 0),
  (4, .aload_n 0, 1, [0], 0),
  (5, .sipush 301, 3, [], 301),
  (8, .newarray .int, 2, [0, 0, 0, 0, 0, 108], 0),
  (10, .putfield 9, 3, [8, 0, 1, 0, 0, 134], 0),
  (13, .aload_n 0, 1, [0], 0),
  (14, .sipush 301, 3, [], 301),
  (17, .newarray .int, 2, [0, 0, 0, 0, 0, 108], 0),
  (19, .putfield 15, 3, [8, 1, 1, 0, 0, 135], 0),
  (22, .aload_n 0, 1, [0], 0),
  (23, .sipush 301, 3, [], 301),
  (26, .newarray .int, 2, [0, 0, 0, 0, 0, 108], 0),
  (28, .putfield 18, 3, [8, 2, 1, 0, 0, 136], 0),
  (31, .aload_n 0, 1, [0], 0),
  (32, .iconst 0, 1, [], 0),
  (33, .putfield 21, 3, [8, 3, 0, 0, 0, 137], 0),
  (36, .aload_n 0, 1, [0], 0),
  (37, .iconst 0, 1, [], 0),
  (38, .putfield 25, 3, [8, 4, 0, 0, 0, 138], 0),
  (41, .return_, 1, [], 0)]
def m_Tokens_init : xa_M := (⟨"MayMust$Tokens", "<init>", "()V"⟩, prog_10_method_1_code, 1, none, t_Tokens_init)
abbrev n_Tokens_init : Nat := 80
def t_Tokens_split : List xa_I := [
  (65535, .nop, 0, [326, 66], 0),
  (0, .aload_n 0, 1, [0], 0),
  (1, .iconst 0, 1, [], 0),
  (2, .putfield 21, 3, [8, 3, 0, 0, 0, 137], 0),
  (5, .aload_n 0, 1, [0], 0),
  (6, .iconst 0, 1, [], 0),
  (7, .putfield 25, 3, [8, 4, 0, 0, 0, 138], 0),
  (10, .iconst 0, 1, [], 0),
  (11, .istore_n 2, 1, [2], 0),
  (12, .iconst 0, 1, [], 0),
  (13, .istore_n 3, 1, [3], 0),
  (14, .iload_n 3, 1, [3], 0),
  (15, .sipush 300, 3, [], 300),
  (18, .if_icmp .ge 40, 3, [58], 0),
  (21, .iload_n 2, 1, [2], 0),
  (22, .aload_n 1, 1, [1], 0),
  (23, .invokevirtual 28, 3, [0, 75, 0, 7, 0, 327, 301, 302], 0),
  (26, .if_icmp .ge 32, 3, [58], 0),
  (29, .aload_n 1, 1, [1], 0),
  (30, .iload_n 2, 1, [2], 0),
  (31, .invokevirtual 33, 3, [0, 78, 1, 7, 0, 328, 329, 330], 0),
  (34, .bipush 32, 2, [], 32),
  (36, .if_icmp .ne 9, 3, [45], 0),
  (39, .iload_n 2, 1, [2], 0),
  (40, .iconst 1, 1, [], 1),
  (41, .iadd, 1, [], 0),
  (42, .goto 9, 3, [51], 0),
  (45, .aload_n 0, 1, [0], 0),
  (46, .aload_n 1, 1, [1], 0),
  (47, .iload_n 2, 1, [2], 0),
  (48, .invokevirtual 37, 3, [0, 87, 2, 8, 0, 332, 334, 0], 0),
  (51, .istore_n 2, 1, [2], 0),
  (52, .iinc 3 1, 3, [3], 1),
  (55, .goto (-41), 3, [14], 0),
  (58, .aload_n 0, 1, [0], 0),
  (59, .iconst 0, 1, [], 0),
  (60, .aload_n 1, 1, [1], 0),
  (61, .invokevirtual 28, 3, [0, 75, 0, 7, 0, 327, 301, 302], 0),
  (64, .iconst 0, 1, [], 0),
  (65, .invokevirtual 41, 3, [0, 91, 3, 8, 0, 346, 348, 2], 0),
  (68, .return_, 1, [], 0)]
def m_Tokens_split : xa_M := (⟨"MayMust$Tokens", "split", "(LMayMust$Text;)V"⟩, prog_10_method_2_code, 4, none, t_Tokens_split)
abbrev n_Tokens_split : Nat := 81
def t_Tokens_kind : List xa_I := [
  (65535, .nop, 0, [485, 66], 0),
  (0, .aload_n 0, 1, [0], 0),
  (1, .getfield 25, 3, [8, 4, 0, 0, 0, 138], 0),
  (4, .aload_n 0, 1, [0], 0),
  (5, .getfield 21, 3, [8, 3, 0, 0, 0, 137], 0),
  (8, .if_icmp .ge 15, 3, [23], 0),
  (11, .aload_n 0, 1, [0], 0),
  (12, .getfield 9, 3, [8, 0, 0, 0, 0, 134], 0),
  (15, .aload_n 0, 1, [0], 0),
  (16, .getfield 25, 3, [8, 4, 0, 0, 0, 138], 0),
  (19, .iaload, 1, [], 0),
  (20, .goto 4, 3, [24], 0),
  (23, .iconst 0, 1, [], 0),
  (24, .ireturn, 1, [0], 0)]
def m_Tokens_kind : xa_M := (⟨"MayMust$Tokens", "kind", "()I"⟩, prog_10_method_3_code, 1, (some .int), t_Tokens_kind)
abbrev n_Tokens_kind : Nat := 82
def t_Tokens_place : List xa_I := [
  (65535, .nop, 0, [510, 66], 0),
  (0, .aload_n 0, 1, [0], 0),
  (1, .getfield 25, 3, [8, 4, 0, 0, 0, 138], 0),
  (4, .aload_n 0, 1, [0], 0),
  (5, .getfield 21, 3, [8, 3, 0, 0, 0, 137], 0),
  (8, .if_icmp .ge 15, 3, [23], 0),
  (11, .aload_n 0, 1, [0], 0),
  (12, .getfield 15, 3, [8, 1, 0, 0, 0, 135], 0),
  (15, .aload_n 0, 1, [0], 0),
  (16, .getfield 25, 3, [8, 4, 0, 0, 0, 138], 0),
  (19, .iaload, 1, [], 0),
  (20, .goto 4, 3, [24], 0),
  (23, .iconst 0, 1, [], 0),
  (24, .ireturn, 1, [0], 0)]
def m_Tokens_place : xa_M := (⟨"MayMust$Tokens", "place", "()I"⟩, prog_10_method_4_code, 1, (some .int), t_Tokens_place)
abbrev n_Tokens_place : Nat := 83
def t_Tokens_advance : List xa_I := [
  (65535, .nop, 0, [489, 66], 0),
  (0, .aload_n 0, 1, [0], 0),
  (1, .getfield 25, 3, [8, 4, 0, 0, 0, 138], 0),
  (4, .aload_n 0, 1, [0], 0),
  (5, .getfield 21, 3, [8, 3, 0, 0, 0, 137], 0),
  (8, .iconst 1, 1, [], 1),
  (9, .isub, 1, [], 0),
  (10, .if_icmp .ge 13, 3, [23], 0),
  (13, .aload_n 0, 1, [0], 0),
  (14, .dup, 1, [], 0),
  (15, .getfield 25, 3, [8, 4, 0, 0, 0, 138], 0),
  (18, .iconst 1, 1, [], 1),
  (19, .iadd, 1, [], 0),
  (20, .putfield 25, 3, [8, 4, 0, 0, 0, 138], 0),
  (23, .return_, 1, [], 0)]
def m_Tokens_advance : xa_M := (⟨"MayMust$Tokens", "advance", "()V"⟩, prog_10_method_5_code, 1, none, t_Tokens_advance)
abbrev n_Tokens_advance : Nat := 84
def t_Tokens_take : List xa_I := [
  (65535, .nop, 0, [481, 66], 0),
  (0, .aload_n 0, 1, [0], 0),
  (1, .invokevirtual 45, 3, [0, 82, 0, 8, 0, 482, 483, 484], 0),
  (4, .iload_n 1, 1, [1], 0),
  (5, .if_icmp .eq 5, 3, [10], 0),
  (8, .iconst 0, 1, [], 0),
  (9, .ireturn, 1, [1], 0),
  (10, .aload_n 0, 1, [0], 0),
  (11, .invokevirtual 48, 3, [0, 84, 0, 8, 0, 486, 487, 488], 0),
  (14, .iconst 1, 1, [], 1),
  (15, .ireturn, 1, [1], 0)]
def m_Tokens_take : xa_M := (⟨"MayMust$Tokens", "take", "(I)Z"⟩, prog_10_method_6_code, 2, (some .boolean), t_Tokens_take)
abbrev n_Tokens_take : Nat := 85
def t_Tokens_takeWorth : List xa_I := [
  (65535, .nop, 0, [493, 66], 0),
  (0, .aload_n 0, 1, [0], 0),
  (1, .getfield 25, 3, [8, 4, 0, 0, 0, 138], 0),
  (4, .aload_n 0, 1, [0], 0),
  (5, .getfield 21, 3, [8, 3, 0, 0, 0, 137], 0),
  (8, .if_icmp .ge 15, 3, [23], 0),
  (11, .aload_n 0, 1, [0], 0),
  (12, .getfield 18, 3, [8, 2, 0, 0, 0, 136], 0),
  (15, .aload_n 0, 1, [0], 0),
  (16, .getfield 25, 3, [8, 4, 0, 0, 0, 138], 0),
  (19, .iaload, 1, [], 0),
  (20, .goto 4, 3, [24], 0),
  (23, .iconst 0, 1, [], 0),
  (24, .istore 4, 2, [4], 0),
  (26, .aload_n 0, 1, [0], 0),
  (27, .invokevirtual 45, 3, [0, 82, 0, 8, 0, 482, 483, 484], 0),
  (30, .iload_n 1, 1, [1], 0),
  (31, .if_icmp .ne 15, 3, [46], 0),
  (34, .iload 4, 2, [4], 0),
  (36, .iload_n 2, 1, [2], 0),
  (37, .if_icmp .lt 9, 3, [46], 0),
  (40, .iload 4, 2, [4], 0),
  (42, .iload_n 3, 1, [3], 0),
  (43, .if_icmp .le 5, 3, [48], 0),
  (46, .iconst (-1), 1, [], (-1)),
  (47, .ireturn, 1, [0], 0),
  (48, .aload_n 0, 1, [0], 0),
  (49, .invokevirtual 48, 3, [0, 84, 0, 8, 0, 486, 487, 488], 0),
  (52, .iload 4, 2, [4], 0),
  (54, .ireturn, 1, [0], 0)]
def m_Tokens_takeWorth : xa_M := (⟨"MayMust$Tokens", "takeWorth", "(III)I"⟩, prog_10_method_7_code, 5, (some .int), t_Tokens_takeWorth)
abbrev n_Tokens_takeWorth : Nat := 86
def t_Tokens_cut : List xa_I := [
  (65535, .nop, 0, [335, 66], 0),
  (0, .aload_n 1, 1, [1], 0),
  (1, .iload_n 2, 1, [2], 0),
  (2, .invokevirtual 33, 3, [0, 78, 1, 7, 0, 328, 329, 330], 0),
  (5, .istore_n 3, 1, [3], 0),
  (6, .iload_n 3, 1, [3], 0),
  (7, .invokestatic 51, 3, [0, 92, 1, 0, 0, 336, 337], 0),
  (10, .ifCond .eq 10, 3, [20], 0),
  (13, .aload_n 0, 1, [0], 0),
  (14, .aload_n 1, 1, [1], 0),
  (15, .iload_n 2, 1, [2], 0),
  (16, .invokevirtual 55, 3, [0, 88, 2, 8, 0, 339, 341, 1], 0),
  (19, .ireturn, 1, [0], 0),
  (20, .iload_n 3, 1, [3], 0),
  (21, .invokestatic 58, 3, [0, 93, 1, 0, 0, 350, 351], 0),
  (24, .ifCond .eq 10, 3, [34], 0),
  (27, .aload_n 0, 1, [0], 0),
  (28, .aload_n 1, 1, [1], 0),
  (29, .iload_n 2, 1, [2], 0),
  (30, .invokevirtual 61, 3, [0, 89, 2, 8, 0, 353, 355, 3], 0),
  (33, .ireturn, 1, [0], 0),
  (34, .aload_n 0, 1, [0], 0),
  (35, .ldc 64, 2, [4], 0),
  (37, .iload_n 3, 1, [3], 0),
  (38, .i2c, 1, [], 0),
  (39, .invokevirtual 66, 3, [0, 182, 1, 60, 0, 417, 418, 419], 0),
  (42, .ifCond .lt 7, 3, [49], 0),
  (45, .iload_n 3, 1, [3], 0),
  (46, .goto 4, 3, [50], 0),
  (49, .iconst 1, 1, [], 1),
  (50, .iload_n 2, 1, [2], 0),
  (51, .iconst 0, 1, [], 0),
  (52, .invokevirtual 41, 3, [0, 91, 3, 8, 0, 346, 348, 2], 0),
  (55, .iload_n 2, 1, [2], 0),
  (56, .iconst 1, 1, [], 1),
  (57, .iadd, 1, [], 0),
  (58, .ireturn, 1, [0], 0)]
def m_Tokens_cut : xa_M := (⟨"MayMust$Tokens", "cut", "(LMayMust$Text;I)I"⟩, prog_10_method_8_code, 4, (some .int), t_Tokens_cut)
abbrev n_Tokens_cut : Nat := 87
def t_Tokens_cutNumber : List xa_I := [
  (65535, .nop, 0, [342, 66], 0),
  (0, .iconst 0, 1, [], 0),
  (1, .istore_n 3, 1, [3], 0),
  (2, .iload_n 2, 1, [2], 0),
  (3, .istore 4, 2, [4], 0),
  (5, .iload 4, 2, [4], 0),
  (7, .sipush 300, 3, [], 300),
  (10, .if_icmp .ge 41, 3, [51], 0),
  (13, .aload_n 1, 1, [1], 0),
  (14, .iload 4, 2, [4], 0),
  (16, .invokevirtual 33, 3, [0, 78, 1, 7, 0, 328, 329, 330], 0),
  (19, .invokestatic 51, 3, [0, 92, 1, 0, 0, 336, 337], 0),
  (22, .ifCond .eq 29, 3, [51], 0),
  (25, .iload_n 3, 1, [3], 0),
  (26, .bipush 10, 2, [], 10),
  (28, .imul, 1, [], 0),
  (29, .aload_n 1, 1, [1], 0),
  (30, .iload 4, 2, [4], 0),
  (32, .invokevirtual 33, 3, [0, 78, 1, 7, 0, 328, 329, 330], 0),
  (35, .iadd, 1, [], 0),
  (36, .bipush 48, 2, [], 48),
  (38, .isub, 1, [], 0),
  (39, .bipush 100, 2, [], 100),
  (41, .invokestatic 71, 3, [4, 0, 0, 0, 0, 343, 344, 74, 345], 0),
  (44, .istore_n 3, 1, [3], 0),
  (45, .iinc 4 1, 3, [4], 1),
  (48, .goto (-43), 3, [5], 0),
  (51, .iload 4, 2, [4], 0),
  (53, .iload_n 2, 1, [2], 0),
  (54, .isub, 1, [], 0),
  (55, .iconst 1, 1, [], 1),
  (56, .if_icmp .le 17, 3, [73], 0),
  (59, .aload_n 1, 1, [1], 0),
  (60, .iload_n 2, 1, [2], 0),
  (61, .invokevirtual 33, 3, [0, 78, 1, 7, 0, 328, 329, 330], 0),
  (64, .bipush 48, 2, [], 48),
  (66, .if_icmp .ne 7, 3, [73], 0),
  (69, .iconst 1, 1, [], 1),
  (70, .goto 4, 3, [74], 0),
  (73, .iconst 0, 1, [], 0),
  (74, .istore 5, 2, [5], 0),
  (76, .aload_n 0, 1, [0], 0),
  (77, .iload_n 3, 1, [3], 0),
  (78, .bipush 99, 2, [], 99),
  (80, .if_icmp .gt 8, 3, [88], 0),
  (83, .iload 5, 2, [5], 0),
  (85, .ifCond .eq 7, 3, [92], 0),
  (88, .iconst 1, 1, [], 1),
  (89, .goto 4, 3, [93], 0),
  (92, .iconst 2, 1, [], 2),
  (93, .iload_n 2, 1, [2], 0),
  (94, .iload_n 3, 1, [3], 0),
  (95, .invokevirtual 41, 3, [0, 91, 3, 8, 0, 346, 348, 2], 0),
  (98, .iload 4, 2, [4], 0),
  (100, .ireturn, 1, [0], 0)]
def m_Tokens_cutNumber : xa_M := (⟨"MayMust$Tokens", "cutNumber", "(LMayMust$Text;I)I"⟩, prog_10_method_9_code, 6, (some .int), t_Tokens_cutNumber)
abbrev n_Tokens_cutNumber : Nat := 88
def t_Tokens_cutWord : List xa_I := [
  (65535, .nop, 0, [356, 66], 0),
  (0, .iload_n 2, 1, [2], 0),
  (1, .istore_n 3, 1, [3], 0),
  (2, .iload_n 3, 1, [3], 0),
  (3, .sipush 300, 3, [], 300),
  (6, .if_icmp .ge 20, 3, [26], 0),
  (9, .aload_n 1, 1, [1], 0),
  (10, .iload_n 3, 1, [3], 0),
  (11, .invokevirtual 33, 3, [0, 78, 1, 7, 0, 328, 329, 330], 0),
  (14, .invokestatic 58, 3, [0, 93, 1, 0, 0, 350, 351], 0),
  (17, .ifCond .eq 9, 3, [26], 0),
  (20, .iinc 3 1, 3, [3], 1),
  (23, .goto (-21), 3, [2], 0),
  (26, .aload_n 1, 1, [1], 0),
  (27, .iload_n 2, 1, [2], 0),
  (28, .invokevirtual 33, 3, [0, 78, 1, 7, 0, 328, 329, 330], 0),
  (31, .bipush 97, 2, [], 97),
  (33, .isub, 1, [], 0),
  (34, .istore 4, 2, [4], 0),
  (36, .iload_n 3, 1, [3], 0),
  (37, .iload_n 2, 1, [2], 0),
  (38, .isub, 1, [], 0),
  (39, .iconst 1, 1, [], 1),
  (40, .if_icmp .ne 20, 3, [60], 0),
  (43, .iload 4, 2, [4], 0),
  (45, .iconst 3, 1, [], 3),
  (46, .if_icmp .ge 14, 3, [60], 0),
  (49, .aload_n 0, 1, [0], 0),
  (50, .iconst 3, 1, [], 3),
  (51, .iload_n 2, 1, [2], 0),
  (52, .iload 4, 2, [4], 0),
  (54, .invokevirtual 41, 3, [0, 91, 3, 8, 0, 346, 348, 2], 0),
  (57, .goto 15, 3, [72], 0),
  (60, .aload_n 0, 1, [0], 0),
  (61, .aload_n 1, 1, [1], 0),
  (62, .iload_n 2, 1, [2], 0),
  (63, .iload_n 3, 1, [3], 0),
  (64, .invokestatic 77, 3, [0, 90, 3, 0, 0, 357, 358], 0),
  (67, .iload_n 2, 1, [2], 0),
  (68, .iconst 0, 1, [], 0),
  (69, .invokevirtual 41, 3, [0, 91, 3, 8, 0, 346, 348, 2], 0),
  (72, .iload_n 3, 1, [3], 0),
  (73, .ireturn, 1, [0], 0)]
def m_Tokens_cutWord : xa_M := (⟨"MayMust$Tokens", "cutWord", "(LMayMust$Text;I)I"⟩, prog_10_method_10_code, 5, (some .int), t_Tokens_cutWord)
abbrev n_Tokens_cutWord : Nat := 89
def t_Tokens_kindOfWord : List xa_I := [
  (65535, .nop, 0, [359, 66], 0),
  (0, .aload_n 0, 1, [0], 0),
  (1, .iload_n 1, 1, [1], 0),
  (2, .iload_n 2, 1, [2], 0),
  (3, .ldc 81, 2, [1], 0),
  (5, .invokevirtual 83, 3, [0, 79, 3, 7, 0, 361, 362, 363], 0),
  (8, .ifCond .eq 5, 3, [13], 0),
  (11, .iconst 4, 1, [], 4),
  (12, .ireturn, 1, [0], 0),
  (13, .aload_n 0, 1, [0], 0),
  (14, .iload_n 1, 1, [1], 0),
  (15, .iload_n 2, 1, [2], 0),
  (16, .ldc 87, 2, [2], 0),
  (18, .invokevirtual 83, 3, [0, 79, 3, 7, 0, 361, 362, 363], 0),
  (21, .ifCond .eq 5, 3, [26], 0),
  (24, .iconst 5, 1, [], 5),
  (25, .ireturn, 1, [0], 0),
  (26, .aload_n 0, 1, [0], 0),
  (27, .iload_n 1, 1, [1], 0),
  (28, .iload_n 2, 1, [2], 0),
  (29, .ldc 89, 2, [3], 0),
  (31, .invokevirtual 83, 3, [0, 79, 3, 7, 0, 361, 362, 363], 0),
  (34, .ifCond .eq 8, 3, [42], 0),
  (37, .bipush 6, 2, [], 6),
  (39, .goto 4, 3, [43], 0),
  (42, .iconst 1, 1, [], 1),
  (43, .ireturn, 1, [0], 0)]
def m_Tokens_kindOfWord : xa_M := (⟨"MayMust$Tokens", "kindOfWord", "(LMayMust$Text;II)I"⟩, prog_10_method_11_code, 3, (some .int), t_Tokens_kindOfWord)
abbrev n_Tokens_kindOfWord : Nat := 90
def t_Tokens_keep : List xa_I := [
  (65535, .nop, 0, [349, 66], 0),
  (0, .aload_n 0, 1, [0], 0),
  (1, .getfield 21, 3, [8, 3, 0, 0, 0, 137], 0),
  (4, .sipush 300, 3, [], 300),
  (7, .if_icmp .gt 43, 3, [50], 0),
  (10, .aload_n 0, 1, [0], 0),
  (11, .getfield 9, 3, [8, 0, 0, 0, 0, 134], 0),
  (14, .aload_n 0, 1, [0], 0),
  (15, .getfield 21, 3, [8, 3, 0, 0, 0, 137], 0),
  (18, .iload_n 1, 1, [1], 0),
  (19, .iastore, 1, [], 0),
  (20, .aload_n 0, 1, [0], 0),
  (21, .getfield 15, 3, [8, 1, 0, 0, 0, 135], 0),
  (24, .aload_n 0, 1, [0], 0),
  (25, .getfield 21, 3, [8, 3, 0, 0, 0, 137], 0),
  (28, .iload_n 2, 1, [2], 0),
  (29, .iastore, 1, [], 0),
  (30, .aload_n 0, 1, [0], 0),
  (31, .getfield 18, 3, [8, 2, 0, 0, 0, 136], 0),
  (34, .aload_n 0, 1, [0], 0),
  (35, .getfield 21, 3, [8, 3, 0, 0, 0, 137], 0),
  (38, .iload_n 3, 1, [3], 0),
  (39, .iastore, 1, [], 0),
  (40, .aload_n 0, 1, [0], 0),
  (41, .dup, 1, [], 0),
  (42, .getfield 21, 3, [8, 3, 0, 0, 0, 137], 0),
  (45, .iconst 1, 1, [], 1),
  (46, .iadd, 1, [], 0),
  (47, .putfield 21, 3, [8, 3, 0, 0, 0, 137], 0),
  (50, .return_, 1, [], 0)]
def m_Tokens_keep : xa_M := (⟨"MayMust$Tokens", "keep", "(III)V"⟩, prog_10_method_12_code, 4, none, t_Tokens_keep)
abbrev n_Tokens_keep : Nat := 91
def t_Tokens_isDigit : List xa_I := [
  (65535, .nop, 0, [338, 66], 0),
  (0, .iload_n 0, 1, [0], 0),
  (1, .bipush 48, 2, [], 48),
  (3, .if_icmp .lt 13, 3, [16], 0),
  (6, .iload_n 0, 1, [0], 0),
  (7, .bipush 57, 2, [], 57),
  (9, .if_icmp .gt 7, 3, [16], 0),
  (12, .iconst 1, 1, [], 1),
  (13, .goto 4, 3, [17], 0),
  (16, .iconst 0, 1, [], 0),
  (17, .ireturn, 1, [1], 0)]
def m_Tokens_isDigit : xa_M := (⟨"MayMust$Tokens", "isDigit", "(I)Z"⟩, prog_10_method_13_code, 1, (some .boolean), t_Tokens_isDigit)
abbrev n_Tokens_isDigit : Nat := 92
def t_Tokens_isWordLetter : List xa_I := [
  (65535, .nop, 0, [352, 66], 0),
  (0, .iload_n 0, 1, [0], 0),
  (1, .bipush 97, 2, [], 97),
  (3, .if_icmp .lt 13, 3, [16], 0),
  (6, .iload_n 0, 1, [0], 0),
  (7, .bipush 122, 2, [], 122),
  (9, .if_icmp .gt 7, 3, [16], 0),
  (12, .iconst 1, 1, [], 1),
  (13, .goto 4, 3, [17], 0),
  (16, .iconst 0, 1, [], 0),
  (17, .ireturn, 1, [1], 0)]
def m_Tokens_isWordLetter : xa_M := (⟨"MayMust$Tokens", "isWordLetter", "(I)Z"⟩, prog_10_method_14_code, 1, (some .boolean), t_Tokens_isWordLetter)
abbrev n_Tokens_isWordLetter : Nat := 93
def t_Walker_init : List xa_I := [
  (65535, .nop, 0, [247, 72], 0),
  (0, .aload_n 0, 1, [0], 0),
  (1, .invokespecial 3, 3, [9, 0, 0, 0, 0, 248, 89, 90], 0),
  (4, .aload_n 0, 1, [0], 0),
  (5, .new 9, 3, [2, 0, 0, 0, 0, 249, 93, 63], 0),
  (8, .dup, 1, [], 0),
  (9, .invokespecial 11, 3, [1, 16, 0, 0, 0, 95, 0, 0, 0, 250], 0),
  (12, .putfield 12, 3, [9, 0, 1, 0, 0, 251], 0),
  (15, .aload_n 0, 1, [0], 0),
  (16, .iconst 1, 1, [], 1),
  (17, .putfield 18, 3, [9, 1, 0, 0, 0, 252], 0),
  (20, .aload_n 0, 1, [0], 0),
  (21, .iconst 0, 1, [], 0),
  (22, .putfield 22, 3, [9, 2, 0, 0, 0, 253], 0),
  (25, .return_, 1, [], 0)]
def m_Walker_init : xa_M := (⟨"MayMust$Walker", "<init>", "()V"⟩, prog_11_method_1_code, 1, none, t_Walker_init)
abbrev n_Walker_init : Nat := 94
def t_Walker_restart : List xa_I := [
  (65535, .nop, 0, [859, 72], 0),
  (0, .aload_n 0, 1, [0], 0),
  (1, .getfield 22, 3, [9, 2, 0, 0, 0, 253], 0),
  (4, .istore_n 2, 1, [2], 0),
  (5, .aload_n 0, 1, [0], 0),
  (6, .getfield 12, 3, [9, 0, 0, 0, 0, 251], 0),
  (9, .aload_n 1, 1, [1], 0),
  (10, .invokevirtual 25, 3, [0, 20, 1, 2, 0, 860, 528, 529], 0),
  (13, .aload_n 0, 1, [0], 0),
  (14, .iconst 1, 1, [], 1),
  (15, .putfield 18, 3, [9, 1, 0, 0, 0, 252], 0),
  (18, .aload_n 0, 1, [0], 0),
  (19, .iconst 0, 1, [], 0),
  (20, .putfield 22, 3, [9, 2, 0, 0, 0, 253], 0),
  (23, .iload_n 2, 1, [2], 0),
  (24, .ireturn, 1, [0], 0)]
def m_Walker_restart : xa_M := (⟨"MayMust$Walker", "restart", "(LMayMust$Plan;)I"⟩, prog_11_method_2_code, 3, (some .int), t_Walker_restart)
abbrev n_Walker_restart : Nat := 95
def t_Walker_where : List xa_I := [
  (65535, .nop, 0, [883, 72], 0),
  (0, .aload_n 0, 1, [0], 0),
  (1, .getfield 18, 3, [9, 1, 0, 0, 0, 252], 0),
  (4, .ireturn, 1, [0], 0)]
def m_Walker_where : xa_M := (⟨"MayMust$Walker", "where", "()I"⟩, prog_11_method_3_code, 1, (some .int), t_Walker_where)
abbrev n_Walker_where : Nat := 96
def t_Walker_gone : List xa_I := [
  (65535, .nop, 0, [900, 72], 0),
  (0, .aload_n 0, 1, [0], 0),
  (1, .getfield 22, 3, [9, 2, 0, 0, 0, 253], 0),
  (4, .ireturn, 1, [0], 0)]
def m_Walker_gone : xa_M := (⟨"MayMust$Walker", "gone", "()I"⟩, prog_11_method_4_code, 1, (some .int), t_Walker_gone)
abbrev n_Walker_gone : Nat := 97
def t_Walker_step : List xa_I := [
  (65535, .nop, 0, [868, 72], 0),
  (0, .aload_n 0, 1, [0], 0),
  (1, .iload_n 1, 1, [1], 0),
  (2, .invokevirtual 29, 3, [0, 101, 1, 9, 0, 869, 871, 30], 0),
  (5, .istore_n 2, 1, [2], 0),
  (6, .iload_n 2, 1, [2], 0),
  (7, .ifCond .ne 6, 3, [13], 0),
  (10, .bipush (-2), 2, [], (-2)),
  (12, .ireturn, 1, [0], 0),
  (13, .aload_n 0, 1, [0], 0),
  (14, .getfield 22, 3, [9, 2, 0, 0, 0, 253], 0),
  (17, .sipush 200, 3, [], 200),
  (20, .if_icmp .lt 6, 3, [26], 0),
  (23, .bipush (-3), 2, [], (-3)),
  (25, .ireturn, 1, [0], 0),
  (26, .aload_n 0, 1, [0], 0),
  (27, .iload_n 2, 1, [2], 0),
  (28, .putfield 18, 3, [9, 1, 0, 0, 0, 252], 0),
  (31, .aload_n 0, 1, [0], 0),
  (32, .dup, 1, [], 0),
  (33, .getfield 22, 3, [9, 2, 0, 0, 0, 253], 0),
  (36, .iconst 1, 1, [], 1),
  (37, .iadd, 1, [], 0),
  (38, .putfield 22, 3, [9, 2, 0, 0, 0, 253], 0),
  (41, .aload_n 0, 1, [0], 0),
  (42, .getfield 18, 3, [9, 1, 0, 0, 0, 252], 0),
  (45, .invokestatic 33, 3, [0, 179, 1, 0, 0, 875, 594], 0),
  (48, .ireturn, 1, [0], 0)]
def m_Walker_step : xa_M := (⟨"MayMust$Walker", "step", "(I)I"⟩, prog_11_method_5_code, 3, (some .int), t_Walker_step)
abbrev n_Walker_step : Nat := 98
def t_Walker_mayCome : List xa_I := [
  (65535, .nop, 0, [887, 72], 0),
  (0, .iconst 0, 1, [], 0),
  (1, .istore_n 1, 1, [1], 0),
  (2, .iconst 0, 1, [], 0),
  (3, .istore_n 2, 1, [2], 0),
  (4, .iload_n 2, 1, [2], 0),
  (5, .iconst 3, 1, [], 3),
  (6, .if_icmp .ge 23, 3, [29], 0),
  (9, .aload_n 0, 1, [0], 0),
  (10, .iload_n 2, 1, [2], 0),
  (11, .invokevirtual 29, 3, [0, 101, 1, 9, 0, 869, 871, 30], 0),
  (14, .ifCond .eq 9, 3, [23], 0),
  (17, .iload_n 1, 1, [1], 0),
  (18, .iconst 1, 1, [], 1),
  (19, .iload_n 2, 1, [2], 0),
  (20, .ishl, 1, [], 0),
  (21, .ior, 1, [], 0),
  (22, .istore_n 1, 1, [1], 0),
  (23, .iinc 2 1, 3, [2], 1),
  (26, .goto (-22), 3, [4], 0),
  (29, .iload_n 1, 1, [1], 0),
  (30, .ireturn, 1, [0], 0)]
def m_Walker_mayCome : xa_M := (⟨"MayMust$Walker", "mayCome", "()I"⟩, prog_11_method_6_code, 3, (some .int), t_Walker_mayCome)
abbrev n_Walker_mayCome : Nat := 99
def t_Walker_mustBeThere : List xa_I := [
  (65535, .nop, 0, [891, 72], 0),
  (0, .iconst 0, 1, [], 0),
  (1, .istore_n 1, 1, [1], 0),
  (2, .iconst 0, 1, [], 0),
  (3, .istore_n 2, 1, [2], 0),
  (4, .iload_n 2, 1, [2], 0),
  (5, .iconst 3, 1, [], 3),
  (6, .if_icmp .ge 23, 3, [29], 0),
  (9, .aload_n 0, 1, [0], 0),
  (10, .iload_n 2, 1, [2], 0),
  (11, .invokevirtual 38, 3, [0, 102, 1, 9, 0, 892, 894, 31], 0),
  (14, .ifCond .eq 9, 3, [23], 0),
  (17, .iload_n 1, 1, [1], 0),
  (18, .iconst 1, 1, [], 1),
  (19, .iload_n 2, 1, [2], 0),
  (20, .ishl, 1, [], 0),
  (21, .ior, 1, [], 0),
  (22, .istore_n 1, 1, [1], 0),
  (23, .iinc 2 1, 3, [2], 1),
  (26, .goto (-22), 3, [4], 0),
  (29, .iload_n 1, 1, [1], 0),
  (30, .ireturn, 1, [0], 0)]
def m_Walker_mustBeThere : xa_M := (⟨"MayMust$Walker", "mustBeThere", "()I"⟩, prog_11_method_7_code, 3, (some .int), t_Walker_mustBeThere)
abbrev n_Walker_mustBeThere : Nat := 100
def t_Walker_nextBy : List xa_I := [
  (65535, .nop, 0, [872, 72], 0),
  (0, .iconst 0, 1, [], 0),
  (1, .istore_n 2, 1, [2], 0),
  (2, .iconst 0, 1, [], 0),
  (3, .istore_n 3, 1, [3], 0),
  (4, .iload_n 3, 1, [3], 0),
  (5, .bipush 6, 2, [], 6),
  (7, .if_icmp .ge 32, 3, [39], 0),
  (10, .aload_n 0, 1, [0], 0),
  (11, .getfield 18, 3, [9, 1, 0, 0, 0, 252], 0),
  (14, .iload_n 3, 1, [3], 0),
  (15, .invokestatic 42, 3, [1, 127, 2, 0, 0, 627, 0, 0, 0, 873], 0),
  (18, .ifCond .eq 15, 3, [33], 0),
  (21, .iload_n 2, 1, [2], 0),
  (22, .aload_n 0, 1, [0], 0),
  (23, .getfield 12, 3, [9, 0, 0, 0, 0, 251], 0),
  (26, .iload_n 3, 1, [3], 0),
  (27, .iload_n 1, 1, [1], 0),
  (28, .invokevirtual 46, 3, [0, 21, 2, 2, 0, 874, 630, 631], 0),
  (31, .ior, 1, [], 0),
  (32, .istore_n 2, 1, [2], 0),
  (33, .iinc 3 1, 3, [3], 1),
  (36, .goto (-32), 3, [4], 0),
  (39, .iload_n 2, 1, [2], 0),
  (40, .ireturn, 1, [0], 0)]
def m_Walker_nextBy : xa_M := (⟨"MayMust$Walker", "nextBy", "(I)I"⟩, prog_11_method_8_code, 4, (some .int), t_Walker_nextBy)
abbrev n_Walker_nextBy : Nat := 101
def t_Walker_isInAll : List xa_I := [
  (65535, .nop, 0, [895, 72], 0),
  (0, .iconst 0, 1, [], 0),
  (1, .istore_n 2, 1, [2], 0),
  (2, .iload_n 2, 1, [2], 0),
  (3, .bipush 6, 2, [], 6),
  (5, .if_icmp .ge 34, 3, [39], 0),
  (8, .aload_n 0, 1, [0], 0),
  (9, .getfield 18, 3, [9, 1, 0, 0, 0, 252], 0),
  (12, .iload_n 2, 1, [2], 0),
  (13, .invokestatic 42, 3, [1, 127, 2, 0, 0, 627, 0, 0, 0, 873], 0),
  (16, .ifCond .eq 17, 3, [33], 0),
  (19, .aload_n 0, 1, [0], 0),
  (20, .getfield 12, 3, [9, 0, 0, 0, 0, 251], 0),
  (23, .iload_n 2, 1, [2], 0),
  (24, .iload_n 1, 1, [1], 0),
  (25, .invokevirtual 50, 3, [0, 22, 2, 2, 0, 896, 623, 624], 0),
  (28, .ifCond .ne 5, 3, [33], 0),
  (31, .iconst 0, 1, [], 0),
  (32, .ireturn, 1, [1], 0),
  (33, .iinc 2 1, 3, [2], 1),
  (36, .goto (-34), 3, [2], 0),
  (39, .iconst 1, 1, [], 1),
  (40, .ireturn, 1, [1], 0)]
def m_Walker_isInAll : xa_M := (⟨"MayMust$Walker", "isInAll", "(I)Z"⟩, prog_11_method_9_code, 3, (some .boolean), t_Walker_isInAll)
abbrev n_Walker_isInAll : Nat := 102
def t_MM_init : List xa_I := [
  (65535, .nop, 0, [87, 62], 0),
  (0, .aload_n 0, 1, [0], 0),
  (1, .invokespecial 3, 3, [9, 0, 0, 0, 0, 88, 89, 90], 0),
  (4, .aload_n 0, 1, [0], 0),
  (5, .bipush 6, 2, [], 6),
  (7, .anewarray 9, 3, [0, 0, 0, 0, 0, 91], 0),
  (10, .putfield 11, 3, [10, 0, 1, 0, 0, 261], 0),
  (13, .iconst 0, 1, [], 0),
  (14, .istore_n 1, 1, [1], 0),
  (15, .iload_n 1, 1, [1], 0),
  (16, .bipush 6, 2, [], 6),
  (18, .if_icmp .ge 22, 3, [40], 0),
  (21, .aload_n 0, 1, [0], 0),
  (22, .getfield 11, 3, [10, 0, 0, 0, 0, 261], 0),
  (25, .iload_n 1, 1, [1], 0),
  (26, .new 9, 3, [2, 0, 0, 0, 0, 91, 93, 63], 0),
  (29, .dup, 1, [], 0),
  (30, .invokespecial 15, 3, [1, 16, 0, 0, 0, 95, 0, 0, 0, 94], 0),
  (33, .aastore, 1, [], 0),
  (34, .iinc 1 1, 3, [1], 1),
  (37, .goto (-22), 3, [15], 0),
  (40, .aload_n 0, 1, [0], 0),
  (41, .new 9, 3, [2, 0, 0, 0, 0, 91, 93, 63], 0),
  (44, .dup, 1, [], 0),
  (45, .invokespecial 15, 3, [1, 16, 0, 0, 0, 95, 0, 0, 0, 94], 0),
  (48, .putfield 16, 3, [10, 1, 1, 0, 0, 262], 0),
  (51, .aload_n 0, 1, [0], 0),
  (52, .new 20, 3, [7, 0, 0, 0, 0, 109, 110, 64], 0),
  (55, .dup, 1, [], 0),
  (56, .invokespecial 22, 3, [1, 74, 0, 0, 0, 112, 0, 0, 0, 111], 0),
  (59, .putfield 23, 3, [10, 2, 1, 0, 0, 263], 0),
  (62, .aload_n 0, 1, [0], 0),
  (63, .new 27, 3, [3, 0, 0, 0, 0, 122, 123, 65], 0),
  (66, .dup, 1, [], 0),
  (67, .invokespecial 29, 3, [1, 31, 0, 0, 0, 125, 0, 0, 0, 124], 0),
  (70, .putfield 30, 3, [10, 3, 1, 0, 0, 264], 0),
  (73, .aload_n 0, 1, [0], 0),
  (74, .new 34, 3, [5, 0, 0, 0, 0, 154, 155, 67], 0),
  (77, .dup, 1, [], 0),
  (78, .invokespecial 36, 3, [0, 52, 0, 0, 0, 156, 157], 0),
  (81, .putfield 37, 3, [10, 4, 1, 0, 0, 265], 0),
  (84, .aload_n 0, 1, [0], 0),
  (85, .new 34, 3, [5, 0, 0, 0, 0, 154, 155, 67], 0),
  (88, .dup, 1, [], 0),
  (89, .invokespecial 36, 3, [0, 52, 0, 0, 0, 156, 157], 0),
  (92, .putfield 41, 3, [10, 5, 1, 0, 0, 266], 0),
  (95, .aload_n 0, 1, [0], 0),
  (96, .new 44, 3, [4, 0, 0, 0, 0, 180, 181, 68], 0),
  (99, .dup, 1, [], 0),
  (100, .invokespecial 46, 3, [1, 42, 0, 0, 0, 183, 0, 0, 0, 182], 0),
  (103, .putfield 47, 3, [10, 6, 1, 0, 0, 267], 0),
  (106, .aload_n 0, 1, [0], 0),
  (107, .new 51, 3, [6, 0, 0, 0, 0, 212, 213, 70], 0),
  (110, .dup, 1, [], 0),
  (111, .invokespecial 53, 3, [1, 67, 0, 0, 0, 215, 0, 0, 0, 214], 0),
  (114, .putfield 54, 3, [10, 7, 1, 0, 0, 268], 0),
  (117, .aload_n 0, 1, [0], 0),
  (118, .new 58, 3, [0, 0, 0, 0, 0, 222, 223, 71], 0),
  (121, .dup, 1, [], 0),
  (122, .invokespecial 60, 3, [1, 0, 0, 0, 0, 225, 0, 0, 0, 224], 0),
  (125, .putfield 61, 3, [10, 8, 1, 0, 0, 269], 0),
  (128, .aload_n 0, 1, [0], 0),
  (129, .new 65, 3, [9, 0, 0, 0, 0, 243, 244, 72], 0),
  (132, .dup, 1, [], 0),
  (133, .invokespecial 67, 3, [1, 94, 0, 0, 0, 246, 0, 0, 0, 245], 0),
  (136, .putfield 68, 3, [10, 9, 1, 0, 0, 270], 0),
  (139, .return_, 1, [], 0)]
def m_MM_init : xa_M := (⟨"MayMust", "<init>", "()V"⟩, prog_1_method_1_code, 2, none, t_MM_init)
abbrev n_MM_init : Nat := 103
def t_MM_type : List xa_I := [
  (65535, .nop, 0, [295, 62], 0),
  (0, .iload_n 3, 1, [3], 0),
  (1, .iconst 1, 1, [], 1),
  (2, .if_icmp .lt 9, 3, [11], 0),
  (5, .iload_n 3, 1, [3], 0),
  (6, .bipush 8, 2, [], 8),
  (8, .if_icmp .le 5, 3, [13], 0),
  (11, .iconst (-1), 1, [], (-1)),
  (12, .ireturn, 1, [0], 0),
  (13, .aload_n 0, 1, [0], 0),
  (14, .getfield 23, 3, [10, 2, 0, 0, 0, 263], 0),
  (17, .lload_n 1, 1, [1], 0),
  (18, .iload_n 3, 1, [3], 0),
  (19, .invokevirtual 72, 3, [0, 77, 2, 7, 0, 296, 297, 298], 0),
  (22, .ifCond .eq 13, 3, [35], 0),
  (25, .aload_n 0, 1, [0], 0),
  (26, .getfield 23, 3, [10, 2, 0, 0, 0, 263], 0),
  (29, .invokevirtual 76, 3, [0, 75, 0, 7, 0, 300, 301, 302], 0),
  (32, .goto 5, 3, [37], 0),
  (35, .bipush (-3), 2, [], (-3)),
  (37, .ireturn, 1, [0], 0)]
def m_MM_type : xa_M := (⟨"MayMust", "type", "(JI)I"⟩, prog_1_method_2_code, 4, (some .int), t_MM_type)
abbrev n_MM_type : Nat := 104
def t_MM_clear : List xa_I := [
  (65535, .nop, 0, [307, 62], 0),
  (0, .aload_n 0, 1, [0], 0),
  (1, .getfield 23, 3, [10, 2, 0, 0, 0, 263], 0),
  (4, .invokevirtual 80, 3, [0, 76, 0, 7, 0, 308, 309, 310], 0),
  (7, .ireturn, 1, [0], 0)]
def m_MM_clear : xa_M := (⟨"MayMust", "clear", "()I"⟩, prog_1_method_3_code, 1, (some .int), t_MM_clear)
abbrev n_MM_clear : Nat := 105
def t_MM_plan : List xa_I := [
  (65535, .nop, 0, [315, 62], 0),
  (0, .iload_n 1, 1, [1], 0),
  (1, .invokestatic 83, 3, [0, 122, 1, 0, 0, 316, 317], 0),
  (4, .ifCond .eq 5, 3, [9], 0),
  (7, .iconst (-1), 1, [], (-1)),
  (8, .ireturn, 1, [0], 0),
  (9, .aload_n 0, 1, [0], 0),
  (10, .getfield 30, 3, [10, 3, 0, 0, 0, 264], 0),
  (13, .aload_n 0, 1, [0], 0),
  (14, .getfield 23, 3, [10, 2, 0, 0, 0, 263], 0),
  (17, .aload_n 0, 1, [0], 0),
  (18, .getfield 16, 3, [10, 1, 0, 0, 0, 262], 0),
  (21, .invokevirtual 87, 3, [0, 32, 2, 3, 0, 319, 320, 321], 0),
  (24, .istore_n 2, 1, [2], 0),
  (25, .iload_n 2, 1, [2], 0),
  (26, .ifCond .lt 24, 3, [50], 0),
  (29, .aload_n 0, 1, [0], 0),
  (30, .getfield 11, 3, [10, 0, 0, 0, 0, 261], 0),
  (33, .iload_n 1, 1, [1], 0),
  (34, .aaload, 1, [], 0),
  (35, .aload_n 0, 1, [0], 0),
  (36, .getfield 16, 3, [10, 1, 0, 0, 0, 262], 0),
  (39, .invokevirtual 91, 3, [0, 20, 1, 2, 0, 527, 528, 529], 0),
  (42, .aload_n 0, 1, [0], 0),
  (43, .getfield 23, 3, [10, 2, 0, 0, 0, 263], 0),
  (46, .invokevirtual 80, 3, [0, 76, 0, 7, 0, 308, 309, 310], 0),
  (49, .pop, 1, [], 0),
  (50, .iload_n 2, 1, [2], 0),
  (51, .ireturn, 1, [0], 0)]
def m_MM_plan : xa_M := (⟨"MayMust", "plan", "(I)I"⟩, prog_1_method_4_code, 3, (some .int), t_MM_plan)
abbrev n_MM_plan : Nat := 106
def t_MM_say : List xa_I := [
  (65535, .nop, 0, [538, 62], 0),
  (0, .aload_n 0, 1, [0], 0),
  (1, .getfield 30, 3, [10, 3, 0, 0, 0, 264], 0),
  (4, .aload_n 0, 1, [0], 0),
  (5, .getfield 23, 3, [10, 2, 0, 0, 0, 263], 0),
  (8, .aload_n 0, 1, [0], 0),
  (9, .getfield 41, 3, [10, 5, 0, 0, 0, 266], 0),
  (12, .invokevirtual 95, 3, [0, 35, 2, 3, 0, 539, 540, 541], 0),
  (15, .istore_n 1, 1, [1], 0),
  (16, .iload_n 1, 1, [1], 0),
  (17, .ifCond .lt 22, 3, [39], 0),
  (20, .aload_n 0, 1, [0], 0),
  (21, .getfield 37, 3, [10, 4, 0, 0, 0, 265], 0),
  (24, .aload_n 0, 1, [0], 0),
  (25, .getfield 41, 3, [10, 5, 0, 0, 0, 266], 0),
  (28, .invokevirtual 99, 3, [0, 55, 1, 5, 0, 576, 577, 578], 0),
  (31, .aload_n 0, 1, [0], 0),
  (32, .getfield 23, 3, [10, 2, 0, 0, 0, 263], 0),
  (35, .invokevirtual 80, 3, [0, 76, 0, 7, 0, 308, 309, 310], 0),
  (38, .pop, 1, [], 0),
  (39, .iload_n 1, 1, [1], 0),
  (40, .ireturn, 1, [0], 0)]
def m_MM_say : xa_M := (⟨"MayMust", "say", "()I"⟩, prog_1_method_5_code, 2, (some .int), t_MM_say)
abbrev n_MM_say : Nat := 107
def t_MM_states : List xa_I := [
  (65535, .nop, 0, [584, 62], 0),
  (0, .iload_n 1, 1, [1], 0),
  (1, .invokestatic 83, 3, [0, 122, 1, 0, 0, 316, 317], 0),
  (4, .ifCond .ne 12, 3, [16], 0),
  (7, .iload_n 2, 1, [2], 0),
  (8, .ifCond .lt 8, 3, [16], 0),
  (11, .iload_n 2, 1, [2], 0),
  (12, .iconst 2, 1, [], 2),
  (13, .if_icmp .le 5, 3, [18], 0),
  (16, .iconst (-1), 1, [], (-1)),
  (17, .ireturn, 1, [0], 0),
  (18, .iload_n 2, 1, [2], 0),
  (19, .ifCond .ne 13, 3, [32], 0),
  (22, .aload_n 0, 1, [0], 0),
  (23, .getfield 11, 3, [10, 0, 0, 0, 0, 261], 0),
  (26, .iload_n 1, 1, [1], 0),
  (27, .aaload, 1, [], 0),
  (28, .invokevirtual 102, 3, [0, 17, 0, 2, 0, 585, 517, 518], 0),
  (31, .ireturn, 1, [0], 0),
  (32, .iload_n 2, 1, [2], 0),
  (33, .iconst 1, 1, [], 1),
  (34, .if_icmp .ne 15, 3, [49], 0),
  (37, .aload_n 0, 1, [0], 0),
  (38, .getfield 11, 3, [10, 0, 0, 0, 0, 261], 0),
  (41, .iload_n 1, 1, [1], 0),
  (42, .aaload, 1, [], 0),
  (43, .invokevirtual 103, 3, [0, 27, 0, 2, 0, 586, 587, 588], 0),
  (46, .goto 12, 3, [58], 0),
  (49, .aload_n 0, 1, [0], 0),
  (50, .getfield 11, 3, [10, 0, 0, 0, 0, 261], 0),
  (53, .iload_n 1, 1, [1], 0),
  (54, .aaload, 1, [], 0),
  (55, .invokevirtual 106, 3, [0, 28, 0, 2, 0, 599, 600, 601], 0),
  (58, .ireturn, 1, [0], 0)]
def m_MM_states : xa_M := (⟨"MayMust", "states", "(II)I"⟩, prog_1_method_6_code, 3, (some .int), t_MM_states)
abbrev n_MM_states : Nat := 108
def t_MM_arrow : List xa_I := [
  (65535, .nop, 0, [606, 62], 0),
  (0, .aload_n 0, 1, [0], 0),
  (1, .iload_n 1, 1, [1], 0),
  (2, .iload_n 2, 1, [2], 0),
  (3, .iload_n 3, 1, [3], 0),
  (4, .iload 4, 2, [4], 0),
  (6, .invokevirtual 109, 3, [0, 125, 4, 10, 0, 607, 609, 12], 0),
  (9, .ifCond .eq 5, 3, [14], 0),
  (12, .iconst (-1), 1, [], (-1)),
  (13, .ireturn, 1, [0], 0),
  (14, .aload_n 0, 1, [0], 0),
  (15, .getfield 11, 3, [10, 0, 0, 0, 0, 261], 0),
  (18, .iload_n 1, 1, [1], 0),
  (19, .aaload, 1, [], 0),
  (20, .iload_n 2, 1, [2], 0),
  (21, .iload_n 3, 1, [3], 0),
  (22, .iload 4, 2, [4], 0),
  (24, .invokevirtual 113, 3, [0, 23, 3, 2, 0, 618, 619, 620], 0),
  (27, .ireturn, 1, [0], 0)]
def m_MM_arrow : xa_M := (⟨"MayMust", "arrow", "(IIII)I"⟩, prog_1_method_7_code, 5, (some .int), t_MM_arrow)
abbrev n_MM_arrow : Nat := 109
def t_MM_put : List xa_I := [
  (65535, .nop, 0, [636, 62], 0),
  (0, .aload_n 0, 1, [0], 0),
  (1, .iload_n 1, 1, [1], 0),
  (2, .iload_n 2, 1, [2], 0),
  (3, .iload_n 3, 1, [3], 0),
  (4, .iload 4, 2, [4], 0),
  (6, .invokevirtual 109, 3, [0, 125, 4, 10, 0, 607, 609, 12], 0),
  (9, .ifCond .ne 14, 3, [23], 0),
  (12, .iload 5, 2, [5], 0),
  (14, .ifCond .lt 9, 3, [23], 0),
  (17, .iload 5, 2, [5], 0),
  (19, .iconst 2, 1, [], 2),
  (20, .if_icmp .le 5, 3, [25], 0),
  (23, .iconst (-1), 1, [], (-1)),
  (24, .ireturn, 1, [0], 0),
  (25, .aload_n 0, 1, [0], 0),
  (26, .getfield 11, 3, [10, 0, 0, 0, 0, 261], 0),
  (29, .iload_n 1, 1, [1], 0),
  (30, .aaload, 1, [], 0),
  (31, .iload_n 2, 1, [2], 0),
  (32, .iload_n 3, 1, [3], 0),
  (33, .iload 4, 2, [4], 0),
  (35, .invokevirtual 113, 3, [0, 23, 3, 2, 0, 618, 619, 620], 0),
  (38, .istore 6, 2, [6], 0),
  (40, .aload_n 0, 1, [0], 0),
  (41, .getfield 11, 3, [10, 0, 0, 0, 0, 261], 0),
  (44, .iload_n 1, 1, [1], 0),
  (45, .aaload, 1, [], 0),
  (46, .iload_n 2, 1, [2], 0),
  (47, .iload_n 3, 1, [3], 0),
  (48, .iload 4, 2, [4], 0),
  (50, .iload 5, 2, [5], 0),
  (52, .invokevirtual 117, 3, [0, 24, 4, 2, 0, 637, 638, 639], 0),
  (55, .iload 6, 2, [6], 0),
  (57, .ireturn, 1, [0], 0)]
def m_MM_put : xa_M := (⟨"MayMust", "put", "(IIIII)I"⟩, prog_1_method_8_code, 7, (some .int), t_MM_put)
abbrev n_MM_put : Nat := 110
def t_MM_stricter : List xa_I := [
  (65535, .nop, 0, [645, 62], 0),
  (0, .iload_n 1, 1, [1], 0),
  (1, .invokestatic 83, 3, [0, 122, 1, 0, 0, 316, 317], 0),
  (4, .ifCond .ne 19, 3, [23], 0),
  (7, .iload_n 2, 1, [2], 0),
  (8, .invokestatic 83, 3, [0, 122, 1, 0, 0, 316, 317], 0),
  (11, .ifCond .ne 12, 3, [23], 0),
  (14, .iload_n 3, 1, [3], 0),
  (15, .ifCond .lt 8, 3, [23], 0),
  (18, .iload_n 3, 1, [3], 0),
  (19, .iconst 3, 1, [], 3),
  (20, .if_icmp .le 5, 3, [25], 0),
  (23, .iconst (-1), 1, [], (-1)),
  (24, .ireturn, 1, [0], 0),
  (25, .aload_n 0, 1, [0], 0),
  (26, .getfield 47, 3, [10, 6, 0, 0, 0, 267], 0),
  (29, .aload_n 0, 1, [0], 0),
  (30, .getfield 11, 3, [10, 0, 0, 0, 0, 261], 0),
  (33, .iload_n 1, 1, [1], 0),
  (34, .aaload, 1, [], 0),
  (35, .aload_n 0, 1, [0], 0),
  (36, .getfield 11, 3, [10, 0, 0, 0, 0, 261], 0),
  (39, .iload_n 2, 1, [2], 0),
  (40, .aaload, 1, [], 0),
  (41, .invokevirtual 121, 3, [0, 43, 2, 4, 0, 646, 647, 648], 0),
  (44, .istore 4, 2, [4], 0),
  (46, .iload_n 3, 1, [3], 0),
  (47, .ifCond .ne 14, 3, [61], 0),
  (50, .iload 4, 2, [4], 0),
  (52, .ifCond .eq 7, 3, [59], 0),
  (55, .iconst 1, 1, [], 1),
  (56, .goto 4, 3, [60], 0),
  (59, .iconst 0, 1, [], 0),
  (60, .ireturn, 1, [0], 0),
  (61, .iload_n 3, 1, [3], 0),
  (62, .iconst 1, 1, [], 1),
  (63, .if_icmp .ne 13, 3, [76], 0),
  (66, .aload_n 0, 1, [0], 0),
  (67, .getfield 47, 3, [10, 6, 0, 0, 0, 267], 0),
  (70, .iconst 0, 1, [], 0),
  (71, .iconst 0, 1, [], 0),
  (72, .invokevirtual 125, 3, [0, 44, 2, 4, 0, 697, 698, 699], 0),
  (75, .ireturn, 1, [0], 0),
  (76, .iload_n 3, 1, [3], 0),
  (77, .iconst 2, 1, [], 2),
  (78, .if_icmp .ne 13, 3, [91], 0),
  (81, .aload_n 0, 1, [0], 0),
  (82, .getfield 47, 3, [10, 6, 0, 0, 0, 267], 0),
  (85, .invokevirtual 129, 3, [0, 46, 0, 4, 0, 701, 702, 703], 0),
  (88, .goto 10, 3, [98], 0),
  (91, .aload_n 0, 1, [0], 0),
  (92, .getfield 47, 3, [10, 6, 0, 0, 0, 267], 0),
  (95, .invokevirtual 132, 3, [0, 47, 0, 4, 0, 705, 706, 707], 0),
  (98, .ireturn, 1, [0], 0)]
def m_MM_stricter : xa_M := (⟨"MayMust", "stricter", "(III)I"⟩, prog_1_method_9_code, 5, (some .int), t_MM_stricter)
abbrev n_MM_stricter : Nat := 111
def t_MM_stays : List xa_I := [
  (65535, .nop, 0, [712, 62], 0),
  (0, .aload_n 0, 1, [0], 0),
  (1, .iload_n 1, 1, [1], 0),
  (2, .iload_n 2, 1, [2], 0),
  (3, .invokevirtual 135, 3, [0, 124, 2, 10, 0, 611, 613, 13], 0),
  (6, .ifCond .ne 13, 3, [19], 0),
  (9, .aload_n 0, 1, [0], 0),
  (10, .iload_n 3, 1, [3], 0),
  (11, .iload 4, 2, [4], 0),
  (13, .invokevirtual 135, 3, [0, 124, 2, 10, 0, 611, 613, 13], 0),
  (16, .ifCond .eq 5, 3, [21], 0),
  (19, .iconst (-1), 1, [], (-1)),
  (20, .ireturn, 1, [0], 0),
  (21, .aload_n 0, 1, [0], 0),
  (22, .getfield 47, 3, [10, 6, 0, 0, 0, 267], 0),
  (25, .aload_n 0, 1, [0], 0),
  (26, .getfield 11, 3, [10, 0, 0, 0, 0, 261], 0),
  (29, .iload_n 1, 1, [1], 0),
  (30, .aaload, 1, [], 0),
  (31, .aload_n 0, 1, [0], 0),
  (32, .getfield 11, 3, [10, 0, 0, 0, 0, 261], 0),
  (35, .iload_n 3, 1, [3], 0),
  (36, .aaload, 1, [], 0),
  (37, .invokevirtual 121, 3, [0, 43, 2, 4, 0, 646, 647, 648], 0),
  (40, .pop, 1, [], 0),
  (41, .aload_n 0, 1, [0], 0),
  (42, .getfield 47, 3, [10, 6, 0, 0, 0, 267], 0),
  (45, .iload_n 2, 1, [2], 0),
  (46, .iload 4, 2, [4], 0),
  (48, .invokevirtual 125, 3, [0, 44, 2, 4, 0, 697, 698, 699], 0),
  (51, .ireturn, 1, [0], 0)]
def m_MM_stays : xa_M := (⟨"MayMust", "stays", "(IIII)I"⟩, prog_1_method_10_code, 5, (some .int), t_MM_stays)
abbrev n_MM_stays : Nat := 112
def t_MM_alike : List xa_I := [
  (65535, .nop, 0, [716, 62], 0),
  (0, .iload_n 1, 1, [1], 0),
  (1, .invokestatic 83, 3, [0, 122, 1, 0, 0, 316, 317], 0),
  (4, .ifCond .ne 10, 3, [14], 0),
  (7, .iload_n 2, 1, [2], 0),
  (8, .invokestatic 83, 3, [0, 122, 1, 0, 0, 316, 317], 0),
  (11, .ifCond .eq 5, 3, [16], 0),
  (14, .iconst (-1), 1, [], (-1)),
  (15, .ireturn, 1, [0], 0),
  (16, .aload_n 0, 1, [0], 0),
  (17, .getfield 47, 3, [10, 6, 0, 0, 0, 267], 0),
  (20, .aload_n 0, 1, [0], 0),
  (21, .getfield 11, 3, [10, 0, 0, 0, 0, 261], 0),
  (24, .iload_n 1, 1, [1], 0),
  (25, .aaload, 1, [], 0),
  (26, .aload_n 0, 1, [0], 0),
  (27, .getfield 11, 3, [10, 0, 0, 0, 0, 261], 0),
  (30, .iload_n 2, 1, [2], 0),
  (31, .aaload, 1, [], 0),
  (32, .invokevirtual 121, 3, [0, 43, 2, 4, 0, 646, 647, 648], 0),
  (35, .ifCond .eq 29, 3, [64], 0),
  (38, .aload_n 0, 1, [0], 0),
  (39, .getfield 47, 3, [10, 6, 0, 0, 0, 267], 0),
  (42, .aload_n 0, 1, [0], 0),
  (43, .getfield 11, 3, [10, 0, 0, 0, 0, 261], 0),
  (46, .iload_n 2, 1, [2], 0),
  (47, .aaload, 1, [], 0),
  (48, .aload_n 0, 1, [0], 0),
  (49, .getfield 11, 3, [10, 0, 0, 0, 0, 261], 0),
  (52, .iload_n 1, 1, [1], 0),
  (53, .aaload, 1, [], 0),
  (54, .invokevirtual 121, 3, [0, 43, 2, 4, 0, 646, 647, 648], 0),
  (57, .ifCond .eq 7, 3, [64], 0),
  (60, .iconst 1, 1, [], 1),
  (61, .goto 4, 3, [65], 0),
  (64, .iconst 0, 1, [], 0),
  (65, .ireturn, 1, [0], 0)]
def m_MM_alike : xa_M := (⟨"MayMust", "alike", "(II)I"⟩, prog_1_method_11_code, 3, (some .int), t_MM_alike)
abbrev n_MM_alike : Nat := 113
def t_MM_make : List xa_I := [
  (65535, .nop, 0, [720, 62], 0),
  (0, .iload_n 1, 1, [1], 0),
  (1, .invokestatic 83, 3, [0, 122, 1, 0, 0, 316, 317], 0),
  (4, .ifCond .ne 19, 3, [23], 0),
  (7, .iload_n 3, 1, [3], 0),
  (8, .invokestatic 83, 3, [0, 122, 1, 0, 0, 316, 317], 0),
  (11, .ifCond .ne 12, 3, [23], 0),
  (14, .iload_n 2, 1, [2], 0),
  (15, .ifCond .lt 8, 3, [23], 0),
  (18, .iload_n 2, 1, [2], 0),
  (19, .iconst 2, 1, [], 2),
  (20, .if_icmp .le 5, 3, [25], 0),
  (23, .iconst (-1), 1, [], (-1)),
  (24, .ireturn, 1, [0], 0),
  (25, .iload_n 2, 1, [2], 0),
  (26, .iconst 2, 1, [], 2),
  (27, .if_icmp .ne 47, 3, [74], 0),
  (30, .aload_n 0, 1, [0], 0),
  (31, .getfield 47, 3, [10, 6, 0, 0, 0, 267], 0),
  (34, .aload_n 0, 1, [0], 0),
  (35, .getfield 11, 3, [10, 0, 0, 0, 0, 261], 0),
  (38, .iload_n 1, 1, [1], 0),
  (39, .aaload, 1, [], 0),
  (40, .aload_n 0, 1, [0], 0),
  (41, .getfield 11, 3, [10, 0, 0, 0, 0, 261], 0),
  (44, .iload_n 1, 1, [1], 0),
  (45, .aaload, 1, [], 0),
  (46, .invokevirtual 121, 3, [0, 43, 2, 4, 0, 646, 647, 648], 0),
  (49, .pop, 1, [], 0),
  (50, .aload_n 0, 1, [0], 0),
  (51, .getfield 54, 3, [10, 7, 0, 0, 0, 268], 0),
  (54, .aload_n 0, 1, [0], 0),
  (55, .getfield 11, 3, [10, 0, 0, 0, 0, 261], 0),
  (58, .iload_n 1, 1, [1], 0),
  (59, .aaload, 1, [], 0),
  (60, .aload_n 0, 1, [0], 0),
  (61, .getfield 47, 3, [10, 6, 0, 0, 0, 267], 0),
  (64, .aload_n 0, 1, [0], 0),
  (65, .getfield 16, 3, [10, 1, 0, 0, 0, 262], 0),
  (68, .invokevirtual 139, 3, [0, 68, 3, 6, 0, 721, 722, 723], 0),
  (71, .goto 33, 3, [104], 0),
  (74, .aload_n 0, 1, [0], 0),
  (75, .getfield 16, 3, [10, 1, 0, 0, 0, 262], 0),
  (78, .aload_n 0, 1, [0], 0),
  (79, .getfield 11, 3, [10, 0, 0, 0, 0, 261], 0),
  (82, .iload_n 1, 1, [1], 0),
  (83, .aaload, 1, [], 0),
  (84, .invokevirtual 91, 3, [0, 20, 1, 2, 0, 527, 528, 529], 0),
  (87, .aload_n 0, 1, [0], 0),
  (88, .getfield 16, 3, [10, 1, 0, 0, 0, 262], 0),
  (91, .iload_n 2, 1, [2], 0),
  (92, .iconst 1, 1, [], 1),
  (93, .if_icmp .ne 7, 3, [100], 0),
  (96, .iconst 1, 1, [], 1),
  (97, .goto 4, 3, [101], 0),
  (100, .iconst 0, 1, [], 0),
  (101, .invokevirtual 143, 3, [0, 26, 1, 2, 0, 756, 757, 758], 0),
  (104, .aload_n 0, 1, [0], 0),
  (105, .getfield 11, 3, [10, 0, 0, 0, 0, 261], 0),
  (108, .iload_n 3, 1, [3], 0),
  (109, .aaload, 1, [], 0),
  (110, .aload_n 0, 1, [0], 0),
  (111, .getfield 16, 3, [10, 1, 0, 0, 0, 262], 0),
  (114, .invokevirtual 91, 3, [0, 20, 1, 2, 0, 527, 528, 529], 0),
  (117, .aload_n 0, 1, [0], 0),
  (118, .getfield 16, 3, [10, 1, 0, 0, 0, 262], 0),
  (121, .invokevirtual 102, 3, [0, 17, 0, 2, 0, 585, 517, 518], 0),
  (124, .ireturn, 1, [0], 0)]
def m_MM_make : xa_M := (⟨"MayMust", "make", "(III)I"⟩, prog_1_method_12_code, 4, (some .int), t_MM_make)
abbrev n_MM_make : Nat := 114
def t_MM_join : List xa_I := [
  (65535, .nop, 0, [763, 62], 0),
  (0, .iload_n 1, 1, [1], 0),
  (1, .invokestatic 83, 3, [0, 122, 1, 0, 0, 316, 317], 0),
  (4, .ifCond .ne 27, 3, [31], 0),
  (7, .iload_n 2, 1, [2], 0),
  (8, .invokestatic 83, 3, [0, 122, 1, 0, 0, 316, 317], 0),
  (11, .ifCond .ne 20, 3, [31], 0),
  (14, .iload 4, 2, [4], 0),
  (16, .invokestatic 83, 3, [0, 122, 1, 0, 0, 316, 317], 0),
  (19, .ifCond .ne 12, 3, [31], 0),
  (22, .iload_n 3, 1, [3], 0),
  (23, .ifCond .lt 8, 3, [31], 0),
  (26, .iload_n 3, 1, [3], 0),
  (27, .iconst 1, 1, [], 1),
  (28, .if_icmp .le 5, 3, [33], 0),
  (31, .iconst (-1), 1, [], (-1)),
  (32, .ireturn, 1, [0], 0),
  (33, .aload_n 0, 1, [0], 0),
  (34, .getfield 61, 3, [10, 8, 0, 0, 0, 269], 0),
  (37, .aload_n 0, 1, [0], 0),
  (38, .getfield 11, 3, [10, 0, 0, 0, 0, 261], 0),
  (41, .iload_n 1, 1, [1], 0),
  (42, .aaload, 1, [], 0),
  (43, .aload_n 0, 1, [0], 0),
  (44, .getfield 11, 3, [10, 0, 0, 0, 0, 261], 0),
  (47, .iload_n 2, 1, [2], 0),
  (48, .aaload, 1, [], 0),
  (49, .iload_n 3, 1, [3], 0),
  (50, .iconst 1, 1, [], 1),
  (51, .if_icmp .ne 7, 3, [58], 0),
  (54, .iconst 1, 1, [], 1),
  (55, .goto 4, 3, [59], 0),
  (58, .iconst 0, 1, [], 0),
  (59, .aload_n 0, 1, [0], 0),
  (60, .getfield 16, 3, [10, 1, 0, 0, 0, 262], 0),
  (63, .invokevirtual 147, 3, [0, 1, 4, 0, 0, 764, 765, 766], 0),
  (66, .istore 5, 2, [5], 0),
  (68, .iload 5, 2, [5], 0),
  (70, .ifCond .le 17, 3, [87], 0),
  (73, .aload_n 0, 1, [0], 0),
  (74, .getfield 11, 3, [10, 0, 0, 0, 0, 261], 0),
  (77, .iload 4, 2, [4], 0),
  (79, .aaload, 1, [], 0),
  (80, .aload_n 0, 1, [0], 0),
  (81, .getfield 16, 3, [10, 1, 0, 0, 0, 262], 0),
  (84, .invokevirtual 91, 3, [0, 20, 1, 2, 0, 527, 528, 529], 0),
  (87, .iload 5, 2, [5], 0),
  (89, .ireturn, 1, [0], 0)]
def m_MM_join : xa_M := (⟨"MayMust", "join", "(IIII)I"⟩, prog_1_method_13_code, 6, (some .int), t_MM_join)
abbrev n_MM_join : Nat := 115
def t_MM_value : List xa_I := [
  (65535, .nop, 0, [809, 62], 0),
  (0, .aload_n 0, 1, [0], 0),
  (1, .iload_n 1, 1, [1], 0),
  (2, .iload_n 2, 1, [2], 0),
  (3, .invokevirtual 135, 3, [0, 124, 2, 10, 0, 611, 613, 13], 0),
  (6, .ifCond .eq 5, 3, [11], 0),
  (9, .iconst (-1), 1, [], (-1)),
  (10, .ireturn, 1, [0], 0),
  (11, .aload_n 0, 1, [0], 0),
  (12, .getfield 37, 3, [10, 4, 0, 0, 0, 265], 0),
  (15, .aload_n 0, 1, [0], 0),
  (16, .getfield 11, 3, [10, 0, 0, 0, 0, 261], 0),
  (19, .iload_n 1, 1, [1], 0),
  (20, .aaload, 1, [], 0),
  (21, .invokevirtual 151, 3, [0, 58, 1, 5, 0, 810, 811, 812], 0),
  (24, .iload_n 2, 1, [2], 0),
  (25, .invokestatic 155, 3, [0, 57, 2, 0, 0, 844, 845], 0),
  (28, .ireturn, 1, [0], 0)]
def m_MM_value : xa_M := (⟨"MayMust", "value", "(II)I"⟩, prog_1_method_14_code, 3, (some .int), t_MM_value)
abbrev n_MM_value : Nat := 116
def t_MM_how : List xa_I := [
  (65535, .nop, 0, [851, 62], 0),
  (0, .iload_n 1, 1, [1], 0),
  (1, .invokestatic 83, 3, [0, 122, 1, 0, 0, 316, 317], 0),
  (4, .ifCond .ne 12, 3, [16], 0),
  (7, .iload_n 2, 1, [2], 0),
  (8, .ifCond .lt 8, 3, [16], 0),
  (11, .iload_n 2, 1, [2], 0),
  (12, .iconst 2, 1, [], 2),
  (13, .if_icmp .le 5, 3, [18], 0),
  (16, .iconst (-1), 1, [], (-1)),
  (17, .ireturn, 1, [0], 0),
  (18, .aload_n 0, 1, [0], 0),
  (19, .getfield 37, 3, [10, 4, 0, 0, 0, 265], 0),
  (22, .aload_n 0, 1, [0], 0),
  (23, .getfield 11, 3, [10, 0, 0, 0, 0, 261], 0),
  (26, .iload_n 1, 1, [1], 0),
  (27, .aaload, 1, [], 0),
  (28, .invokevirtual 151, 3, [0, 58, 1, 5, 0, 810, 811, 812], 0),
  (31, .istore_n 3, 1, [3], 0),
  (32, .iconst 0, 1, [], 0),
  (33, .istore 4, 2, [4], 0),
  (35, .iconst 0, 1, [], 0),
  (36, .istore 5, 2, [5], 0),
  (38, .iload 5, 2, [5], 0),
  (40, .aload_n 0, 1, [0], 0),
  (41, .getfield 11, 3, [10, 0, 0, 0, 0, 261], 0),
  (44, .iload_n 1, 1, [1], 0),
  (45, .aaload, 1, [], 0),
  (46, .invokevirtual 102, 3, [0, 17, 0, 2, 0, 585, 517, 518], 0),
  (49, .if_icmp .ge 29, 3, [78], 0),
  (52, .iload 4, 2, [4], 0),
  (54, .iload_n 3, 1, [3], 0),
  (55, .iload 5, 2, [5], 0),
  (57, .invokestatic 155, 3, [0, 57, 2, 0, 0, 844, 845], 0),
  (60, .iload_n 2, 1, [2], 0),
  (61, .if_icmp .ne 7, 3, [68], 0),
  (64, .iconst 1, 1, [], 1),
  (65, .goto 4, 3, [69], 0),
  (68, .iconst 0, 1, [], 0),
  (69, .iadd, 1, [], 0),
  (70, .istore 4, 2, [4], 0),
  (72, .iinc 5 1, 3, [5], 1),
  (75, .goto (-37), 3, [38], 0),
  (78, .iload 4, 2, [4], 0),
  (80, .ireturn, 1, [0], 0)]
def m_MM_how : xa_M := (⟨"MayMust", "how", "(II)I"⟩, prog_1_method_15_code, 6, (some .int), t_MM_how)
abbrev n_MM_how : Nat := 117
def t_MM_begin : List xa_I := [
  (65535, .nop, 0, [855, 62], 0),
  (0, .iload_n 1, 1, [1], 0),
  (1, .invokestatic 83, 3, [0, 122, 1, 0, 0, 316, 317], 0),
  (4, .ifCond .eq 5, 3, [9], 0),
  (7, .iconst (-1), 1, [], (-1)),
  (8, .ireturn, 1, [0], 0),
  (9, .aload_n 0, 1, [0], 0),
  (10, .getfield 68, 3, [10, 9, 0, 0, 0, 270], 0),
  (13, .aload_n 0, 1, [0], 0),
  (14, .getfield 11, 3, [10, 0, 0, 0, 0, 261], 0),
  (17, .iload_n 1, 1, [1], 0),
  (18, .aaload, 1, [], 0),
  (19, .invokevirtual 158, 3, [0, 95, 1, 9, 0, 856, 857, 858], 0),
  (22, .ireturn, 1, [0], 0)]
def m_MM_begin : xa_M := (⟨"MayMust", "begin", "(I)I"⟩, prog_1_method_16_code, 2, (some .int), t_MM_begin)
abbrev n_MM_begin : Nat := 118
def t_MM_go : List xa_I := [
  (65535, .nop, 0, [864, 62], 0),
  (0, .iload_n 1, 1, [1], 0),
  (1, .invokestatic 161, 3, [0, 123, 1, 0, 0, 615, 616], 0),
  (4, .ifCond .eq 5, 3, [9], 0),
  (7, .iconst (-1), 1, [], (-1)),
  (8, .ireturn, 1, [0], 0),
  (9, .aload_n 0, 1, [0], 0),
  (10, .getfield 68, 3, [10, 9, 0, 0, 0, 270], 0),
  (13, .iload_n 1, 1, [1], 0),
  (14, .invokevirtual 164, 3, [0, 98, 1, 9, 0, 865, 866, 867], 0),
  (17, .ireturn, 1, [0], 0)]
def m_MM_go : xa_M := (⟨"MayMust", "go", "(I)I"⟩, prog_1_method_17_code, 2, (some .int), t_MM_go)
abbrev n_MM_go : Nat := 119
def t_MM_walk : List xa_I := [
  (65535, .nop, 0, [879, 62], 0),
  (0, .iload_n 1, 1, [1], 0),
  (1, .ifCond .lt 8, 3, [9], 0),
  (4, .iload_n 1, 1, [1], 0),
  (5, .iconst 3, 1, [], 3),
  (6, .if_icmp .le 5, 3, [11], 0),
  (9, .iconst (-1), 1, [], (-1)),
  (10, .ireturn, 1, [0], 0),
  (11, .iload_n 1, 1, [1], 0),
  (12, .ifCond .ne 11, 3, [23], 0),
  (15, .aload_n 0, 1, [0], 0),
  (16, .getfield 68, 3, [10, 9, 0, 0, 0, 270], 0),
  (19, .invokevirtual 168, 3, [0, 96, 0, 9, 0, 880, 881, 882], 0),
  (22, .ireturn, 1, [0], 0),
  (23, .iload_n 1, 1, [1], 0),
  (24, .iconst 1, 1, [], 1),
  (25, .if_icmp .ne 11, 3, [36], 0),
  (28, .aload_n 0, 1, [0], 0),
  (29, .getfield 68, 3, [10, 9, 0, 0, 0, 270], 0),
  (32, .invokevirtual 171, 3, [0, 99, 0, 9, 0, 884, 885, 886], 0),
  (35, .ireturn, 1, [0], 0),
  (36, .iload_n 1, 1, [1], 0),
  (37, .iconst 2, 1, [], 2),
  (38, .if_icmp .ne 13, 3, [51], 0),
  (41, .aload_n 0, 1, [0], 0),
  (42, .getfield 68, 3, [10, 9, 0, 0, 0, 270], 0),
  (45, .invokevirtual 174, 3, [0, 100, 0, 9, 0, 888, 889, 890], 0),
  (48, .goto 10, 3, [58], 0),
  (51, .aload_n 0, 1, [0], 0),
  (52, .getfield 68, 3, [10, 9, 0, 0, 0, 270], 0),
  (55, .invokevirtual 177, 3, [0, 97, 0, 9, 0, 897, 898, 899], 0),
  (58, .ireturn, 1, [0], 0)]
def m_MM_walk : xa_M := (⟨"MayMust", "walk", "(I)I"⟩, prog_1_method_18_code, 2, (some .int), t_MM_walk)
abbrev n_MM_walk : Nat := 120
def t_MM_count : List xa_I := [
  (65535, .nop, 0, [904, 62], 0),
  (0, .iload_n 1, 1, [1], 0),
  (1, .ifCond .lt 8, 3, [9], 0),
  (4, .iload_n 1, 1, [1], 0),
  (5, .iconst 2, 1, [], 2),
  (6, .if_icmp .le 5, 3, [11], 0),
  (9, .iconst (-1), 1, [], (-1)),
  (10, .ireturn, 1, [0], 0),
  (11, .iload_n 1, 1, [1], 0),
  (12, .ifCond .ne 8, 3, [20], 0),
  (15, .aload_n 0, 1, [0], 0),
  (16, .invokevirtual 180, 3, [0, 126, 0, 10, 0, 905, 907, 32], 0),
  (19, .ireturn, 1, [0], 0),
  (20, .iload_n 1, 1, [1], 0),
  (21, .iconst 1, 1, [], 1),
  (22, .if_icmp .ne 13, 3, [35], 0),
  (25, .aload_n 0, 1, [0], 0),
  (26, .getfield 23, 3, [10, 2, 0, 0, 0, 263], 0),
  (29, .invokevirtual 76, 3, [0, 75, 0, 7, 0, 300, 301, 302], 0),
  (32, .goto 10, 3, [42], 0),
  (35, .aload_n 0, 1, [0], 0),
  (36, .getfield 37, 3, [10, 4, 0, 0, 0, 265], 0),
  (39, .invokevirtual 183, 3, [0, 53, 0, 5, 0, 909, 564, 565], 0),
  (42, .ireturn, 1, [0], 0)]
def m_MM_count : xa_M := (⟨"MayMust", "count", "(I)I"⟩, prog_1_method_19_code, 2, (some .int), t_MM_count)
abbrev n_MM_count : Nat := 121
def t_MM_noPlan : List xa_I := [
  (65535, .nop, 0, [318, 62], 0),
  (0, .iload_n 0, 1, [0], 0),
  (1, .ifCond .lt 9, 3, [10], 0),
  (4, .iload_n 0, 1, [0], 0),
  (5, .bipush 6, 2, [], 6),
  (7, .if_icmp .lt 7, 3, [14], 0),
  (10, .iconst 1, 1, [], 1),
  (11, .goto 4, 3, [15], 0),
  (14, .iconst 0, 1, [], 0),
  (15, .ireturn, 1, [1], 0)]
def m_MM_noPlan : xa_M := (⟨"MayMust", "noPlan", "(I)Z"⟩, prog_1_method_20_code, 1, (some .boolean), t_MM_noPlan)
abbrev n_MM_noPlan : Nat := 122
def t_MM_noLetter : List xa_I := [
  (65535, .nop, 0, [617, 62], 0),
  (0, .iload_n 0, 1, [0], 0),
  (1, .ifCond .lt 8, 3, [9], 0),
  (4, .iload_n 0, 1, [0], 0),
  (5, .iconst 3, 1, [], 3),
  (6, .if_icmp .lt 7, 3, [13], 0),
  (9, .iconst 1, 1, [], 1),
  (10, .goto 4, 3, [14], 0),
  (13, .iconst 0, 1, [], 0),
  (14, .ireturn, 1, [1], 0)]
def m_MM_noLetter : xa_M := (⟨"MayMust", "noLetter", "(I)Z"⟩, prog_1_method_21_code, 1, (some .boolean), t_MM_noLetter)
abbrev n_MM_noLetter : Nat := 123
def t_MM_noState : List xa_I := [
  (65535, .nop, 0, [614, 62], 0),
  (0, .iload_n 1, 1, [1], 0),
  (1, .invokestatic 83, 3, [0, 122, 1, 0, 0, 316, 317], 0),
  (4, .ifCond .ne 20, 3, [24], 0),
  (7, .iload_n 2, 1, [2], 0),
  (8, .ifCond .lt 16, 3, [24], 0),
  (11, .iload_n 2, 1, [2], 0),
  (12, .aload_n 0, 1, [0], 0),
  (13, .getfield 11, 3, [10, 0, 0, 0, 0, 261], 0),
  (16, .iload_n 1, 1, [1], 0),
  (17, .aaload, 1, [], 0),
  (18, .invokevirtual 102, 3, [0, 17, 0, 2, 0, 585, 517, 518], 0),
  (21, .if_icmp .lt 7, 3, [28], 0),
  (24, .iconst 1, 1, [], 1),
  (25, .goto 4, 3, [29], 0),
  (28, .iconst 0, 1, [], 0),
  (29, .ireturn, 1, [1], 0)]
def m_MM_noState : xa_M := (⟨"MayMust", "noState", "(II)Z"⟩, prog_1_method_22_code, 3, (some .boolean), t_MM_noState)
abbrev n_MM_noState : Nat := 124
def t_MM_noArrow : List xa_I := [
  (65535, .nop, 0, [610, 62], 0),
  (0, .aload_n 0, 1, [0], 0),
  (1, .iload_n 1, 1, [1], 0),
  (2, .iload_n 2, 1, [2], 0),
  (3, .invokevirtual 135, 3, [0, 124, 2, 10, 0, 611, 613, 13], 0),
  (6, .ifCond .ne 20, 3, [26], 0),
  (9, .iload_n 3, 1, [3], 0),
  (10, .invokestatic 161, 3, [0, 123, 1, 0, 0, 615, 616], 0),
  (13, .ifCond .ne 13, 3, [26], 0),
  (16, .aload_n 0, 1, [0], 0),
  (17, .iload_n 1, 1, [1], 0),
  (18, .iload 4, 2, [4], 0),
  (20, .invokevirtual 135, 3, [0, 124, 2, 10, 0, 611, 613, 13], 0),
  (23, .ifCond .eq 7, 3, [30], 0),
  (26, .iconst 1, 1, [], 1),
  (27, .goto 4, 3, [31], 0),
  (30, .iconst 0, 1, [], 0),
  (31, .ireturn, 1, [1], 0)]
def m_MM_noArrow : xa_M := (⟨"MayMust", "noArrow", "(IIII)Z"⟩, prog_1_method_23_code, 5, (some .boolean), t_MM_noArrow)
abbrev n_MM_noArrow : Nat := 125
def t_MM_statesOfAll : List xa_I := [
  (65535, .nop, 0, [908, 62], 0),
  (0, .iconst 0, 1, [], 0),
  (1, .istore_n 1, 1, [1], 0),
  (2, .iconst 0, 1, [], 0),
  (3, .istore_n 2, 1, [2], 0),
  (4, .iload_n 2, 1, [2], 0),
  (5, .bipush 6, 2, [], 6),
  (7, .if_icmp .ge 21, 3, [28], 0),
  (10, .iload_n 1, 1, [1], 0),
  (11, .aload_n 0, 1, [0], 0),
  (12, .getfield 11, 3, [10, 0, 0, 0, 0, 261], 0),
  (15, .iload_n 2, 1, [2], 0),
  (16, .aaload, 1, [], 0),
  (17, .invokevirtual 102, 3, [0, 17, 0, 2, 0, 585, 517, 518], 0),
  (20, .iadd, 1, [], 0),
  (21, .istore_n 1, 1, [1], 0),
  (22, .iinc 2 1, 3, [2], 1),
  (25, .goto (-21), 3, [4], 0),
  (28, .iload_n 1, 1, [1], 0),
  (29, .ireturn, 1, [0], 0)]
def m_MM_statesOfAll : xa_M := (⟨"MayMust", "statesOfAll", "()I"⟩, prog_1_method_24_code, 3, (some .int), t_MM_statesOfAll)
abbrev n_MM_statesOfAll : Nat := 126
def t_MM_inSet : List xa_I := [
  (65535, .nop, 0, [628, 62], 0),
  (0, .iload_n 0, 1, [0], 0),
  (1, .iload_n 1, 1, [1], 0),
  (2, .ishr, 1, [], 0),
  (3, .iconst 1, 1, [], 1),
  (4, .iand, 1, [], 0),
  (5, .ifCond .eq 7, 3, [12], 0),
  (8, .iconst 1, 1, [], 1),
  (9, .goto 4, 3, [13], 0),
  (12, .iconst 0, 1, [], 0),
  (13, .ireturn, 1, [1], 0)]
def m_MM_inSet : xa_M := (⟨"MayMust", "inSet", "(II)Z"⟩, prog_1_method_25_code, 2, (some .boolean), t_MM_inSet)
abbrev n_MM_inSet : Nat := 127
def t_Mo_init : List xa_I := [
  (65535, .nop, 0, [914, 73], 0),
  (0, .aload_n 0, 1, [0], 0),
  (1, .invokespecial 1, 3, [9, 0, 0, 0, 0, 915, 89, 90], 0),
  (4, .aload_n 0, 1, [0], 0),
  (5, .sipush 864, 3, [], 864),
  (8, .newarray .int, 2, [0, 0, 0, 0, 0, 108], 0),
  (10, .putfield 7, 3, [11, 1, 1, 0, 0, 917], 0),
  (13, .aload_n 0, 1, [0], 0),
  (14, .bipush 8, 2, [], 8),
  (16, .newarray .int, 2, [0, 0, 0, 0, 0, 108], 0),
  (18, .putfield 13, 3, [11, 2, 1, 0, 0, 918], 0),
  (21, .aload_n 0, 1, [0], 0),
  (22, .sipush 300, 3, [], 300),
  (25, .newarray .int, 2, [0, 0, 0, 0, 0, 108], 0),
  (27, .putfield 16, 3, [11, 3, 1, 0, 0, 919], 0),
  (30, .aload_n 0, 1, [0], 0),
  (31, .sipush 320, 3, [], 320),
  (34, .newarray .int, 2, [0, 0, 0, 0, 0, 108], 0),
  (36, .putfield 19, 3, [11, 10, 1, 0, 0, 926], 0),
  (39, .aload_n 0, 1, [0], 0),
  (40, .sipush 320, 3, [], 320),
  (43, .newarray .int, 2, [0, 0, 0, 0, 0, 108], 0),
  (45, .putfield 22, 3, [11, 11, 1, 0, 0, 927], 0),
  (48, .aload_n 0, 1, [0], 0),
  (49, .bipush 64, 2, [], 64),
  (51, .newarray .int, 2, [0, 0, 0, 0, 0, 108], 0),
  (53, .putfield 25, 3, [11, 16, 1, 0, 0, 932], 0),
  (56, .aload_n 0, 1, [0], 0),
  (57, .sipush 180, 3, [], 180),
  (60, .newarray .int, 2, [0, 0, 0, 0, 0, 108], 0),
  (62, .putfield 28, 3, [11, 19, 1, 0, 0, 935], 0),
  (65, .aload_n 0, 1, [0], 0),
  (66, .bipush 36, 2, [], 36),
  (68, .newarray .int, 2, [0, 0, 0, 0, 0, 108], 0),
  (70, .putfield 31, 3, [11, 20, 1, 0, 0, 936], 0),
  (73, .aload_n 0, 1, [0], 0),
  (74, .bipush 36, 2, [], 36),
  (76, .newarray .int, 2, [0, 0, 0, 0, 0, 108], 0),
  (78, .putfield 34, 3, [11, 21, 1, 0, 0, 937], 0),
  (81, .aload_n 0, 1, [0], 0),
  (82, .bipush 36, 2, [], 36),
  (84, .newarray .int, 2, [0, 0, 0, 0, 0, 108], 0),
  (86, .putfield 37, 3, [11, 22, 1, 0, 0, 938], 0),
  (89, .aload_n 0, 1, [0], 0),
  (90, .iconst 1, 1, [], 1),
  (91, .putfield 40, 3, [11, 23, 0, 0, 0, 939], 0),
  (94, .iconst 0, 1, [], 0),
  (95, .istore_n 1, 1, [1], 0),
  (96, .iload_n 1, 1, [1], 0),
  (97, .bipush 8, 2, [], 8),
  (99, .if_icmp .ge 16, 3, [115], 0),
  (102, .aload_n 0, 1, [0], 0),
  (103, .getfield 13, 3, [11, 2, 0, 0, 0, 918], 0),
  (106, .iload_n 1, 1, [1], 0),
  (107, .iconst 1, 1, [], 1),
  (108, .iastore, 1, [], 0),
  (109, .iinc 1 1, 3, [1], 1),
  (112, .goto (-16), 3, [96], 0),
  (115, .aload_n 0, 1, [0], 0),
  (116, .getfield 19, 3, [11, 10, 0, 0, 0, 926], 0),
  (119, .iconst 0, 1, [], 0),
  (120, .iconst 1, 1, [], 1),
  (121, .iastore, 1, [], 0),
  (122, .aload_n 0, 1, [0], 0),
  (123, .iconst 1, 1, [], 1),
  (124, .putfield 44, 3, [11, 12, 0, 0, 0, 928], 0),
  (127, .aload_n 0, 1, [0], 0),
  (128, .iconst 1, 1, [], 1),
  (129, .putfield 47, 3, [11, 14, 0, 0, 0, 930], 0),
  (132, .return_, 1, [], 0)]
def m_Mo_init : xa_M := (⟨"MayMustModel", "<init>", "()V"⟩, prog_13_method_1_code, 2, none, t_Mo_init)
abbrev n_Mo_init : Nat := 128
def t_Mo_in : List xa_I := [
  (65535, .nop, 0, [998, 73], 0),
  (0, .iload_n 0, 1, [0], 0),
  (1, .iload_n 1, 1, [1], 0),
  (2, .if_icmp .lt 12, 3, [14], 0),
  (5, .iload_n 0, 1, [0], 0),
  (6, .iload_n 2, 1, [2], 0),
  (7, .if_icmp .gt 7, 3, [14], 0),
  (10, .iconst 1, 1, [], 1),
  (11, .goto 4, 3, [15], 0),
  (14, .iconst 0, 1, [], 0),
  (15, .ireturn, 1, [1], 0)]
def m_Mo_in : xa_M := (⟨"MayMustModel", "in", "(III)Z"⟩, prog_13_method_3_code, 3, (some .boolean), t_Mo_in)
abbrev n_Mo_in : Nat := 129
def t_Mo_isPlan : List xa_I := [
  (65535, .nop, 0, [1010, 73], 0),
  (0, .iload_n 0, 1, [0], 0),
  (1, .iconst 0, 1, [], 0),
  (2, .iconst 5, 1, [], 5),
  (3, .invokestatic 53, 3, [0, 129, 3, 0, 0, 996, 997], 0),
  (6, .ireturn, 1, [1], 0)]
def m_Mo_isPlan : xa_M := (⟨"MayMustModel", "isPlan", "(I)Z"⟩, prog_13_method_4_code, 1, (some .boolean), t_Mo_isPlan)
abbrev n_Mo_isPlan : Nat := 130
def t_Mo_isState : List xa_I := [
  (65535, .nop, 0, [1093, 73], 0),
  (0, .iload_n 1, 1, [1], 0),
  (1, .invokestatic 57, 3, [0, 130, 1, 0, 0, 1008, 1009], 0),
  (4, .ifCond .eq 23, 3, [27], 0),
  (7, .iload_n 2, 1, [2], 0),
  (8, .iconst 0, 1, [], 0),
  (9, .aload_n 0, 1, [0], 0),
  (10, .getfield 13, 3, [11, 2, 0, 0, 0, 918], 0),
  (13, .iload_n 1, 1, [1], 0),
  (14, .iaload, 1, [], 0),
  (15, .iconst 1, 1, [], 1),
  (16, .isub, 1, [], 0),
  (17, .invokestatic 53, 3, [0, 129, 3, 0, 0, 996, 997], 0),
  (20, .ifCond .eq 7, 3, [27], 0),
  (23, .iconst 1, 1, [], 1),
  (24, .goto 4, 3, [28], 0),
  (27, .iconst 0, 1, [], 0),
  (28, .ireturn, 1, [1], 0)]
def m_Mo_isState : xa_M := (⟨"MayMustModel", "isState", "(II)Z"⟩, prog_13_method_5_code, 3, (some .boolean), t_Mo_isState)
abbrev n_Mo_isState : Nat := 131
def t_Mo_at : List xa_I := [
  (65535, .nop, 0, [1049, 73], 0),
  (0, .bipush 108, 2, [], 108),
  (2, .iload_n 0, 1, [0], 0),
  (3, .imul, 1, [], 0),
  (4, .bipush 18, 2, [], 18),
  (6, .iload_n 1, 1, [1], 0),
  (7, .imul, 1, [], 0),
  (8, .iadd, 1, [], 0),
  (9, .bipush 6, 2, [], 6),
  (11, .iload_n 2, 1, [2], 0),
  (12, .imul, 1, [], 0),
  (13, .iadd, 1, [], 0),
  (14, .iload_n 3, 1, [3], 0),
  (15, .iadd, 1, [], 0),
  (16, .ireturn, 1, [0], 0)]
def m_Mo_at : xa_M := (⟨"MayMustModel", "at", "(IIII)I"⟩, prog_13_method_6_code, 4, (some .int), t_Mo_at)
abbrev n_Mo_at : Nat := 132
def t_Mo_of : List xa_I := [
  (65535, .nop, 0, [1097, 73], 0),
  (0, .aload_n 0, 1, [0], 0),
  (1, .getfield 7, 3, [11, 1, 0, 0, 0, 917], 0),
  (4, .iload_n 1, 1, [1], 0),
  (5, .iload_n 2, 1, [2], 0),
  (6, .iload_n 3, 1, [3], 0),
  (7, .iload 4, 2, [4], 0),
  (9, .invokestatic 61, 3, [0, 132, 4, 0, 0, 1047, 1048], 0),
  (12, .iaload, 1, [], 0),
  (13, .ireturn, 1, [0], 0)]
def m_Mo_of : xa_M := (⟨"MayMustModel", "of", "(IIII)I"⟩, prog_13_method_7_code, 5, (some .int), t_Mo_of)
abbrev n_Mo_of : Nat := 133
def t_Mo_empties : List xa_I := [
  (65535, .nop, 0, [1046, 73], 0),
  (0, .iconst 0, 1, [], 0),
  (1, .istore_n 3, 1, [3], 0),
  (2, .iload_n 3, 1, [3], 0),
  (3, .bipush 108, 2, [], 108),
  (5, .if_icmp .ge 21, 3, [26], 0),
  (8, .aload_n 0, 1, [0], 0),
  (9, .getfield 7, 3, [11, 1, 0, 0, 0, 917], 0),
  (12, .bipush 108, 2, [], 108),
  (14, .iload_n 1, 1, [1], 0),
  (15, .imul, 1, [], 0),
  (16, .iload_n 3, 1, [3], 0),
  (17, .iadd, 1, [], 0),
  (18, .iconst 0, 1, [], 0),
  (19, .iastore, 1, [], 0),
  (20, .iinc 3 1, 3, [3], 1),
  (23, .goto (-21), 3, [2], 0),
  (26, .aload_n 0, 1, [0], 0),
  (27, .getfield 13, 3, [11, 2, 0, 0, 0, 918], 0),
  (30, .iload_n 1, 1, [1], 0),
  (31, .iload_n 2, 1, [2], 0),
  (32, .iastore, 1, [], 0),
  (33, .return_, 1, [], 0)]
def m_Mo_empties : xa_M := (⟨"MayMustModel", "empties", "(II)V"⟩, prog_13_method_8_code, 4, none, t_Mo_empties)
abbrev n_Mo_empties : Nat := 134
def t_Mo_copies : List xa_I := [
  (65535, .nop, 0, [1053, 73], 0),
  (0, .iconst 0, 1, [], 0),
  (1, .istore_n 3, 1, [3], 0),
  (2, .iload_n 3, 1, [3], 0),
  (3, .bipush 108, 2, [], 108),
  (5, .if_icmp .ge 31, 3, [36], 0),
  (8, .aload_n 0, 1, [0], 0),
  (9, .getfield 7, 3, [11, 1, 0, 0, 0, 917], 0),
  (12, .bipush 108, 2, [], 108),
  (14, .iload_n 2, 1, [2], 0),
  (15, .imul, 1, [], 0),
  (16, .iload_n 3, 1, [3], 0),
  (17, .iadd, 1, [], 0),
  (18, .aload_n 0, 1, [0], 0),
  (19, .getfield 7, 3, [11, 1, 0, 0, 0, 917], 0),
  (22, .bipush 108, 2, [], 108),
  (24, .iload_n 1, 1, [1], 0),
  (25, .imul, 1, [], 0),
  (26, .iload_n 3, 1, [3], 0),
  (27, .iadd, 1, [], 0),
  (28, .iaload, 1, [], 0),
  (29, .iastore, 1, [], 0),
  (30, .iinc 3 1, 3, [3], 1),
  (33, .goto (-31), 3, [2], 0),
  (36, .aload_n 0, 1, [0], 0),
  (37, .getfield 13, 3, [11, 2, 0, 0, 0, 918], 0),
  (40, .iload_n 2, 1, [2], 0),
  (41, .aload_n 0, 1, [0], 0),
  (42, .getfield 13, 3, [11, 2, 0, 0, 0, 918], 0),
  (45, .iload_n 1, 1, [1], 0),
  (46, .iaload, 1, [], 0),
  (47, .iastore, 1, [], 0),
  (48, .return_, 1, [], 0)]
def m_Mo_copies : xa_M := (⟨"MayMustModel", "copies", "(II)V"⟩, prog_13_method_9_code, 4, none, t_Mo_copies)
abbrev n_Mo_copies : Nat := 135
def t_Mo_type : List xa_I := [
  (65535, .nop, 0, [995, 73], 0),
  (0, .aload_n 0, 1, [0], 0),
  (1, .iconst 0, 1, [], 0),
  (2, .putfield 50, 3, [11, 0, 0, 0, 0, 916], 0),
  (5, .iload_n 3, 1, [3], 0),
  (6, .iconst 1, 1, [], 1),
  (7, .bipush 8, 2, [], 8),
  (9, .invokestatic 53, 3, [0, 129, 3, 0, 0, 996, 997], 0),
  (12, .ifCond .ne 5, 3, [17], 0),
  (15, .iconst (-1), 1, [], (-1)),
  (16, .ireturn, 1, [0], 0),
  (17, .aload_n 0, 1, [0], 0),
  (18, .getfield 65, 3, [11, 4, 0, 0, 0, 920], 0),
  (21, .iload_n 3, 1, [3], 0),
  (22, .iadd, 1, [], 0),
  (23, .sipush 300, 3, [], 300),
  (26, .if_icmp .le 6, 3, [32], 0),
  (29, .bipush (-3), 2, [], (-3)),
  (31, .ireturn, 1, [0], 0),
  (32, .iload_n 3, 1, [3], 0),
  (33, .iconst 1, 1, [], 1),
  (34, .isub, 1, [], 0),
  (35, .istore 4, 2, [4], 0),
  (37, .iload 4, 2, [4], 0),
  (39, .ifCond .lt 40, 3, [79], 0),
  (42, .aload_n 0, 1, [0], 0),
  (43, .getfield 16, 3, [11, 3, 0, 0, 0, 919], 0),
  (46, .aload_n 0, 1, [0], 0),
  (47, .getfield 65, 3, [11, 4, 0, 0, 0, 920], 0),
  (50, .lload_n 1, 1, [1], 0),
  (51, .bipush 8, 2, [], 8),
  (53, .iload 4, 2, [4], 0),
  (55, .imul, 1, [], 0),
  (56, .lshr, 1, [], 0),
  (57, .ldc2_w 68, 3, [255, 0, 0, 0, 0, 999], 0),
  (60, .land, 1, [], 0),
  (61, .l2i, 1, [], 0),
  (62, .iastore, 1, [], 0),
  (63, .aload_n 0, 1, [0], 0),
  (64, .dup, 1, [], 0),
  (65, .getfield 65, 3, [11, 4, 0, 0, 0, 920], 0),
  (68, .iconst 1, 1, [], 1),
  (69, .iadd, 1, [], 0),
  (70, .putfield 65, 3, [11, 4, 0, 0, 0, 920], 0),
  (73, .iinc 4 (-1), 3, [4], (-1)),
  (76, .goto (-39), 3, [37], 0),
  (79, .aload_n 0, 1, [0], 0),
  (80, .getfield 65, 3, [11, 4, 0, 0, 0, 920], 0),
  (83, .ireturn, 1, [0], 0)]
def m_Mo_type : xa_M := (⟨"MayMustModel", "type", "(JI)I"⟩, prog_13_method_10_code, 5, (some .int), t_Mo_type)
abbrev n_Mo_type : Nat := 136
def t_Mo_clear : List xa_I := [
  (65535, .nop, 0, [1003, 73], 0),
  (0, .aload_n 0, 1, [0], 0),
  (1, .iconst 0, 1, [], 0),
  (2, .putfield 50, 3, [11, 0, 0, 0, 0, 916], 0),
  (5, .aload_n 0, 1, [0], 0),
  (6, .getfield 65, 3, [11, 4, 0, 0, 0, 920], 0),
  (9, .istore_n 1, 1, [1], 0),
  (10, .aload_n 0, 1, [0], 0),
  (11, .iconst 0, 1, [], 0),
  (12, .putfield 65, 3, [11, 4, 0, 0, 0, 920], 0),
  (15, .iload_n 1, 1, [1], 0),
  (16, .ireturn, 1, [0], 0)]
def m_Mo_clear : xa_M := (⟨"MayMustModel", "clear", "()I"⟩, prog_13_method_11_code, 2, (some .int), t_Mo_clear)
abbrev n_Mo_clear : Nat := 137
def t_Mo_byteAt : List xa_I := [
  (65535, .nop, 0, [1022, 73], 0),
  (0, .iload_n 1, 1, [1], 0),
  (1, .aload_n 0, 1, [0], 0),
  (2, .getfield 65, 3, [11, 4, 0, 0, 0, 920], 0),
  (5, .if_icmp .ge 12, 3, [17], 0),
  (8, .aload_n 0, 1, [0], 0),
  (9, .getfield 16, 3, [11, 3, 0, 0, 0, 919], 0),
  (12, .iload_n 1, 1, [1], 0),
  (13, .iaload, 1, [], 0),
  (14, .goto 4, 3, [18], 0),
  (17, .iconst (-1), 1, [], (-1)),
  (18, .ireturn, 1, [0], 0)]
def m_Mo_byteAt : xa_M := (⟨"MayMustModel", "byteAt", "(I)I"⟩, prog_13_method_12_code, 2, (some .int), t_Mo_byteAt)
abbrev n_Mo_byteAt : Nat := 138
def t_Mo_isWord : List xa_I := [
  (65535, .nop, 0, [1030, 73], 0),
  (0, .aload_n 0, 1, [0], 0),
  (1, .iload_n 1, 1, [1], 0),
  (2, .invokevirtual 70, 3, [0, 138, 1, 11, 0, 1019, 1021, 35], 0),
  (5, .iload_n 2, 1, [2], 0),
  (6, .if_icmp .ne 30, 3, [36], 0),
  (9, .aload_n 0, 1, [0], 0),
  (10, .iload_n 1, 1, [1], 0),
  (11, .iconst 1, 1, [], 1),
  (12, .iadd, 1, [], 0),
  (13, .invokevirtual 70, 3, [0, 138, 1, 11, 0, 1019, 1021, 35], 0),
  (16, .iload_n 3, 1, [3], 0),
  (17, .if_icmp .ne 19, 3, [36], 0),
  (20, .aload_n 0, 1, [0], 0),
  (21, .iload_n 1, 1, [1], 0),
  (22, .iconst 2, 1, [], 2),
  (23, .iadd, 1, [], 0),
  (24, .invokevirtual 70, 3, [0, 138, 1, 11, 0, 1019, 1021, 35], 0),
  (27, .iload 4, 2, [4], 0),
  (29, .if_icmp .ne 7, 3, [36], 0),
  (32, .iconst 1, 1, [], 1),
  (33, .goto 4, 3, [37], 0),
  (36, .iconst 0, 1, [], 0),
  (37, .ireturn, 1, [1], 0)]
def m_Mo_isWord : xa_M := (⟨"MayMustModel", "isWord", "(IIII)Z"⟩, prog_13_method_13_code, 5, (some .boolean), t_Mo_isWord)
abbrev n_Mo_isWord : Nat := 139
def t_Mo_words : List xa_I := [
  (65535, .nop, 0, [1026, 73], 0),
  (0, .aload_n 0, 1, [0], 0),
  (1, .getfield 16, 3, [11, 3, 0, 0, 0, 919], 0),
  (4, .aload_n 0, 1, [0], 0),
  (5, .getfield 74, 3, [11, 7, 0, 0, 0, 923], 0),
  (8, .iaload, 1, [], 0),
  (9, .istore_n 2, 1, [2], 0),
  (10, .aload_n 0, 1, [0], 0),
  (11, .bipush 7, 2, [], 7),
  (13, .putfield 77, 3, [11, 6, 0, 0, 0, 922], 0),
  (16, .iload_n 1, 1, [1], 0),
  (17, .iconst 1, 1, [], 1),
  (18, .if_icmp .ne 25, 3, [43], 0),
  (21, .iload_n 2, 1, [2], 0),
  (22, .bipush 100, 2, [], 100),
  (24, .if_icmp .ge 19, 3, [43], 0),
  (27, .aload_n 0, 1, [0], 0),
  (28, .iconst 1, 1, [], 1),
  (29, .putfield 77, 3, [11, 6, 0, 0, 0, 922], 0),
  (32, .aload_n 0, 1, [0], 0),
  (33, .iload_n 2, 1, [2], 0),
  (34, .bipush 97, 2, [], 97),
  (36, .isub, 1, [], 0),
  (37, .putfield 80, 3, [11, 8, 0, 0, 0, 924], 0),
  (40, .goto 125, 3, [165], 0),
  (43, .iload_n 1, 1, [1], 0),
  (44, .iconst 3, 1, [], 3),
  (45, .if_icmp .ne 28, 3, [73], 0),
  (48, .aload_n 0, 1, [0], 0),
  (49, .aload_n 0, 1, [0], 0),
  (50, .getfield 74, 3, [11, 7, 0, 0, 0, 923], 0),
  (53, .bipush 109, 2, [], 109),
  (55, .bipush 97, 2, [], 97),
  (57, .bipush 121, 2, [], 121),
  (59, .invokevirtual 83, 3, [0, 139, 4, 11, 0, 1027, 1029, 37], 0),
  (62, .ifCond .eq 11, 3, [73], 0),
  (65, .aload_n 0, 1, [0], 0),
  (66, .iconst 3, 1, [], 3),
  (67, .putfield 77, 3, [11, 6, 0, 0, 0, 922], 0),
  (70, .goto 95, 3, [165], 0),
  (73, .iload_n 1, 1, [1], 0),
  (74, .iconst 4, 1, [], 4),
  (75, .if_icmp .ne 43, 3, [118], 0),
  (78, .aload_n 0, 1, [0], 0),
  (79, .aload_n 0, 1, [0], 0),
  (80, .getfield 74, 3, [11, 7, 0, 0, 0, 923], 0),
  (83, .bipush 109, 2, [], 109),
  (85, .bipush 117, 2, [], 117),
  (87, .bipush 115, 2, [], 115),
  (89, .invokevirtual 83, 3, [0, 139, 4, 11, 0, 1027, 1029, 37], 0),
  (92, .ifCond .eq 26, 3, [118], 0),
  (95, .aload_n 0, 1, [0], 0),
  (96, .aload_n 0, 1, [0], 0),
  (97, .getfield 74, 3, [11, 7, 0, 0, 0, 923], 0),
  (100, .iconst 3, 1, [], 3),
  (101, .iadd, 1, [], 0),
  (102, .invokevirtual 70, 3, [0, 138, 1, 11, 0, 1019, 1021, 35], 0),
  (105, .bipush 116, 2, [], 116),
  (107, .if_icmp .ne 11, 3, [118], 0),
  (110, .aload_n 0, 1, [0], 0),
  (111, .iconst 4, 1, [], 4),
  (112, .putfield 77, 3, [11, 6, 0, 0, 0, 922], 0),
  (115, .goto 50, 3, [165], 0),
  (118, .iload_n 1, 1, [1], 0),
  (119, .bipush 6, 2, [], 6),
  (121, .if_icmp .ne 44, 3, [165], 0),
  (124, .aload_n 0, 1, [0], 0),
  (125, .aload_n 0, 1, [0], 0),
  (126, .getfield 74, 3, [11, 7, 0, 0, 0, 923], 0),
  (129, .bipush 115, 2, [], 115),
  (131, .bipush 116, 2, [], 116),
  (133, .bipush 97, 2, [], 97),
  (135, .invokevirtual 83, 3, [0, 139, 4, 11, 0, 1027, 1029, 37], 0),
  (138, .ifCond .eq 27, 3, [165], 0),
  (141, .aload_n 0, 1, [0], 0),
  (142, .aload_n 0, 1, [0], 0),
  (143, .getfield 74, 3, [11, 7, 0, 0, 0, 923], 0),
  (146, .iconst 3, 1, [], 3),
  (147, .iadd, 1, [], 0),
  (148, .bipush 116, 2, [], 116),
  (150, .bipush 101, 2, [], 101),
  (152, .bipush 115, 2, [], 115),
  (154, .invokevirtual 83, 3, [0, 139, 4, 11, 0, 1027, 1029, 37], 0),
  (157, .ifCond .eq 8, 3, [165], 0),
  (160, .aload_n 0, 1, [0], 0),
  (161, .iconst 2, 1, [], 2),
  (162, .putfield 77, 3, [11, 6, 0, 0, 0, 922], 0),
  (165, .return_, 1, [], 0)]
def m_Mo_words : xa_M := (⟨"MayMustModel", "words", "(I)V"⟩, prog_13_method_14_code, 3, none, t_Mo_words)
abbrev n_Mo_words : Nat := 140
def t_Mo_advances : List xa_I := [
  (65535, .nop, 0, [1018, 73], 0),
  (0, .aload_n 0, 1, [0], 0),
  (1, .aload_n 0, 1, [0], 0),
  (2, .getfield 87, 3, [11, 5, 0, 0, 0, 921], 0),
  (5, .invokevirtual 70, 3, [0, 138, 1, 11, 0, 1019, 1021, 35], 0),
  (8, .bipush 32, 2, [], 32),
  (10, .if_icmp .ne 16, 3, [26], 0),
  (13, .aload_n 0, 1, [0], 0),
  (14, .dup, 1, [], 0),
  (15, .getfield 87, 3, [11, 5, 0, 0, 0, 921], 0),
  (18, .iconst 1, 1, [], 1),
  (19, .iadd, 1, [], 0),
  (20, .putfield 87, 3, [11, 5, 0, 0, 0, 921], 0),
  (23, .goto (-23), 3, [0], 0),
  (26, .aload_n 0, 1, [0], 0),
  (27, .aload_n 0, 1, [0], 0),
  (28, .getfield 87, 3, [11, 5, 0, 0, 0, 921], 0),
  (31, .putfield 74, 3, [11, 7, 0, 0, 0, 923], 0),
  (34, .aload_n 0, 1, [0], 0),
  (35, .aload_n 0, 1, [0], 0),
  (36, .getfield 87, 3, [11, 5, 0, 0, 0, 921], 0),
  (39, .invokevirtual 70, 3, [0, 138, 1, 11, 0, 1019, 1021, 35], 0),
  (42, .istore_n 1, 1, [1], 0),
  (43, .iload_n 1, 1, [1], 0),
  (44, .ifCond .ge 11, 3, [55], 0),
  (47, .aload_n 0, 1, [0], 0),
  (48, .iconst 0, 1, [], 0),
  (49, .putfield 77, 3, [11, 6, 0, 0, 0, 922], 0),
  (52, .goto 284, 3, [336], 0),
  (55, .iload_n 1, 1, [1], 0),
  (56, .bipush 97, 2, [], 97),
  (58, .bipush 122, 2, [], 122),
  (60, .invokestatic 53, 3, [0, 129, 3, 0, 0, 996, 997], 0),
  (63, .ifCond .eq 50, 3, [113], 0),
  (66, .aload_n 0, 1, [0], 0),
  (67, .aload_n 0, 1, [0], 0),
  (68, .getfield 87, 3, [11, 5, 0, 0, 0, 921], 0),
  (71, .invokevirtual 70, 3, [0, 138, 1, 11, 0, 1019, 1021, 35], 0),
  (74, .bipush 97, 2, [], 97),
  (76, .bipush 122, 2, [], 122),
  (78, .invokestatic 53, 3, [0, 129, 3, 0, 0, 996, 997], 0),
  (81, .ifCond .eq 16, 3, [97], 0),
  (84, .aload_n 0, 1, [0], 0),
  (85, .dup, 1, [], 0),
  (86, .getfield 87, 3, [11, 5, 0, 0, 0, 921], 0),
  (89, .iconst 1, 1, [], 1),
  (90, .iadd, 1, [], 0),
  (91, .putfield 87, 3, [11, 5, 0, 0, 0, 921], 0),
  (94, .goto (-28), 3, [66], 0),
  (97, .aload_n 0, 1, [0], 0),
  (98, .aload_n 0, 1, [0], 0),
  (99, .getfield 87, 3, [11, 5, 0, 0, 0, 921], 0),
  (102, .aload_n 0, 1, [0], 0),
  (103, .getfield 74, 3, [11, 7, 0, 0, 0, 923], 0),
  (106, .isub, 1, [], 0),
  (107, .invokevirtual 90, 3, [0, 140, 1, 11, 0, 1023, 1025, 36], 0),
  (110, .goto 226, 3, [336], 0),
  (113, .iload_n 1, 1, [1], 0),
  (114, .bipush 48, 2, [], 48),
  (116, .bipush 57, 2, [], 57),
  (118, .invokestatic 53, 3, [0, 129, 3, 0, 0, 996, 997], 0),
  (121, .ifCond .eq 119, 3, [240], 0),
  (124, .aload_n 0, 1, [0], 0),
  (125, .iconst 0, 1, [], 0),
  (126, .putfield 80, 3, [11, 8, 0, 0, 0, 924], 0),
  (129, .aload_n 0, 1, [0], 0),
  (130, .aload_n 0, 1, [0], 0),
  (131, .getfield 87, 3, [11, 5, 0, 0, 0, 921], 0),
  (134, .invokevirtual 70, 3, [0, 138, 1, 11, 0, 1019, 1021, 35], 0),
  (137, .bipush 48, 2, [], 48),
  (139, .bipush 57, 2, [], 57),
  (141, .invokestatic 53, 3, [0, 129, 3, 0, 0, 996, 997], 0),
  (144, .ifCond .eq 55, 3, [199], 0),
  (147, .aload_n 0, 1, [0], 0),
  (148, .aload_n 0, 1, [0], 0),
  (149, .getfield 80, 3, [11, 8, 0, 0, 0, 924], 0),
  (152, .bipush 99, 2, [], 99),
  (154, .if_icmp .le 10, 3, [164], 0),
  (157, .aload_n 0, 1, [0], 0),
  (158, .getfield 80, 3, [11, 8, 0, 0, 0, 924], 0),
  (161, .goto 22, 3, [183], 0),
  (164, .bipush 10, 2, [], 10),
  (166, .aload_n 0, 1, [0], 0),
  (167, .getfield 80, 3, [11, 8, 0, 0, 0, 924], 0),
  (170, .imul, 1, [], 0),
  (171, .aload_n 0, 1, [0], 0),
  (172, .aload_n 0, 1, [0], 0),
  (173, .getfield 87, 3, [11, 5, 0, 0, 0, 921], 0),
  (176, .invokevirtual 70, 3, [0, 138, 1, 11, 0, 1019, 1021, 35], 0),
  (179, .iadd, 1, [], 0),
  (180, .bipush 48, 2, [], 48),
  (182, .isub, 1, [], 0),
  (183, .putfield 80, 3, [11, 8, 0, 0, 0, 924], 0),
  (186, .aload_n 0, 1, [0], 0),
  (187, .dup, 1, [], 0),
  (188, .getfield 87, 3, [11, 5, 0, 0, 0, 921], 0),
  (191, .iconst 1, 1, [], 1),
  (192, .iadd, 1, [], 0),
  (193, .putfield 87, 3, [11, 5, 0, 0, 0, 921], 0),
  (196, .goto (-67), 3, [129], 0),
  (199, .aload_n 0, 1, [0], 0),
  (200, .aload_n 0, 1, [0], 0),
  (201, .getfield 80, 3, [11, 8, 0, 0, 0, 924], 0),
  (204, .bipush 99, 2, [], 99),
  (206, .if_icmp .gt 22, 3, [228], 0),
  (209, .iload_n 1, 1, [1], 0),
  (210, .bipush 48, 2, [], 48),
  (212, .if_icmp .ne 21, 3, [233], 0),
  (215, .aload_n 0, 1, [0], 0),
  (216, .getfield 87, 3, [11, 5, 0, 0, 0, 921], 0),
  (219, .aload_n 0, 1, [0], 0),
  (220, .getfield 74, 3, [11, 7, 0, 0, 0, 923], 0),
  (223, .isub, 1, [], 0),
  (224, .iconst 1, 1, [], 1),
  (225, .if_icmp .le 8, 3, [233], 0),
  (228, .bipush 7, 2, [], 7),
  (230, .goto 4, 3, [234], 0),
  (233, .iconst 5, 1, [], 5),
  (234, .putfield 77, 3, [11, 6, 0, 0, 0, 922], 0),
  (237, .goto 99, 3, [336], 0),
  (240, .aload_n 0, 1, [0], 0),
  (241, .dup, 1, [], 0),
  (242, .getfield 87, 3, [11, 5, 0, 0, 0, 921], 0),
  (245, .iconst 1, 1, [], 1),
  (246, .iadd, 1, [], 0),
  (247, .putfield 87, 3, [11, 5, 0, 0, 0, 921], 0),
  (250, .aload_n 0, 1, [0], 0),
  (251, .iload_n 1, 1, [1], 0),
  (252, .putfield 80, 3, [11, 8, 0, 0, 0, 924], 0),
  (255, .iload_n 1, 1, [1], 0),
  (256, .bipush 59, 2, [], 59),
  (258, .if_icmp .eq 57, 3, [315], 0),
  (261, .iload_n 1, 1, [1], 0),
  (262, .bipush 124, 2, [], 124),
  (264, .if_icmp .eq 51, 3, [315], 0),
  (267, .iload_n 1, 1, [1], 0),
  (268, .bipush 38, 2, [], 38),
  (270, .if_icmp .eq 45, 3, [315], 0),
  (273, .iload_n 1, 1, [1], 0),
  (274, .bipush 33, 2, [], 33),
  (276, .if_icmp .eq 39, 3, [315], 0),
  (279, .iload_n 1, 1, [1], 0),
  (280, .bipush 40, 2, [], 40),
  (282, .if_icmp .eq 33, 3, [315], 0),
  (285, .iload_n 1, 1, [1], 0),
  (286, .bipush 41, 2, [], 41),
  (288, .if_icmp .eq 27, 3, [315], 0),
  (291, .iload_n 1, 1, [1], 0),
  (292, .bipush 60, 2, [], 60),
  (294, .if_icmp .eq 21, 3, [315], 0),
  (297, .iload_n 1, 1, [1], 0),
  (298, .bipush 62, 2, [], 62),
  (300, .if_icmp .eq 15, 3, [315], 0),
  (303, .iload_n 1, 1, [1], 0),
  (304, .bipush 91, 2, [], 91),
  (306, .if_icmp .eq 9, 3, [315], 0),
  (309, .iload_n 1, 1, [1], 0),
  (310, .bipush 93, 2, [], 93),
  (312, .if_icmp .ne 7, 3, [319], 0),
  (315, .iconst 1, 1, [], 1),
  (316, .goto 4, 3, [320], 0),
  (319, .iconst 0, 1, [], 0),
  (320, .istore_n 2, 1, [2], 0),
  (321, .aload_n 0, 1, [0], 0),
  (322, .iload_n 2, 1, [2], 0),
  (323, .ifCond .eq 8, 3, [331], 0),
  (326, .bipush 6, 2, [], 6),
  (328, .goto 5, 3, [333], 0),
  (331, .bipush 7, 2, [], 7),
  (333, .putfield 77, 3, [11, 6, 0, 0, 0, 922], 0),
  (336, .return_, 1, [], 0)]
def m_Mo_advances : xa_M := (⟨"MayMustModel", "advances", "()V"⟩, prog_13_method_15_code, 3, none, t_Mo_advances)
abbrev n_Mo_advances : Nat := 141
def t_Mo_isWell : List xa_I := [
  (65535, .nop, 0, [1038, 73], 0),
  (0, .aload_n 0, 1, [0], 0),
  (1, .getfield 94, 3, [11, 9, 0, 0, 0, 925], 0),
  (4, .ifCond .ge 7, 3, [11], 0),
  (7, .iconst 1, 1, [], 1),
  (8, .goto 4, 3, [12], 0),
  (11, .iconst 0, 1, [], 0),
  (12, .ireturn, 1, [1], 0)]
def m_Mo_isWell : xa_M := (⟨"MayMustModel", "isWell", "()Z"⟩, prog_13_method_16_code, 1, (some .boolean), t_Mo_isWell)
abbrev n_Mo_isWell : Nat := 142
def t_Mo_takes : List xa_I := [
  (65535, .nop, 0, [1034, 73], 0),
  (0, .aload_n 0, 1, [0], 0),
  (1, .invokevirtual 97, 3, [0, 142, 0, 11, 0, 1035, 1037, 39], 0),
  (4, .ifCond .ne 5, 3, [9], 0),
  (7, .iconst 0, 1, [], 0),
  (8, .ireturn, 1, [0], 0),
  (9, .iload_n 1, 1, [1], 0),
  (10, .ifCond .ne 13, 3, [23], 0),
  (13, .aload_n 0, 1, [0], 0),
  (14, .aload_n 0, 1, [0], 0),
  (15, .getfield 74, 3, [11, 7, 0, 0, 0, 923], 0),
  (18, .putfield 94, 3, [11, 9, 0, 0, 0, 925], 0),
  (21, .iconst 0, 1, [], 0),
  (22, .ireturn, 1, [0], 0),
  (23, .aload_n 0, 1, [0], 0),
  (24, .getfield 80, 3, [11, 8, 0, 0, 0, 924], 0),
  (27, .istore_n 2, 1, [2], 0),
  (28, .aload_n 0, 1, [0], 0),
  (29, .invokevirtual 101, 3, [0, 141, 0, 11, 0, 1015, 1017, 34], 0),
  (32, .iload_n 2, 1, [2], 0),
  (33, .ireturn, 1, [0], 0)]
def m_Mo_takes : xa_M := (⟨"MayMustModel", "takes", "(Z)I"⟩, prog_13_method_17_code, 3, (some .int), t_Mo_takes)
abbrev n_Mo_takes : Nat := 143
def t_Mo_isSign : List xa_I := [
  (65535, .nop, 0, [1042, 73], 0),
  (0, .aload_n 0, 1, [0], 0),
  (1, .invokevirtual 97, 3, [0, 142, 0, 11, 0, 1035, 1037, 39], 0),
  (4, .ifCond .eq 24, 3, [28], 0),
  (7, .aload_n 0, 1, [0], 0),
  (8, .getfield 77, 3, [11, 6, 0, 0, 0, 922], 0),
  (11, .bipush 6, 2, [], 6),
  (13, .if_icmp .ne 15, 3, [28], 0),
  (16, .aload_n 0, 1, [0], 0),
  (17, .getfield 80, 3, [11, 8, 0, 0, 0, 924], 0),
  (20, .iload_n 1, 1, [1], 0),
  (21, .if_icmp .ne 7, 3, [28], 0),
  (24, .iconst 1, 1, [], 1),
  (25, .goto 4, 3, [29], 0),
  (28, .iconst 0, 1, [], 0),
  (29, .ireturn, 1, [1], 0)]
def m_Mo_isSign : xa_M := (⟨"MayMustModel", "isSign", "(I)Z"⟩, prog_13_method_18_code, 2, (some .boolean), t_Mo_isSign)
abbrev n_Mo_isSign : Nat := 144
def t_Mo_begins : List xa_I := [
  (65535, .nop, 0, [1014, 73], 0),
  (0, .aload_n 0, 1, [0], 0),
  (1, .iconst (-1), 1, [], (-1)),
  (2, .putfield 94, 3, [11, 9, 0, 0, 0, 925], 0),
  (5, .aload_n 0, 1, [0], 0),
  (6, .iconst 0, 1, [], 0),
  (7, .putfield 87, 3, [11, 5, 0, 0, 0, 921], 0),
  (10, .aload_n 0, 1, [0], 0),
  (11, .invokevirtual 101, 3, [0, 141, 0, 11, 0, 1015, 1017, 34], 0),
  (14, .return_, 1, [], 0)]
def m_Mo_begins : xa_M := (⟨"MayMustModel", "begins", "()V"⟩, prog_13_method_19_code, 1, none, t_Mo_begins)
abbrev n_Mo_begins : Nat := 145
def t_Mo_plan : List xa_I := [
  (65535, .nop, 0, [1007, 73], 0),
  (0, .aload_n 0, 1, [0], 0),
  (1, .iconst 0, 1, [], 0),
  (2, .putfield 50, 3, [11, 0, 0, 0, 0, 916], 0),
  (5, .iload_n 1, 1, [1], 0),
  (6, .invokestatic 57, 3, [0, 130, 1, 0, 0, 1008, 1009], 0),
  (9, .ifCond .ne 5, 3, [14], 0),
  (12, .iconst (-1), 1, [], (-1)),
  (13, .ireturn, 1, [0], 0),
  (14, .iconst 0, 1, [], 0),
  (15, .istore_n 2, 1, [2], 0),
  (16, .aload_n 0, 1, [0], 0),
  (17, .invokevirtual 104, 3, [0, 145, 0, 11, 0, 1011, 1013, 33], 0),
  (20, .aload_n 0, 1, [0], 0),
  (21, .aload_n 0, 1, [0], 0),
  (22, .getfield 77, 3, [11, 6, 0, 0, 0, 922], 0),
  (25, .iconst 2, 1, [], 2),
  (26, .if_icmp .ne 7, 3, [33], 0),
  (29, .iconst 1, 1, [], 1),
  (30, .goto 4, 3, [34], 0),
  (33, .iconst 0, 1, [], 0),
  (34, .invokevirtual 107, 3, [0, 143, 1, 11, 0, 1031, 1033, 38], 0),
  (37, .pop, 1, [], 0),
  (38, .aload_n 0, 1, [0], 0),
  (39, .aload_n 0, 1, [0], 0),
  (40, .getfield 77, 3, [11, 6, 0, 0, 0, 922], 0),
  (43, .iconst 5, 1, [], 5),
  (44, .if_icmp .ne 20, 3, [64], 0),
  (47, .aload_n 0, 1, [0], 0),
  (48, .getfield 80, 3, [11, 8, 0, 0, 0, 924], 0),
  (51, .iconst 1, 1, [], 1),
  (52, .bipush 6, 2, [], 6),
  (54, .invokestatic 53, 3, [0, 129, 3, 0, 0, 996, 997], 0),
  (57, .ifCond .eq 7, 3, [64], 0),
  (60, .iconst 1, 1, [], 1),
  (61, .goto 4, 3, [65], 0),
  (64, .iconst 0, 1, [], 0),
  (65, .invokevirtual 107, 3, [0, 143, 1, 11, 0, 1031, 1033, 38], 0),
  (68, .istore_n 3, 1, [3], 0),
  (69, .aload_n 0, 1, [0], 0),
  (70, .aload_n 0, 1, [0], 0),
  (71, .bipush 59, 2, [], 59),
  (73, .invokevirtual 111, 3, [0, 144, 1, 11, 0, 1039, 1041, 40], 0),
  (76, .invokevirtual 107, 3, [0, 143, 1, 11, 0, 1031, 1033, 38], 0),
  (79, .pop, 1, [], 0),
  (80, .aload_n 0, 1, [0], 0),
  (81, .bipush 6, 2, [], 6),
  (83, .iload_n 3, 1, [3], 0),
  (84, .invokevirtual 114, 3, [0, 134, 2, 11, 0, 1043, 1045, 41], 0),
  (87, .aload_n 0, 1, [0], 0),
  (88, .invokevirtual 97, 3, [0, 142, 0, 11, 0, 1035, 1037, 39], 0),
  (91, .ifCond .eq 192, 3, [283], 0),
  (94, .aload_n 0, 1, [0], 0),
  (95, .getfield 77, 3, [11, 6, 0, 0, 0, 922], 0),
  (98, .ifCond .eq 185, 3, [283], 0),
  (101, .aload_n 0, 1, [0], 0),
  (102, .getfield 77, 3, [11, 6, 0, 0, 0, 922], 0),
  (105, .iconst 4, 1, [], 4),
  (106, .if_icmp .ne 7, 3, [113], 0),
  (109, .iconst 2, 1, [], 2),
  (110, .goto 4, 3, [114], 0),
  (113, .iconst 1, 1, [], 1),
  (114, .istore 4, 2, [4], 0),
  (116, .aload_n 0, 1, [0], 0),
  (117, .aload_n 0, 1, [0], 0),
  (118, .getfield 77, 3, [11, 6, 0, 0, 0, 922], 0),
  (121, .iconst 3, 1, [], 3),
  (122, .if_icmp .eq 11, 3, [133], 0),
  (125, .aload_n 0, 1, [0], 0),
  (126, .getfield 77, 3, [11, 6, 0, 0, 0, 922], 0),
  (129, .iconst 4, 1, [], 4),
  (130, .if_icmp .ne 7, 3, [137], 0),
  (133, .iconst 1, 1, [], 1),
  (134, .goto 4, 3, [138], 0),
  (137, .iconst 0, 1, [], 0),
  (138, .invokevirtual 107, 3, [0, 143, 1, 11, 0, 1031, 1033, 38], 0),
  (141, .pop, 1, [], 0),
  (142, .aload_n 0, 1, [0], 0),
  (143, .aload_n 0, 1, [0], 0),
  (144, .getfield 77, 3, [11, 6, 0, 0, 0, 922], 0),
  (147, .iconst 5, 1, [], 5),
  (148, .if_icmp .ne 15, 3, [163], 0),
  (151, .aload_n 0, 1, [0], 0),
  (152, .getfield 80, 3, [11, 8, 0, 0, 0, 924], 0),
  (155, .iload_n 3, 1, [3], 0),
  (156, .if_icmp .ge 7, 3, [163], 0),
  (159, .iconst 1, 1, [], 1),
  (160, .goto 4, 3, [164], 0),
  (163, .iconst 0, 1, [], 0),
  (164, .invokevirtual 107, 3, [0, 143, 1, 11, 0, 1031, 1033, 38], 0),
  (167, .istore 5, 2, [5], 0),
  (169, .aload_n 0, 1, [0], 0),
  (170, .aload_n 0, 1, [0], 0),
  (171, .getfield 77, 3, [11, 6, 0, 0, 0, 922], 0),
  (174, .iconst 1, 1, [], 1),
  (175, .if_icmp .ne 7, 3, [182], 0),
  (178, .iconst 1, 1, [], 1),
  (179, .goto 4, 3, [183], 0),
  (182, .iconst 0, 1, [], 0),
  (183, .invokevirtual 107, 3, [0, 143, 1, 11, 0, 1031, 1033, 38], 0),
  (186, .istore 6, 2, [6], 0),
  (188, .aload_n 0, 1, [0], 0),
  (189, .aload_n 0, 1, [0], 0),
  (190, .getfield 77, 3, [11, 6, 0, 0, 0, 922], 0),
  (193, .iconst 5, 1, [], 5),
  (194, .if_icmp .ne 15, 3, [209], 0),
  (197, .aload_n 0, 1, [0], 0),
  (198, .getfield 80, 3, [11, 8, 0, 0, 0, 924], 0),
  (201, .iload_n 3, 1, [3], 0),
  (202, .if_icmp .ge 7, 3, [209], 0),
  (205, .iconst 1, 1, [], 1),
  (206, .goto 4, 3, [210], 0),
  (209, .iconst 0, 1, [], 0),
  (210, .invokevirtual 107, 3, [0, 143, 1, 11, 0, 1031, 1033, 38], 0),
  (213, .istore 7, 2, [7], 0),
  (215, .aload_n 0, 1, [0], 0),
  (216, .aload_n 0, 1, [0], 0),
  (217, .bipush 59, 2, [], 59),
  (219, .invokevirtual 111, 3, [0, 144, 1, 11, 0, 1039, 1041, 40], 0),
  (222, .invokevirtual 107, 3, [0, 143, 1, 11, 0, 1031, 1033, 38], 0),
  (225, .pop, 1, [], 0),
  (226, .aload_n 0, 1, [0], 0),
  (227, .invokevirtual 97, 3, [0, 142, 0, 11, 0, 1035, 1037, 39], 0),
  (230, .ifCond .eq 47, 3, [277], 0),
  (233, .bipush 6, 2, [], 6),
  (235, .iload 5, 2, [5], 0),
  (237, .iload 6, 2, [6], 0),
  (239, .iload 7, 2, [7], 0),
  (241, .invokestatic 61, 3, [0, 132, 4, 0, 0, 1047, 1048], 0),
  (244, .istore 8, 2, [8], 0),
  (246, .aload_n 0, 1, [0], 0),
  (247, .getfield 7, 3, [11, 1, 0, 0, 0, 917], 0),
  (250, .iload 8, 2, [8], 0),
  (252, .aload_n 0, 1, [0], 0),
  (253, .getfield 7, 3, [11, 1, 0, 0, 0, 917], 0),
  (256, .iload 8, 2, [8], 0),
  (258, .iaload, 1, [], 0),
  (259, .iload 4, 2, [4], 0),
  (261, .if_icmp .ge 8, 3, [269], 0),
  (264, .iload 4, 2, [4], 0),
  (266, .goto 10, 3, [276], 0),
  (269, .aload_n 0, 1, [0], 0),
  (270, .getfield 7, 3, [11, 1, 0, 0, 0, 917], 0),
  (273, .iload 8, 2, [8], 0),
  (275, .iaload, 1, [], 0),
  (276, .iastore, 1, [], 0),
  (277, .iinc 2 1, 3, [2], 1),
  (280, .goto (-193), 3, [87], 0),
  (283, .aload_n 0, 1, [0], 0),
  (284, .invokevirtual 97, 3, [0, 142, 0, 11, 0, 1035, 1037, 39], 0),
  (287, .ifCond .ne 11, 3, [298], 0),
  (290, .bipush (-10), 2, [], (-10)),
  (292, .aload_n 0, 1, [0], 0),
  (293, .getfield 94, 3, [11, 9, 0, 0, 0, 925], 0),
  (296, .isub, 1, [], 0),
  (297, .ireturn, 1, [0], 0),
  (298, .aload_n 0, 1, [0], 0),
  (299, .bipush 6, 2, [], 6),
  (301, .iload_n 1, 1, [1], 0),
  (302, .invokevirtual 118, 3, [0, 135, 2, 11, 0, 1050, 1052, 42], 0),
  (305, .aload_n 0, 1, [0], 0),
  (306, .iconst 0, 1, [], 0),
  (307, .putfield 65, 3, [11, 4, 0, 0, 0, 920], 0),
  (310, .iload_n 2, 1, [2], 0),
  (311, .ireturn, 1, [0], 0)]
def m_Mo_plan : xa_M := (⟨"MayMustModel", "plan", "(I)I"⟩, prog_13_method_20_code, 9, (some .int), t_Mo_plan)
abbrev n_Mo_plan : Nat := 146
def t_Mo_puts : List xa_I := [
  (65535, .nop, 0, [1069, 73], 0),
  (0, .aload_n 0, 1, [0], 0),
  (1, .getfield 22, 3, [11, 11, 0, 0, 0, 927], 0),
  (4, .aload_n 0, 1, [0], 0),
  (5, .getfield 121, 3, [11, 13, 0, 0, 0, 929], 0),
  (8, .iload_n 1, 1, [1], 0),
  (9, .iastore, 1, [], 0),
  (10, .aload_n 0, 1, [0], 0),
  (11, .dup, 1, [], 0),
  (12, .getfield 121, 3, [11, 13, 0, 0, 0, 929], 0),
  (15, .iconst 1, 1, [], 1),
  (16, .iadd, 1, [], 0),
  (17, .putfield 121, 3, [11, 13, 0, 0, 0, 929], 0),
  (20, .return_, 1, [], 0)]
def m_Mo_puts : xa_M := (⟨"MayMustModel", "puts", "(I)V"⟩, prog_13_method_21_code, 2, none, t_Mo_puts)
abbrev n_Mo_puts : Nat := 147
def t_Mo_settles : List xa_I := [
  (65535, .nop, 0, [1073, 73], 0),
  (0, .aload_n 0, 1, [0], 0),
  (1, .getfield 124, 3, [11, 17, 0, 0, 0, 933], 0),
  (4, .ifCond .le 87, 3, [91], 0),
  (7, .aload_n 0, 1, [0], 0),
  (8, .getfield 25, 3, [11, 16, 0, 0, 0, 932], 0),
  (11, .aload_n 0, 1, [0], 0),
  (12, .getfield 124, 3, [11, 17, 0, 0, 0, 933], 0),
  (15, .iconst 1, 1, [], 1),
  (16, .isub, 1, [], 0),
  (17, .iaload, 1, [], 0),
  (18, .bipush 40, 2, [], 40),
  (20, .if_icmp .eq 71, 3, [91], 0),
  (23, .aload_n 0, 1, [0], 0),
  (24, .getfield 25, 3, [11, 16, 0, 0, 0, 932], 0),
  (27, .aload_n 0, 1, [0], 0),
  (28, .getfield 124, 3, [11, 17, 0, 0, 0, 933], 0),
  (31, .iconst 1, 1, [], 1),
  (32, .isub, 1, [], 0),
  (33, .iaload, 1, [], 0),
  (34, .bipush 38, 2, [], 38),
  (36, .if_icmp .eq 55, 3, [91], 0),
  (39, .aload_n 0, 1, [0], 0),
  (40, .getfield 25, 3, [11, 16, 0, 0, 0, 932], 0),
  (43, .aload_n 0, 1, [0], 0),
  (44, .getfield 124, 3, [11, 17, 0, 0, 0, 933], 0),
  (47, .iconst 1, 1, [], 1),
  (48, .isub, 1, [], 0),
  (49, .iaload, 1, [], 0),
  (50, .bipush 124, 2, [], 124),
  (52, .if_icmp .eq 39, 3, [91], 0),
  (55, .aload_n 0, 1, [0], 0),
  (56, .dup, 1, [], 0),
  (57, .getfield 124, 3, [11, 17, 0, 0, 0, 933], 0),
  (60, .iconst 1, 1, [], 1),
  (61, .isub, 1, [], 0),
  (62, .putfield 124, 3, [11, 17, 0, 0, 0, 933], 0),
  (65, .aload_n 0, 1, [0], 0),
  (66, .dup, 1, [], 0),
  (67, .getfield 127, 3, [11, 18, 0, 0, 0, 934], 0),
  (70, .iconst 1, 1, [], 1),
  (71, .isub, 1, [], 0),
  (72, .putfield 127, 3, [11, 18, 0, 0, 0, 934], 0),
  (75, .aload_n 0, 1, [0], 0),
  (76, .aload_n 0, 1, [0], 0),
  (77, .getfield 25, 3, [11, 16, 0, 0, 0, 932], 0),
  (80, .aload_n 0, 1, [0], 0),
  (81, .getfield 124, 3, [11, 17, 0, 0, 0, 933], 0),
  (84, .iaload, 1, [], 0),
  (85, .invokevirtual 130, 3, [0, 147, 1, 11, 0, 1066, 1068, 45], 0),
  (88, .goto (-88), 3, [0], 0),
  (91, .return_, 1, [], 0)]
def m_Mo_settles : xa_M := (⟨"MayMustModel", "settles", "()V"⟩, prog_13_method_22_code, 1, none, t_Mo_settles)
abbrev n_Mo_settles : Nat := 148
def t_Mo_bracket : List xa_I := [
  (65535, .nop, 0, [1077, 73], 0),
  (0, .bipush (-9), 2, [], (-9)),
  (2, .istore_n 1, 1, [1], 0),
  (3, .iconst 0, 1, [], 0),
  (4, .istore_n 2, 1, [2], 0),
  (5, .iload_n 2, 1, [2], 0),
  (6, .aload_n 0, 1, [0], 0),
  (7, .getfield 124, 3, [11, 17, 0, 0, 0, 933], 0),
  (10, .if_icmp .ge 26, 3, [36], 0),
  (13, .aload_n 0, 1, [0], 0),
  (14, .getfield 25, 3, [11, 16, 0, 0, 0, 932], 0),
  (17, .iload_n 2, 1, [2], 0),
  (18, .iaload, 1, [], 0),
  (19, .bipush 40, 2, [], 40),
  (21, .if_icmp .ne 7, 3, [28], 0),
  (24, .iload_n 2, 1, [2], 0),
  (25, .goto 4, 3, [29], 0),
  (28, .iload_n 1, 1, [1], 0),
  (29, .istore_n 1, 1, [1], 0),
  (30, .iinc 2 1, 3, [2], 1),
  (33, .goto (-28), 3, [5], 0),
  (36, .iload_n 1, 1, [1], 0),
  (37, .ireturn, 1, [0], 0)]
def m_Mo_bracket : xa_M := (⟨"MayMustModel", "bracket", "()I"⟩, prog_13_method_23_code, 3, (some .int), t_Mo_bracket)
abbrev n_Mo_bracket : Nat := 149
def t_Mo_unit : List xa_I := [
  (65535, .nop, 0, [1065, 73], 0),
  (0, .aload_n 0, 1, [0], 0),
  (1, .invokevirtual 97, 3, [0, 142, 0, 11, 0, 1035, 1037, 39], 0),
  (4, .ifCond .eq 55, 3, [59], 0),
  (7, .aload_n 0, 1, [0], 0),
  (8, .getfield 77, 3, [11, 6, 0, 0, 0, 922], 0),
  (11, .iconst 5, 1, [], 5),
  (12, .if_icmp .ne 47, 3, [59], 0),
  (15, .aload_n 0, 1, [0], 0),
  (16, .getfield 80, 3, [11, 8, 0, 0, 0, 924], 0),
  (19, .iconst 2, 1, [], 2),
  (20, .if_icmp .ge 39, 3, [59], 0),
  (23, .aload_n 0, 1, [0], 0),
  (24, .getfield 133, 3, [11, 15, 0, 0, 0, 931], 0),
  (27, .bipush 24, 2, [], 24),
  (29, .if_icmp .ge 30, 3, [59], 0),
  (32, .aload_n 0, 1, [0], 0),
  (33, .aload_n 0, 1, [0], 0),
  (34, .getfield 80, 3, [11, 8, 0, 0, 0, 924], 0),
  (37, .invokevirtual 130, 3, [0, 147, 1, 11, 0, 1066, 1068, 45], 0),
  (40, .aload_n 0, 1, [0], 0),
  (41, .dup, 1, [], 0),
  (42, .getfield 133, 3, [11, 15, 0, 0, 0, 931], 0),
  (45, .iconst 1, 1, [], 1),
  (46, .iadd, 1, [], 0),
  (47, .putfield 133, 3, [11, 15, 0, 0, 0, 931], 0),
  (50, .aload_n 0, 1, [0], 0),
  (51, .invokevirtual 101, 3, [0, 141, 0, 11, 0, 1015, 1017, 34], 0),
  (54, .aload_n 0, 1, [0], 0),
  (55, .invokevirtual 136, 3, [0, 148, 0, 11, 0, 1070, 1072, 46], 0),
  (58, .return_, 1, [], 0),
  (59, .aload_n 0, 1, [0], 0),
  (60, .bipush 60, 2, [], 60),
  (62, .invokevirtual 111, 3, [0, 144, 1, 11, 0, 1039, 1041, 40], 0),
  (65, .istore_n 1, 1, [1], 0),
  (66, .aload_n 0, 1, [0], 0),
  (67, .bipush 91, 2, [], 91),
  (69, .invokevirtual 111, 3, [0, 144, 1, 11, 0, 1039, 1041, 40], 0),
  (72, .istore_n 2, 1, [2], 0),
  (73, .iload_n 1, 1, [1], 0),
  (74, .ifCond .ne 25, 3, [99], 0),
  (77, .iload_n 2, 1, [2], 0),
  (78, .ifCond .ne 21, 3, [99], 0),
  (81, .aload_n 0, 1, [0], 0),
  (82, .bipush 33, 2, [], 33),
  (84, .invokevirtual 111, 3, [0, 144, 1, 11, 0, 1039, 1041, 40], 0),
  (87, .ifCond .ne 12, 3, [99], 0),
  (90, .aload_n 0, 1, [0], 0),
  (91, .bipush 40, 2, [], 40),
  (93, .invokevirtual 111, 3, [0, 144, 1, 11, 0, 1039, 1041, 40], 0),
  (96, .ifCond .eq 12, 3, [108], 0),
  (99, .aload_n 0, 1, [0], 0),
  (100, .getfield 127, 3, [11, 18, 0, 0, 0, 934], 0),
  (103, .bipush 10, 2, [], 10),
  (105, .if_icmp .ne 10, 3, [115], 0),
  (108, .aload_n 0, 1, [0], 0),
  (109, .iconst 0, 1, [], 0),
  (110, .invokevirtual 107, 3, [0, 143, 1, 11, 0, 1031, 1033, 38], 0),
  (113, .pop, 1, [], 0),
  (114, .return_, 1, [], 0),
  (115, .aload_n 0, 1, [0], 0),
  (116, .getfield 80, 3, [11, 8, 0, 0, 0, 924], 0),
  (119, .istore_n 3, 1, [3], 0),
  (120, .aload_n 0, 1, [0], 0),
  (121, .dup, 1, [], 0),
  (122, .getfield 127, 3, [11, 18, 0, 0, 0, 934], 0),
  (125, .iconst 1, 1, [], 1),
  (126, .iadd, 1, [], 0),
  (127, .putfield 127, 3, [11, 18, 0, 0, 0, 934], 0),
  (130, .aload_n 0, 1, [0], 0),
  (131, .invokevirtual 101, 3, [0, 141, 0, 11, 0, 1015, 1017, 34], 0),
  (134, .iload_n 1, 1, [1], 0),
  (135, .ifCond .ne 7, 3, [142], 0),
  (138, .iload_n 2, 1, [2], 0),
  (139, .ifCond .eq 59, 3, [198], 0),
  (142, .aload_n 0, 1, [0], 0),
  (143, .aload_n 0, 1, [0], 0),
  (144, .getfield 77, 3, [11, 6, 0, 0, 0, 922], 0),
  (147, .iconst 1, 1, [], 1),
  (148, .if_icmp .ne 7, 3, [155], 0),
  (151, .iconst 1, 1, [], 1),
  (152, .goto 4, 3, [156], 0),
  (155, .iconst 0, 1, [], 0),
  (156, .invokevirtual 107, 3, [0, 143, 1, 11, 0, 1031, 1033, 38], 0),
  (159, .istore 4, 2, [4], 0),
  (161, .aload_n 0, 1, [0], 0),
  (162, .aload_n 0, 1, [0], 0),
  (163, .iload_n 1, 1, [1], 0),
  (164, .ifCond .eq 8, 3, [172], 0),
  (167, .bipush 62, 2, [], 62),
  (169, .goto 5, 3, [174], 0),
  (172, .bipush 93, 2, [], 93),
  (174, .invokevirtual 111, 3, [0, 144, 1, 11, 0, 1039, 1041, 40], 0),
  (177, .invokevirtual 107, 3, [0, 143, 1, 11, 0, 1031, 1033, 38], 0),
  (180, .pop, 1, [], 0),
  (181, .iload_n 1, 1, [1], 0),
  (182, .ifCond .eq 9, 3, [191], 0),
  (185, .sipush 300, 3, [], 300),
  (188, .goto 6, 3, [194], 0),
  (191, .sipush 310, 3, [], 310),
  (194, .iload 4, 2, [4], 0),
  (196, .iadd, 1, [], 0),
  (197, .istore_n 3, 1, [3], 0),
  (198, .aload_n 0, 1, [0], 0),
  (199, .getfield 25, 3, [11, 16, 0, 0, 0, 932], 0),
  (202, .aload_n 0, 1, [0], 0),
  (203, .getfield 124, 3, [11, 17, 0, 0, 0, 933], 0),
  (206, .iload_n 3, 1, [3], 0),
  (207, .iastore, 1, [], 0),
  (208, .aload_n 0, 1, [0], 0),
  (209, .dup, 1, [], 0),
  (210, .getfield 124, 3, [11, 17, 0, 0, 0, 933], 0),
  (213, .iconst 1, 1, [], 1),
  (214, .iadd, 1, [], 0),
  (215, .putfield 124, 3, [11, 17, 0, 0, 0, 933], 0),
  (218, .return_, 1, [], 0)]
def m_Mo_unit : xa_M := (⟨"MayMustModel", "unit", "()V"⟩, prog_13_method_24_code, 5, none, t_Mo_unit)
abbrev n_Mo_unit : Nat := 150
def t_Mo_wantsUnit : List xa_I := [
  (65535, .nop, 0, [1061, 73], 0),
  (0, .iload_n 1, 1, [1], 0),
  (1, .ifCond .eq 26, 3, [27], 0),
  (4, .aload_n 0, 1, [0], 0),
  (5, .getfield 121, 3, [11, 13, 0, 0, 0, 929], 0),
  (8, .istore_n 2, 1, [2], 0),
  (9, .aload_n 0, 1, [0], 0),
  (10, .invokevirtual 139, 3, [0, 150, 0, 11, 0, 1062, 1064, 44], 0),
  (13, .aload_n 0, 1, [0], 0),
  (14, .getfield 121, 3, [11, 13, 0, 0, 0, 929], 0),
  (17, .iload_n 2, 1, [2], 0),
  (18, .if_icmp .ne 7, 3, [25], 0),
  (21, .iconst 1, 1, [], 1),
  (22, .goto 4, 3, [26], 0),
  (25, .iconst 0, 1, [], 0),
  (26, .ireturn, 1, [1], 0),
  (27, .aload_n 0, 1, [0], 0),
  (28, .bipush 38, 2, [], 38),
  (30, .invokevirtual 111, 3, [0, 144, 1, 11, 0, 1039, 1041, 40], 0),
  (33, .ifCond .ne 12, 3, [45], 0),
  (36, .aload_n 0, 1, [0], 0),
  (37, .bipush 124, 2, [], 124),
  (39, .invokevirtual 111, 3, [0, 144, 1, 11, 0, 1039, 1041, 40], 0),
  (42, .ifCond .eq 105, 3, [147], 0),
  (45, .aload_n 0, 1, [0], 0),
  (46, .getfield 80, 3, [11, 8, 0, 0, 0, 924], 0),
  (49, .istore_n 2, 1, [2], 0),
  (50, .aload_n 0, 1, [0], 0),
  (51, .getfield 124, 3, [11, 17, 0, 0, 0, 933], 0),
  (54, .ifCond .le 67, 3, [121], 0),
  (57, .aload_n 0, 1, [0], 0),
  (58, .getfield 25, 3, [11, 16, 0, 0, 0, 932], 0),
  (61, .aload_n 0, 1, [0], 0),
  (62, .getfield 124, 3, [11, 17, 0, 0, 0, 933], 0),
  (65, .iconst 1, 1, [], 1),
  (66, .isub, 1, [], 0),
  (67, .iaload, 1, [], 0),
  (68, .bipush 38, 2, [], 38),
  (70, .if_icmp .eq 25, 3, [95], 0),
  (73, .aload_n 0, 1, [0], 0),
  (74, .getfield 25, 3, [11, 16, 0, 0, 0, 932], 0),
  (77, .aload_n 0, 1, [0], 0),
  (78, .getfield 124, 3, [11, 17, 0, 0, 0, 933], 0),
  (81, .iconst 1, 1, [], 1),
  (82, .isub, 1, [], 0),
  (83, .iaload, 1, [], 0),
  (84, .bipush 124, 2, [], 124),
  (86, .if_icmp .ne 35, 3, [121], 0),
  (89, .iload_n 2, 1, [2], 0),
  (90, .bipush 124, 2, [], 124),
  (92, .if_icmp .ne 29, 3, [121], 0),
  (95, .aload_n 0, 1, [0], 0),
  (96, .dup, 1, [], 0),
  (97, .getfield 124, 3, [11, 17, 0, 0, 0, 933], 0),
  (100, .iconst 1, 1, [], 1),
  (101, .isub, 1, [], 0),
  (102, .putfield 124, 3, [11, 17, 0, 0, 0, 933], 0),
  (105, .aload_n 0, 1, [0], 0),
  (106, .aload_n 0, 1, [0], 0),
  (107, .getfield 25, 3, [11, 16, 0, 0, 0, 932], 0),
  (110, .aload_n 0, 1, [0], 0),
  (111, .getfield 124, 3, [11, 17, 0, 0, 0, 933], 0),
  (114, .iaload, 1, [], 0),
  (115, .invokevirtual 130, 3, [0, 147, 1, 11, 0, 1066, 1068, 45], 0),
  (118, .goto (-68), 3, [50], 0),
  (121, .aload_n 0, 1, [0], 0),
  (122, .getfield 25, 3, [11, 16, 0, 0, 0, 932], 0),
  (125, .aload_n 0, 1, [0], 0),
  (126, .getfield 124, 3, [11, 17, 0, 0, 0, 933], 0),
  (129, .iload_n 2, 1, [2], 0),
  (130, .iastore, 1, [], 0),
  (131, .aload_n 0, 1, [0], 0),
  (132, .dup, 1, [], 0),
  (133, .getfield 124, 3, [11, 17, 0, 0, 0, 933], 0),
  (136, .iconst 1, 1, [], 1),
  (137, .iadd, 1, [], 0),
  (138, .putfield 124, 3, [11, 17, 0, 0, 0, 933], 0),
  (141, .aload_n 0, 1, [0], 0),
  (142, .invokevirtual 101, 3, [0, 141, 0, 11, 0, 1015, 1017, 34], 0),
  (145, .iconst 1, 1, [], 1),
  (146, .ireturn, 1, [1], 0),
  (147, .aload_n 0, 1, [0], 0),
  (148, .bipush 41, 2, [], 41),
  (150, .invokevirtual 111, 3, [0, 144, 1, 11, 0, 1039, 1041, 40], 0),
  (153, .ifCond .eq 84, 3, [237], 0),
  (156, .aload_n 0, 1, [0], 0),
  (157, .invokevirtual 142, 3, [0, 149, 0, 11, 0, 1074, 1076, 47], 0),
  (160, .bipush (-9), 2, [], (-9)),
  (162, .if_icmp .eq 75, 3, [237], 0),
  (165, .aload_n 0, 1, [0], 0),
  (166, .getfield 25, 3, [11, 16, 0, 0, 0, 932], 0),
  (169, .aload_n 0, 1, [0], 0),
  (170, .getfield 124, 3, [11, 17, 0, 0, 0, 933], 0),
  (173, .iconst 1, 1, [], 1),
  (174, .isub, 1, [], 0),
  (175, .iaload, 1, [], 0),
  (176, .bipush 40, 2, [], 40),
  (178, .if_icmp .eq 29, 3, [207], 0),
  (181, .aload_n 0, 1, [0], 0),
  (182, .dup, 1, [], 0),
  (183, .getfield 124, 3, [11, 17, 0, 0, 0, 933], 0),
  (186, .iconst 1, 1, [], 1),
  (187, .isub, 1, [], 0),
  (188, .putfield 124, 3, [11, 17, 0, 0, 0, 933], 0),
  (191, .aload_n 0, 1, [0], 0),
  (192, .aload_n 0, 1, [0], 0),
  (193, .getfield 25, 3, [11, 16, 0, 0, 0, 932], 0),
  (196, .aload_n 0, 1, [0], 0),
  (197, .getfield 124, 3, [11, 17, 0, 0, 0, 933], 0),
  (200, .iaload, 1, [], 0),
  (201, .invokevirtual 130, 3, [0, 147, 1, 11, 0, 1066, 1068, 45], 0),
  (204, .goto (-39), 3, [165], 0),
  (207, .aload_n 0, 1, [0], 0),
  (208, .dup, 1, [], 0),
  (209, .getfield 124, 3, [11, 17, 0, 0, 0, 933], 0),
  (212, .iconst 1, 1, [], 1),
  (213, .isub, 1, [], 0),
  (214, .putfield 124, 3, [11, 17, 0, 0, 0, 933], 0),
  (217, .aload_n 0, 1, [0], 0),
  (218, .dup, 1, [], 0),
  (219, .getfield 127, 3, [11, 18, 0, 0, 0, 934], 0),
  (222, .iconst 1, 1, [], 1),
  (223, .isub, 1, [], 0),
  (224, .putfield 127, 3, [11, 18, 0, 0, 0, 934], 0),
  (227, .aload_n 0, 1, [0], 0),
  (228, .invokevirtual 101, 3, [0, 141, 0, 11, 0, 1015, 1017, 34], 0),
  (231, .aload_n 0, 1, [0], 0),
  (232, .invokevirtual 136, 3, [0, 148, 0, 11, 0, 1070, 1072, 46], 0),
  (235, .iconst 0, 1, [], 0),
  (236, .ireturn, 1, [1], 0),
  (237, .aload_n 0, 1, [0], 0),
  (238, .iconst 0, 1, [], 0),
  (239, .invokevirtual 107, 3, [0, 143, 1, 11, 0, 1031, 1033, 38], 0),
  (242, .pop, 1, [], 0),
  (243, .iconst 0, 1, [], 0),
  (244, .ireturn, 1, [1], 0)]
def m_Mo_wantsUnit : xa_M := (⟨"MayMustModel", "wantsUnit", "(Z)Z"⟩, prog_13_method_25_code, 3, (some .boolean), t_Mo_wantsUnit)
abbrev n_Mo_wantsUnit : Nat := 151
def t_Mo_say : List xa_I := [
  (65535, .nop, 0, [1057, 73], 0),
  (0, .aload_n 0, 1, [0], 0),
  (1, .iconst 0, 1, [], 0),
  (2, .putfield 50, 3, [11, 0, 0, 0, 0, 916], 0),
  (5, .aload_n 0, 1, [0], 0),
  (6, .iconst 0, 1, [], 0),
  (7, .putfield 121, 3, [11, 13, 0, 0, 0, 929], 0),
  (10, .aload_n 0, 1, [0], 0),
  (11, .iconst 0, 1, [], 0),
  (12, .putfield 133, 3, [11, 15, 0, 0, 0, 931], 0),
  (15, .aload_n 0, 1, [0], 0),
  (16, .iconst 0, 1, [], 0),
  (17, .putfield 124, 3, [11, 17, 0, 0, 0, 933], 0),
  (20, .aload_n 0, 1, [0], 0),
  (21, .iconst 0, 1, [], 0),
  (22, .putfield 127, 3, [11, 18, 0, 0, 0, 934], 0),
  (25, .aload_n 0, 1, [0], 0),
  (26, .invokevirtual 104, 3, [0, 145, 0, 11, 0, 1011, 1013, 33], 0),
  (29, .iconst 1, 1, [], 1),
  (30, .istore_n 1, 1, [1], 0),
  (31, .aload_n 0, 1, [0], 0),
  (32, .invokevirtual 97, 3, [0, 142, 0, 11, 0, 1035, 1037, 39], 0),
  (35, .ifCond .eq 23, 3, [58], 0),
  (38, .iload_n 1, 1, [1], 0),
  (39, .ifCond .ne 10, 3, [49], 0),
  (42, .aload_n 0, 1, [0], 0),
  (43, .getfield 77, 3, [11, 6, 0, 0, 0, 922], 0),
  (46, .ifCond .eq 12, 3, [58], 0),
  (49, .aload_n 0, 1, [0], 0),
  (50, .iload_n 1, 1, [1], 0),
  (51, .invokevirtual 146, 3, [0, 151, 1, 11, 0, 1058, 1060, 43], 0),
  (54, .istore_n 1, 1, [1], 0),
  (55, .goto (-24), 3, [31], 0),
  (58, .aload_n 0, 1, [0], 0),
  (59, .invokevirtual 97, 3, [0, 142, 0, 11, 0, 1035, 1037, 39], 0),
  (62, .ifCond .eq 20, 3, [82], 0),
  (65, .aload_n 0, 1, [0], 0),
  (66, .invokevirtual 142, 3, [0, 149, 0, 11, 0, 1074, 1076, 47], 0),
  (69, .bipush (-9), 2, [], (-9)),
  (71, .if_icmp .eq 11, 3, [82], 0),
  (74, .aload_n 0, 1, [0], 0),
  (75, .aload_n 0, 1, [0], 0),
  (76, .getfield 74, 3, [11, 7, 0, 0, 0, 923], 0),
  (79, .putfield 94, 3, [11, 9, 0, 0, 0, 925], 0),
  (82, .aload_n 0, 1, [0], 0),
  (83, .invokevirtual 97, 3, [0, 142, 0, 11, 0, 1035, 1037, 39], 0),
  (86, .ifCond .ne 11, 3, [97], 0),
  (89, .bipush (-10), 2, [], (-10)),
  (91, .aload_n 0, 1, [0], 0),
  (92, .getfield 94, 3, [11, 9, 0, 0, 0, 925], 0),
  (95, .isub, 1, [], 0),
  (96, .ireturn, 1, [0], 0),
  (97, .aload_n 0, 1, [0], 0),
  (98, .getfield 124, 3, [11, 17, 0, 0, 0, 933], 0),
  (101, .ifCond .le 29, 3, [130], 0),
  (104, .aload_n 0, 1, [0], 0),
  (105, .dup, 1, [], 0),
  (106, .getfield 124, 3, [11, 17, 0, 0, 0, 933], 0),
  (109, .iconst 1, 1, [], 1),
  (110, .isub, 1, [], 0),
  (111, .putfield 124, 3, [11, 17, 0, 0, 0, 933], 0),
  (114, .aload_n 0, 1, [0], 0),
  (115, .aload_n 0, 1, [0], 0),
  (116, .getfield 25, 3, [11, 16, 0, 0, 0, 932], 0),
  (119, .aload_n 0, 1, [0], 0),
  (120, .getfield 124, 3, [11, 17, 0, 0, 0, 933], 0),
  (123, .iaload, 1, [], 0),
  (124, .invokevirtual 130, 3, [0, 147, 1, 11, 0, 1066, 1068, 45], 0),
  (127, .goto (-30), 3, [97], 0),
  (130, .iconst 0, 1, [], 0),
  (131, .istore_n 2, 1, [2], 0),
  (132, .iload_n 2, 1, [2], 0),
  (133, .aload_n 0, 1, [0], 0),
  (134, .getfield 121, 3, [11, 13, 0, 0, 0, 929], 0),
  (137, .if_icmp .ge 21, 3, [158], 0),
  (140, .aload_n 0, 1, [0], 0),
  (141, .getfield 19, 3, [11, 10, 0, 0, 0, 926], 0),
  (144, .iload_n 2, 1, [2], 0),
  (145, .aload_n 0, 1, [0], 0),
  (146, .getfield 22, 3, [11, 11, 0, 0, 0, 927], 0),
  (149, .iload_n 2, 1, [2], 0),
  (150, .iaload, 1, [], 0),
  (151, .iastore, 1, [], 0),
  (152, .iinc 2 1, 3, [2], 1),
  (155, .goto (-23), 3, [132], 0),
  (158, .aload_n 0, 1, [0], 0),
  (159, .aload_n 0, 1, [0], 0),
  (160, .getfield 121, 3, [11, 13, 0, 0, 0, 929], 0),
  (163, .putfield 44, 3, [11, 12, 0, 0, 0, 928], 0),
  (166, .aload_n 0, 1, [0], 0),
  (167, .aload_n 0, 1, [0], 0),
  (168, .getfield 133, 3, [11, 15, 0, 0, 0, 931], 0),
  (171, .putfield 47, 3, [11, 14, 0, 0, 0, 930], 0),
  (174, .aload_n 0, 1, [0], 0),
  (175, .iconst 0, 1, [], 0),
  (176, .putfield 65, 3, [11, 4, 0, 0, 0, 920], 0),
  (179, .aload_n 0, 1, [0], 0),
  (180, .getfield 47, 3, [11, 14, 0, 0, 0, 930], 0),
  (183, .ireturn, 1, [0], 0)]
def m_Mo_say : xa_M := (⟨"MayMustModel", "say", "()I"⟩, prog_13_method_26_code, 3, (some .int), t_Mo_say)
abbrev n_Mo_say : Nat := 152
def t_Mo_many : List xa_I := [
  (65535, .nop, 0, [1085, 73], 0),
  (0, .iconst 0, 1, [], 0),
  (1, .istore_n 3, 1, [3], 0),
  (2, .iconst 0, 1, [], 0),
  (3, .istore 4, 2, [4], 0),
  (5, .iload 4, 2, [4], 0),
  (7, .bipush 108, 2, [], 108),
  (9, .if_icmp .ge 33, 3, [42], 0),
  (12, .iload_n 3, 1, [3], 0),
  (13, .aload_n 0, 1, [0], 0),
  (14, .getfield 7, 3, [11, 1, 0, 0, 0, 917], 0),
  (17, .bipush 108, 2, [], 108),
  (19, .iload_n 1, 1, [1], 0),
  (20, .imul, 1, [], 0),
  (21, .iload 4, 2, [4], 0),
  (23, .iadd, 1, [], 0),
  (24, .iaload, 1, [], 0),
  (25, .iload_n 2, 1, [2], 0),
  (26, .if_icmp .ne 7, 3, [33], 0),
  (29, .iconst 1, 1, [], 1),
  (30, .goto 4, 3, [34], 0),
  (33, .iconst 0, 1, [], 0),
  (34, .iadd, 1, [], 0),
  (35, .istore_n 3, 1, [3], 0),
  (36, .iinc 4 1, 3, [4], 1),
  (39, .goto (-34), 3, [5], 0),
  (42, .iload_n 3, 1, [3], 0),
  (43, .ireturn, 1, [0], 0)]
def m_Mo_many : xa_M := (⟨"MayMustModel", "many", "(II)I"⟩, prog_13_method_27_code, 5, (some .int), t_Mo_many)
abbrev n_Mo_many : Nat := 153
def t_Mo_states : List xa_I := [
  (65535, .nop, 0, [1081, 73], 0),
  (0, .aload_n 0, 1, [0], 0),
  (1, .iconst 0, 1, [], 0),
  (2, .putfield 50, 3, [11, 0, 0, 0, 0, 916], 0),
  (5, .iload_n 1, 1, [1], 0),
  (6, .invokestatic 57, 3, [0, 130, 1, 0, 0, 1008, 1009], 0),
  (9, .ifCond .eq 12, 3, [21], 0),
  (12, .iload_n 2, 1, [2], 0),
  (13, .iconst 0, 1, [], 0),
  (14, .iconst 2, 1, [], 2),
  (15, .invokestatic 53, 3, [0, 129, 3, 0, 0, 996, 997], 0),
  (18, .ifCond .ne 7, 3, [25], 0),
  (21, .iconst (-1), 1, [], (-1)),
  (22, .goto 31, 3, [53], 0),
  (25, .iload_n 2, 1, [2], 0),
  (26, .ifCond .ne 12, 3, [38], 0),
  (29, .aload_n 0, 1, [0], 0),
  (30, .getfield 13, 3, [11, 2, 0, 0, 0, 918], 0),
  (33, .iload_n 1, 1, [1], 0),
  (34, .iaload, 1, [], 0),
  (35, .goto 18, 3, [53], 0),
  (38, .aload_n 0, 1, [0], 0),
  (39, .iload_n 1, 1, [1], 0),
  (40, .iload_n 2, 1, [2], 0),
  (41, .iconst 1, 1, [], 1),
  (42, .if_icmp .ne 7, 3, [49], 0),
  (45, .iconst 2, 1, [], 2),
  (46, .goto 4, 3, [50], 0),
  (49, .iconst 1, 1, [], 1),
  (50, .invokevirtual 150, 3, [0, 153, 2, 11, 0, 1082, 1084, 48], 0),
  (53, .ireturn, 1, [0], 0)]
def m_Mo_states : xa_M := (⟨"MayMustModel", "states", "(II)I"⟩, prog_13_method_28_code, 3, (some .int), t_Mo_states)
abbrev n_Mo_states : Nat := 154
def t_Mo_arrow : List xa_I := [
  (65535, .nop, 0, [1089, 73], 0),
  (0, .aload_n 0, 1, [0], 0),
  (1, .iconst 0, 1, [], 0),
  (2, .putfield 50, 3, [11, 0, 0, 0, 0, 916], 0),
  (5, .aload_n 0, 1, [0], 0),
  (6, .iload_n 1, 1, [1], 0),
  (7, .iload_n 2, 1, [2], 0),
  (8, .invokevirtual 154, 3, [0, 131, 2, 11, 0, 1090, 1092, 49], 0),
  (11, .ifCond .eq 34, 3, [45], 0),
  (14, .iload_n 3, 1, [3], 0),
  (15, .iconst 0, 1, [], 0),
  (16, .iconst 2, 1, [], 2),
  (17, .invokestatic 53, 3, [0, 129, 3, 0, 0, 996, 997], 0),
  (20, .ifCond .eq 25, 3, [45], 0),
  (23, .aload_n 0, 1, [0], 0),
  (24, .iload_n 1, 1, [1], 0),
  (25, .iload 4, 2, [4], 0),
  (27, .invokevirtual 154, 3, [0, 131, 2, 11, 0, 1090, 1092, 49], 0),
  (30, .ifCond .eq 15, 3, [45], 0),
  (33, .aload_n 0, 1, [0], 0),
  (34, .iload_n 1, 1, [1], 0),
  (35, .iload_n 2, 1, [2], 0),
  (36, .iload_n 3, 1, [3], 0),
  (37, .iload 4, 2, [4], 0),
  (39, .invokevirtual 158, 3, [0, 133, 4, 11, 0, 1094, 1096, 50], 0),
  (42, .goto 4, 3, [46], 0),
  (45, .iconst (-1), 1, [], (-1)),
  (46, .ireturn, 1, [0], 0)]
def m_Mo_arrow : xa_M := (⟨"MayMustModel", "arrow", "(IIII)I"⟩, prog_13_method_29_code, 5, (some .int), t_Mo_arrow)
abbrev n_Mo_arrow : Nat := 155
def t_Mo_put : List xa_I := [
  (65535, .nop, 0, [1101, 73], 0),
  (0, .aload_n 0, 1, [0], 0),
  (1, .iconst 0, 1, [], 0),
  (2, .putfield 50, 3, [11, 0, 0, 0, 0, 916], 0),
  (5, .aload_n 0, 1, [0], 0),
  (6, .iload_n 1, 1, [1], 0),
  (7, .iload_n 2, 1, [2], 0),
  (8, .invokevirtual 154, 3, [0, 131, 2, 11, 0, 1090, 1092, 49], 0),
  (11, .ifCond .eq 32, 3, [43], 0),
  (14, .iload_n 3, 1, [3], 0),
  (15, .iconst 0, 1, [], 0),
  (16, .iconst 2, 1, [], 2),
  (17, .invokestatic 53, 3, [0, 129, 3, 0, 0, 996, 997], 0),
  (20, .ifCond .eq 23, 3, [43], 0),
  (23, .aload_n 0, 1, [0], 0),
  (24, .iload_n 1, 1, [1], 0),
  (25, .iload 4, 2, [4], 0),
  (27, .invokevirtual 154, 3, [0, 131, 2, 11, 0, 1090, 1092, 49], 0),
  (30, .ifCond .eq 13, 3, [43], 0),
  (33, .iload 5, 2, [5], 0),
  (35, .iconst 0, 1, [], 0),
  (36, .iconst 2, 1, [], 2),
  (37, .invokestatic 53, 3, [0, 129, 3, 0, 0, 996, 997], 0),
  (40, .ifCond .ne 5, 3, [45], 0),
  (43, .iconst (-1), 1, [], (-1)),
  (44, .ireturn, 1, [0], 0),
  (45, .aload_n 0, 1, [0], 0),
  (46, .iload_n 1, 1, [1], 0),
  (47, .iload_n 2, 1, [2], 0),
  (48, .iload_n 3, 1, [3], 0),
  (49, .iload 4, 2, [4], 0),
  (51, .invokevirtual 158, 3, [0, 133, 4, 11, 0, 1094, 1096, 50], 0),
  (54, .istore 6, 2, [6], 0),
  (56, .aload_n 0, 1, [0], 0),
  (57, .getfield 7, 3, [11, 1, 0, 0, 0, 917], 0),
  (60, .iload_n 1, 1, [1], 0),
  (61, .iload_n 2, 1, [2], 0),
  (62, .iload_n 3, 1, [3], 0),
  (63, .iload 4, 2, [4], 0),
  (65, .invokestatic 61, 3, [0, 132, 4, 0, 0, 1047, 1048], 0),
  (68, .iload 5, 2, [5], 0),
  (70, .iastore, 1, [], 0),
  (71, .iload 6, 2, [6], 0),
  (73, .ireturn, 1, [0], 0)]
def m_Mo_put : xa_M := (⟨"MayMustModel", "put", "(IIIII)I"⟩, prog_13_method_30_code, 7, (some .int), t_Mo_put)
abbrev n_Mo_put : Nat := 156
def t_Mo_isThere : List xa_I := [
  (65535, .nop, 0, [1117, 73], 0),
  (0, .aload_n 0, 1, [0], 0),
  (1, .getfield 31, 3, [11, 20, 0, 0, 0, 936], 0),
  (4, .bipush 6, 2, [], 6),
  (6, .iload_n 1, 1, [1], 0),
  (7, .imul, 1, [], 0),
  (8, .iload_n 2, 1, [2], 0),
  (9, .iadd, 1, [], 0),
  (10, .iaload, 1, [], 0),
  (11, .ifCond .eq 18, 3, [29], 0),
  (14, .aload_n 0, 1, [0], 0),
  (15, .getfield 31, 3, [11, 20, 0, 0, 0, 936], 0),
  (18, .bipush 6, 2, [], 6),
  (20, .iload_n 1, 1, [1], 0),
  (21, .imul, 1, [], 0),
  (22, .iload_n 2, 1, [2], 0),
  (23, .iadd, 1, [], 0),
  (24, .iaload, 1, [], 0),
  (25, .iload_n 3, 1, [3], 0),
  (26, .if_icmp .lt 7, 3, [33], 0),
  (29, .iconst 1, 1, [], 1),
  (30, .goto 4, 3, [34], 0),
  (33, .iconst 0, 1, [], 0),
  (34, .ireturn, 1, [1], 0)]
def m_Mo_isThere : xa_M := (⟨"MayMustModel", "isThere", "(III)Z"⟩, prog_13_method_31_code, 4, (some .boolean), t_Mo_isThere)
abbrev n_Mo_isThere : Nat := 157
def t_Mo_why : List xa_I := [
  (65535, .nop, 0, [1113, 73], 0),
  (0, .iconst 0, 1, [], 0),
  (1, .istore 7, 2, [7], 0),
  (3, .iconst 0, 1, [], 0),
  (4, .istore 8, 2, [8], 0),
  (6, .iload 8, 2, [8], 0),
  (8, .aload_n 0, 1, [0], 0),
  (9, .getfield 13, 3, [11, 2, 0, 0, 0, 918], 0),
  (12, .iload_n 1, 1, [1], 0),
  (13, .iaload, 1, [], 0),
  (14, .if_icmp .ge 93, 3, [107], 0),
  (17, .aload_n 0, 1, [0], 0),
  (18, .iload_n 1, 1, [1], 0),
  (19, .iload_n 2, 1, [2], 0),
  (20, .iload 5, 2, [5], 0),
  (22, .iload 8, 2, [8], 0),
  (24, .invokevirtual 158, 3, [0, 133, 4, 11, 0, 1094, 1096, 50], 0),
  (27, .ifCond .ne 7, 3, [34], 0),
  (30, .iconst 1, 1, [], 1),
  (31, .goto 4, 3, [35], 0),
  (34, .iconst 0, 1, [], 0),
  (35, .istore 9, 2, [9], 0),
  (37, .iconst 0, 1, [], 0),
  (38, .istore 10, 2, [10], 0),
  (40, .iload 10, 2, [10], 0),
  (42, .aload_n 0, 1, [0], 0),
  (43, .getfield 13, 3, [11, 2, 0, 0, 0, 918], 0),
  (46, .iload_n 3, 1, [3], 0),
  (47, .iaload, 1, [], 0),
  (48, .if_icmp .ge 46, 3, [94], 0),
  (51, .iload 9, 2, [9], 0),
  (53, .aload_n 0, 1, [0], 0),
  (54, .iload_n 3, 1, [3], 0),
  (55, .iload 4, 2, [4], 0),
  (57, .iload 5, 2, [5], 0),
  (59, .iload 10, 2, [10], 0),
  (61, .invokevirtual 158, 3, [0, 133, 4, 11, 0, 1094, 1096, 50], 0),
  (64, .ifCond .le 20, 3, [84], 0),
  (67, .aload_n 0, 1, [0], 0),
  (68, .iload 8, 2, [8], 0),
  (70, .iload 10, 2, [10], 0),
  (72, .iload 6, 2, [6], 0),
  (74, .invokevirtual 161, 3, [0, 157, 3, 11, 0, 1114, 1116, 53], 0),
  (77, .ifCond .eq 7, 3, [84], 0),
  (80, .iconst 1, 1, [], 1),
  (81, .goto 4, 3, [85], 0),
  (84, .iconst 0, 1, [], 0),
  (85, .ior, 1, [], 0),
  (86, .istore 9, 2, [9], 0),
  (88, .iinc 10 1, 3, [10], 1),
  (91, .goto (-51), 3, [40], 0),
  (94, .iload 9, 2, [9], 0),
  (96, .ifCond .ne 5, 3, [101], 0),
  (99, .iconst 1, 1, [], 1),
  (100, .ireturn, 1, [0], 0),
  (101, .iinc 8 1, 3, [8], 1),
  (104, .goto (-98), 3, [6], 0),
  (107, .iconst 0, 1, [], 0),
  (108, .istore 8, 2, [8], 0),
  (110, .iload 8, 2, [8], 0),
  (112, .aload_n 0, 1, [0], 0),
  (113, .getfield 13, 3, [11, 2, 0, 0, 0, 918], 0),
  (116, .iload_n 3, 1, [3], 0),
  (117, .iaload, 1, [], 0),
  (118, .if_icmp .ge 103, 3, [221], 0),
  (121, .aload_n 0, 1, [0], 0),
  (122, .iload_n 3, 1, [3], 0),
  (123, .iload 4, 2, [4], 0),
  (125, .iload 5, 2, [5], 0),
  (127, .iload 8, 2, [8], 0),
  (129, .invokevirtual 158, 3, [0, 133, 4, 11, 0, 1094, 1096, 50], 0),
  (132, .iconst 2, 1, [], 2),
  (133, .if_icmp .ge 7, 3, [140], 0),
  (136, .iconst 1, 1, [], 1),
  (137, .goto 4, 3, [141], 0),
  (140, .iconst 0, 1, [], 0),
  (141, .istore 9, 2, [9], 0),
  (143, .iconst 0, 1, [], 0),
  (144, .istore 10, 2, [10], 0),
  (146, .iload 10, 2, [10], 0),
  (148, .aload_n 0, 1, [0], 0),
  (149, .getfield 13, 3, [11, 2, 0, 0, 0, 918], 0),
  (152, .iload_n 1, 1, [1], 0),
  (153, .iaload, 1, [], 0),
  (154, .if_icmp .ge 46, 3, [200], 0),
  (157, .iload 9, 2, [9], 0),
  (159, .aload_n 0, 1, [0], 0),
  (160, .iload_n 1, 1, [1], 0),
  (161, .iload_n 2, 1, [2], 0),
  (162, .iload 5, 2, [5], 0),
  (164, .iload 10, 2, [10], 0),
  (166, .invokevirtual 158, 3, [0, 133, 4, 11, 0, 1094, 1096, 50], 0),
  (169, .iconst 2, 1, [], 2),
  (170, .if_icmp .ne 20, 3, [190], 0),
  (173, .aload_n 0, 1, [0], 0),
  (174, .iload 10, 2, [10], 0),
  (176, .iload 8, 2, [8], 0),
  (178, .iload 6, 2, [6], 0),
  (180, .invokevirtual 161, 3, [0, 157, 3, 11, 0, 1114, 1116, 53], 0),
  (183, .ifCond .eq 7, 3, [190], 0),
  (186, .iconst 1, 1, [], 1),
  (187, .goto 4, 3, [191], 0),
  (190, .iconst 0, 1, [], 0),
  (191, .ior, 1, [], 0),
  (192, .istore 9, 2, [9], 0),
  (194, .iinc 10 1, 3, [10], 1),
  (197, .goto (-51), 3, [146], 0),
  (200, .iload 7, 2, [7], 0),
  (202, .iload 9, 2, [9], 0),
  (204, .ifCond .ne 7, 3, [211], 0),
  (207, .iconst 1, 1, [], 1),
  (208, .goto 4, 3, [212], 0),
  (211, .iconst 0, 1, [], 0),
  (212, .ior, 1, [], 0),
  (213, .istore 7, 2, [7], 0),
  (215, .iinc 8 1, 3, [8], 1),
  (218, .goto (-108), 3, [110], 0),
  (221, .iload 7, 2, [7], 0),
  (223, .ifCond .eq 7, 3, [230], 0),
  (226, .iconst 2, 1, [], 2),
  (227, .goto 4, 3, [231], 0),
  (230, .iconst 0, 1, [], 0),
  (231, .ireturn, 1, [0], 0)]
def m_Mo_why : xa_M := (⟨"MayMustModel", "why", "(IIIIII)I"⟩, prog_13_method_32_code, 11, (some .int), t_Mo_why)
abbrev n_Mo_why : Nat := 158
def t_Mo_goes : List xa_I := [
  (65535, .nop, 0, [1109, 73], 0),
  (0, .iconst 0, 1, [], 0),
  (1, .istore_n 3, 1, [3], 0),
  (2, .iload_n 3, 1, [3], 0),
  (3, .bipush 36, 2, [], 36),
  (5, .if_icmp .ge 16, 3, [21], 0),
  (8, .aload_n 0, 1, [0], 0),
  (9, .getfield 31, 3, [11, 20, 0, 0, 0, 936], 0),
  (12, .iload_n 3, 1, [3], 0),
  (13, .iconst 0, 1, [], 0),
  (14, .iastore, 1, [], 0),
  (15, .iinc 3 1, 3, [3], 1),
  (18, .goto (-16), 3, [2], 0),
  (21, .iconst 1, 1, [], 1),
  (22, .istore_n 3, 1, [3], 0),
  (23, .iconst 1, 1, [], 1),
  (24, .istore 4, 2, [4], 0),
  (26, .iload_n 3, 1, [3], 0),
  (27, .ifCond .eq 134, 3, [161], 0),
  (30, .iconst 0, 1, [], 0),
  (31, .istore_n 3, 1, [3], 0),
  (32, .iconst 0, 1, [], 0),
  (33, .istore 5, 2, [5], 0),
  (35, .iload 5, 2, [5], 0),
  (37, .aload_n 0, 1, [0], 0),
  (38, .getfield 13, 3, [11, 2, 0, 0, 0, 918], 0),
  (41, .iload_n 1, 1, [1], 0),
  (42, .iaload, 1, [], 0),
  (43, .if_icmp .ge 112, 3, [155], 0),
  (46, .iconst 0, 1, [], 0),
  (47, .istore 6, 2, [6], 0),
  (49, .iload 6, 2, [6], 0),
  (51, .aload_n 0, 1, [0], 0),
  (52, .getfield 13, 3, [11, 2, 0, 0, 0, 918], 0),
  (55, .iload_n 2, 1, [2], 0),
  (56, .iaload, 1, [], 0),
  (57, .if_icmp .ge 92, 3, [149], 0),
  (60, .iconst 0, 1, [], 0),
  (61, .istore 7, 2, [7], 0),
  (63, .iconst 0, 1, [], 0),
  (64, .istore 8, 2, [8], 0),
  (66, .iload 8, 2, [8], 0),
  (68, .iconst 3, 1, [], 3),
  (69, .if_icmp .ge 52, 3, [121], 0),
  (72, .aload_n 0, 1, [0], 0),
  (73, .getfield 31, 3, [11, 20, 0, 0, 0, 936], 0),
  (76, .bipush 6, 2, [], 6),
  (78, .iload 5, 2, [5], 0),
  (80, .imul, 1, [], 0),
  (81, .iload 6, 2, [6], 0),
  (83, .iadd, 1, [], 0),
  (84, .iaload, 1, [], 0),
  (85, .ifCond .ne 36, 3, [121], 0),
  (88, .iload 7, 2, [7], 0),
  (90, .aload_n 0, 1, [0], 0),
  (91, .iload_n 1, 1, [1], 0),
  (92, .iload 5, 2, [5], 0),
  (94, .iload_n 2, 1, [2], 0),
  (95, .iload 6, 2, [6], 0),
  (97, .iload 8, 2, [8], 0),
  (99, .iload 4, 2, [4], 0),
  (101, .invokevirtual 164, 3, [0, 158, 6, 11, 0, 1110, 1112, 52], 0),
  (104, .ifCond .le 7, 3, [111], 0),
  (107, .iconst 1, 1, [], 1),
  (108, .goto 4, 3, [112], 0),
  (111, .iconst 0, 1, [], 0),
  (112, .ior, 1, [], 0),
  (113, .istore 7, 2, [7], 0),
  (115, .iinc 8 1, 3, [8], 1),
  (118, .goto (-52), 3, [66], 0),
  (121, .iload 7, 2, [7], 0),
  (123, .ifCond .eq 20, 3, [143], 0),
  (126, .aload_n 0, 1, [0], 0),
  (127, .getfield 31, 3, [11, 20, 0, 0, 0, 936], 0),
  (130, .bipush 6, 2, [], 6),
  (132, .iload 5, 2, [5], 0),
  (134, .imul, 1, [], 0),
  (135, .iload 6, 2, [6], 0),
  (137, .iadd, 1, [], 0),
  (138, .iload 4, 2, [4], 0),
  (140, .iastore, 1, [], 0),
  (141, .iconst 1, 1, [], 1),
  (142, .istore_n 3, 1, [3], 0),
  (143, .iinc 6 1, 3, [6], 1),
  (146, .goto (-97), 3, [49], 0),
  (149, .iinc 5 1, 3, [5], 1),
  (152, .goto (-117), 3, [35], 0),
  (155, .iinc 4 1, 3, [4], 1),
  (158, .goto (-132), 3, [26], 0),
  (161, .return_, 1, [], 0)]
def m_Mo_goes : xa_M := (⟨"MayMustModel", "goes", "(II)V"⟩, prog_13_method_33_code, 9, none, t_Mo_goes)
abbrev n_Mo_goes : Nat := 159
def t_Mo_stricter : List xa_I := [
  (65535, .nop, 0, [1105, 73], 0),
  (0, .aload_n 0, 1, [0], 0),
  (1, .iconst 0, 1, [], 0),
  (2, .putfield 50, 3, [11, 0, 0, 0, 0, 916], 0),
  (5, .iload_n 1, 1, [1], 0),
  (6, .invokestatic 57, 3, [0, 130, 1, 0, 0, 1008, 1009], 0),
  (9, .ifCond .eq 19, 3, [28], 0),
  (12, .iload_n 2, 1, [2], 0),
  (13, .invokestatic 57, 3, [0, 130, 1, 0, 0, 1008, 1009], 0),
  (16, .ifCond .eq 12, 3, [28], 0),
  (19, .iload_n 3, 1, [3], 0),
  (20, .iconst 0, 1, [], 0),
  (21, .iconst 3, 1, [], 3),
  (22, .invokestatic 53, 3, [0, 129, 3, 0, 0, 996, 997], 0),
  (25, .ifCond .ne 5, 3, [30], 0),
  (28, .iconst (-1), 1, [], (-1)),
  (29, .ireturn, 1, [0], 0),
  (30, .aload_n 0, 1, [0], 0),
  (31, .iload_n 1, 1, [1], 0),
  (32, .iload_n 2, 1, [2], 0),
  (33, .invokevirtual 168, 3, [0, 159, 2, 11, 0, 1106, 1108, 51], 0),
  (36, .aload_n 0, 1, [0], 0),
  (37, .getfield 31, 3, [11, 20, 0, 0, 0, 936], 0),
  (40, .iconst 0, 1, [], 0),
  (41, .iaload, 1, [], 0),
  (42, .istore 4, 2, [4], 0),
  (44, .iload_n 3, 1, [3], 0),
  (45, .iconst 2, 1, [], 2),
  (46, .if_icmp .ge 24, 3, [70], 0),
  (49, .iload_n 3, 1, [3], 0),
  (50, .iconst 1, 1, [], 1),
  (51, .if_icmp .ne 8, 3, [59], 0),
  (54, .iload 4, 2, [4], 0),
  (56, .goto 13, 3, [69], 0),
  (59, .iload 4, 2, [4], 0),
  (61, .ifCond .ne 7, 3, [68], 0),
  (64, .iconst 1, 1, [], 1),
  (65, .goto 4, 3, [69], 0),
  (68, .iconst 0, 1, [], 0),
  (69, .ireturn, 1, [0], 0),
  (70, .iconst 0, 1, [], 0),
  (71, .istore 5, 2, [5], 0),
  (73, .iload 5, 2, [5], 0),
  (75, .iconst 3, 1, [], 3),
  (76, .if_icmp .ge 46, 3, [122], 0),
  (79, .iload 4, 2, [4], 0),
  (81, .ifCond .le 41, 3, [122], 0),
  (84, .aload_n 0, 1, [0], 0),
  (85, .iload_n 1, 1, [1], 0),
  (86, .iconst 0, 1, [], 0),
  (87, .iload_n 2, 1, [2], 0),
  (88, .iconst 0, 1, [], 0),
  (89, .iload 5, 2, [5], 0),
  (91, .iload 4, 2, [4], 0),
  (93, .invokevirtual 164, 3, [0, 158, 6, 11, 0, 1110, 1112, 52], 0),
  (96, .istore 6, 2, [6], 0),
  (98, .iload 6, 2, [6], 0),
  (100, .ifCond .le 16, 3, [116], 0),
  (103, .iload_n 3, 1, [3], 0),
  (104, .iconst 2, 1, [], 2),
  (105, .if_icmp .ne 8, 3, [113], 0),
  (108, .iload 5, 2, [5], 0),
  (110, .goto 5, 3, [115], 0),
  (113, .iload 6, 2, [6], 0),
  (115, .ireturn, 1, [0], 0),
  (116, .iinc 5 1, 3, [5], 1),
  (119, .goto (-46), 3, [73], 0),
  (122, .iload_n 3, 1, [3], 0),
  (123, .iconst 2, 1, [], 2),
  (124, .if_icmp .ne 8, 3, [132], 0),
  (127, .bipush (-9), 2, [], (-9)),
  (129, .goto 4, 3, [133], 0),
  (132, .iconst 0, 1, [], 0),
  (133, .ireturn, 1, [0], 0)]
def m_Mo_stricter : xa_M := (⟨"MayMustModel", "stricter", "(III)I"⟩, prog_13_method_34_code, 7, (some .int), t_Mo_stricter)
abbrev n_Mo_stricter : Nat := 160
def t_Mo_stays : List xa_I := [
  (65535, .nop, 0, [1121, 73], 0),
  (0, .aload_n 0, 1, [0], 0),
  (1, .iconst 0, 1, [], 0),
  (2, .putfield 50, 3, [11, 0, 0, 0, 0, 916], 0),
  (5, .aload_n 0, 1, [0], 0),
  (6, .iload_n 1, 1, [1], 0),
  (7, .iload_n 2, 1, [2], 0),
  (8, .invokevirtual 154, 3, [0, 131, 2, 11, 0, 1090, 1092, 49], 0),
  (11, .ifCond .eq 13, 3, [24], 0),
  (14, .aload_n 0, 1, [0], 0),
  (15, .iload_n 3, 1, [3], 0),
  (16, .iload 4, 2, [4], 0),
  (18, .invokevirtual 154, 3, [0, 131, 2, 11, 0, 1090, 1092, 49], 0),
  (21, .ifCond .ne 5, 3, [26], 0),
  (24, .iconst (-1), 1, [], (-1)),
  (25, .ireturn, 1, [0], 0),
  (26, .aload_n 0, 1, [0], 0),
  (27, .iload_n 1, 1, [1], 0),
  (28, .iload_n 3, 1, [3], 0),
  (29, .invokevirtual 168, 3, [0, 159, 2, 11, 0, 1106, 1108, 51], 0),
  (32, .aload_n 0, 1, [0], 0),
  (33, .getfield 31, 3, [11, 20, 0, 0, 0, 936], 0),
  (36, .bipush 6, 2, [], 6),
  (38, .iload_n 2, 1, [2], 0),
  (39, .imul, 1, [], 0),
  (40, .iload 4, 2, [4], 0),
  (42, .iadd, 1, [], 0),
  (43, .iaload, 1, [], 0),
  (44, .ireturn, 1, [0], 0)]
def m_Mo_stays : xa_M := (⟨"MayMustModel", "stays", "(IIII)I"⟩, prog_13_method_35_code, 5, (some .int), t_Mo_stays)
abbrev n_Mo_stays : Nat := 161
def t_Mo_alike : List xa_I := [
  (65535, .nop, 0, [1125, 73], 0),
  (0, .aload_n 0, 1, [0], 0),
  (1, .iconst 0, 1, [], 0),
  (2, .putfield 50, 3, [11, 0, 0, 0, 0, 916], 0),
  (5, .iload_n 1, 1, [1], 0),
  (6, .invokestatic 57, 3, [0, 130, 1, 0, 0, 1008, 1009], 0),
  (9, .ifCond .eq 10, 3, [19], 0),
  (12, .iload_n 2, 1, [2], 0),
  (13, .invokestatic 57, 3, [0, 130, 1, 0, 0, 1008, 1009], 0),
  (16, .ifCond .ne 5, 3, [21], 0),
  (19, .iconst (-1), 1, [], (-1)),
  (20, .ireturn, 1, [0], 0),
  (21, .aload_n 0, 1, [0], 0),
  (22, .iload_n 1, 1, [1], 0),
  (23, .iload_n 2, 1, [2], 0),
  (24, .invokevirtual 168, 3, [0, 159, 2, 11, 0, 1106, 1108, 51], 0),
  (27, .aload_n 0, 1, [0], 0),
  (28, .getfield 31, 3, [11, 20, 0, 0, 0, 936], 0),
  (31, .iconst 0, 1, [], 0),
  (32, .iaload, 1, [], 0),
  (33, .ifCond .ne 7, 3, [40], 0),
  (36, .iconst 1, 1, [], 1),
  (37, .goto 4, 3, [41], 0),
  (40, .iconst 0, 1, [], 0),
  (41, .istore_n 3, 1, [3], 0),
  (42, .aload_n 0, 1, [0], 0),
  (43, .iload_n 2, 1, [2], 0),
  (44, .iload_n 1, 1, [1], 0),
  (45, .invokevirtual 168, 3, [0, 159, 2, 11, 0, 1106, 1108, 51], 0),
  (48, .iload_n 3, 1, [3], 0),
  (49, .ifCond .eq 16, 3, [65], 0),
  (52, .aload_n 0, 1, [0], 0),
  (53, .getfield 31, 3, [11, 20, 0, 0, 0, 936], 0),
  (56, .iconst 0, 1, [], 0),
  (57, .iaload, 1, [], 0),
  (58, .ifCond .ne 7, 3, [65], 0),
  (61, .iconst 1, 1, [], 1),
  (62, .goto 4, 3, [66], 0),
  (65, .iconst 0, 1, [], 0),
  (66, .ireturn, 1, [0], 0)]
def m_Mo_alike : xa_M := (⟨"MayMustModel", "alike", "(II)I"⟩, prog_13_method_36_code, 4, (some .int), t_Mo_alike)
abbrev n_Mo_alike : Nat := 162
def t_Mo_smalls : List xa_I := [
  (65535, .nop, 0, [1133, 73], 0),
  (0, .aload_n 0, 1, [0], 0),
  (1, .iload_n 1, 1, [1], 0),
  (2, .iload_n 1, 1, [1], 0),
  (3, .invokevirtual 168, 3, [0, 159, 2, 11, 0, 1106, 1108, 51], 0),
  (6, .aload_n 0, 1, [0], 0),
  (7, .getfield 13, 3, [11, 2, 0, 0, 0, 918], 0),
  (10, .iload_n 1, 1, [1], 0),
  (11, .iaload, 1, [], 0),
  (12, .istore_n 2, 1, [2], 0),
  (13, .iconst 0, 1, [], 0),
  (14, .istore_n 3, 1, [3], 0),
  (15, .iload_n 3, 1, [3], 0),
  (16, .iload_n 2, 1, [2], 0),
  (17, .if_icmp .ge 79, 3, [96], 0),
  (20, .aload_n 0, 1, [0], 0),
  (21, .getfield 34, 3, [11, 21, 0, 0, 0, 937], 0),
  (24, .iload_n 3, 1, [3], 0),
  (25, .iload_n 3, 1, [3], 0),
  (26, .iastore, 1, [], 0),
  (27, .iload_n 3, 1, [3], 0),
  (28, .iconst 1, 1, [], 1),
  (29, .isub, 1, [], 0),
  (30, .istore 4, 2, [4], 0),
  (32, .iload 4, 2, [4], 0),
  (34, .ifCond .lt 56, 3, [90], 0),
  (37, .aload_n 0, 1, [0], 0),
  (38, .getfield 34, 3, [11, 21, 0, 0, 0, 937], 0),
  (41, .iload_n 3, 1, [3], 0),
  (42, .aload_n 0, 1, [0], 0),
  (43, .getfield 31, 3, [11, 20, 0, 0, 0, 936], 0),
  (46, .bipush 6, 2, [], 6),
  (48, .iload_n 3, 1, [3], 0),
  (49, .imul, 1, [], 0),
  (50, .iload 4, 2, [4], 0),
  (52, .iadd, 1, [], 0),
  (53, .iaload, 1, [], 0),
  (54, .ifCond .ne 23, 3, [77], 0),
  (57, .aload_n 0, 1, [0], 0),
  (58, .getfield 31, 3, [11, 20, 0, 0, 0, 936], 0),
  (61, .bipush 6, 2, [], 6),
  (63, .iload 4, 2, [4], 0),
  (65, .imul, 1, [], 0),
  (66, .iload_n 3, 1, [3], 0),
  (67, .iadd, 1, [], 0),
  (68, .iaload, 1, [], 0),
  (69, .ifCond .ne 8, 3, [77], 0),
  (72, .iload 4, 2, [4], 0),
  (74, .goto 9, 3, [83], 0),
  (77, .aload_n 0, 1, [0], 0),
  (78, .getfield 34, 3, [11, 21, 0, 0, 0, 937], 0),
  (81, .iload_n 3, 1, [3], 0),
  (82, .iaload, 1, [], 0),
  (83, .iastore, 1, [], 0),
  (84, .iinc 4 (-1), 3, [4], (-1)),
  (87, .goto (-55), 3, [32], 0),
  (90, .iinc 3 1, 3, [3], 1),
  (93, .goto (-78), 3, [15], 0),
  (96, .iconst 1, 1, [], 1),
  (97, .istore_n 3, 1, [3], 0),
  (98, .iconst 0, 1, [], 0),
  (99, .istore 4, 2, [4], 0),
  (101, .iload 4, 2, [4], 0),
  (103, .iload_n 3, 1, [3], 0),
  (104, .if_icmp .eq 87, 3, [191], 0),
  (107, .iload_n 3, 1, [3], 0),
  (108, .istore 4, 2, [4], 0),
  (110, .iconst 0, 1, [], 0),
  (111, .istore 5, 2, [5], 0),
  (113, .iload 5, 2, [5], 0),
  (115, .iload_n 2, 1, [2], 0),
  (116, .if_icmp .ge 72, 3, [188], 0),
  (119, .iconst 0, 1, [], 0),
  (120, .istore 6, 2, [6], 0),
  (122, .iload 6, 2, [6], 0),
  (124, .iconst 3, 1, [], 3),
  (125, .iload_n 2, 1, [2], 0),
  (126, .imul, 1, [], 0),
  (127, .if_icmp .ge 55, 3, [182], 0),
  (130, .iload_n 3, 1, [3], 0),
  (131, .iload 5, 2, [5], 0),
  (133, .ishr, 1, [], 0),
  (134, .iconst 1, 1, [], 1),
  (135, .iand, 1, [], 0),
  (136, .iconst 1, 1, [], 1),
  (137, .if_icmp .ne 45, 3, [182], 0),
  (140, .iload_n 3, 1, [3], 0),
  (141, .aload_n 0, 1, [0], 0),
  (142, .iload_n 1, 1, [1], 0),
  (143, .iload 5, 2, [5], 0),
  (145, .iload 6, 2, [6], 0),
  (147, .iload_n 2, 1, [2], 0),
  (148, .idiv, 1, [], 0),
  (149, .iload 6, 2, [6], 0),
  (151, .iload_n 2, 1, [2], 0),
  (152, .irem, 1, [], 0),
  (153, .invokevirtual 158, 3, [0, 133, 4, 11, 0, 1094, 1096, 50], 0),
  (156, .ifCond .le 17, 3, [173], 0),
  (159, .iconst 1, 1, [], 1),
  (160, .aload_n 0, 1, [0], 0),
  (161, .getfield 34, 3, [11, 21, 0, 0, 0, 937], 0),
  (164, .iload 6, 2, [6], 0),
  (166, .iload_n 2, 1, [2], 0),
  (167, .irem, 1, [], 0),
  (168, .iaload, 1, [], 0),
  (169, .ishl, 1, [], 0),
  (170, .goto 4, 3, [174], 0),
  (173, .iconst 0, 1, [], 0),
  (174, .ior, 1, [], 0),
  (175, .istore_n 3, 1, [3], 0),
  (176, .iinc 6 1, 3, [6], 1),
  (179, .goto (-57), 3, [122], 0),
  (182, .iinc 5 1, 3, [5], 1),
  (185, .goto (-72), 3, [113], 0),
  (188, .goto (-87), 3, [101], 0),
  (191, .iconst 0, 1, [], 0),
  (192, .istore 5, 2, [5], 0),
  (194, .iconst 0, 1, [], 0),
  (195, .istore 6, 2, [6], 0),
  (197, .iload 6, 2, [6], 0),
  (199, .iload_n 2, 1, [2], 0),
  (200, .if_icmp .ge 38, 3, [238], 0),
  (203, .aload_n 0, 1, [0], 0),
  (204, .getfield 37, 3, [11, 22, 0, 0, 0, 938], 0),
  (207, .iload 6, 2, [6], 0),
  (209, .iload 5, 2, [5], 0),
  (211, .iastore, 1, [], 0),
  (212, .iload 5, 2, [5], 0),
  (214, .iload_n 3, 1, [3], 0),
  (215, .iload 6, 2, [6], 0),
  (217, .ishr, 1, [], 0),
  (218, .iconst 1, 1, [], 1),
  (219, .iand, 1, [], 0),
  (220, .iconst 1, 1, [], 1),
  (221, .if_icmp .ne 7, 3, [228], 0),
  (224, .iconst 1, 1, [], 1),
  (225, .goto 4, 3, [229], 0),
  (228, .iconst 0, 1, [], 0),
  (229, .iadd, 1, [], 0),
  (230, .istore 5, 2, [5], 0),
  (232, .iinc 6 1, 3, [6], 1),
  (235, .goto (-38), 3, [197], 0),
  (238, .aload_n 0, 1, [0], 0),
  (239, .bipush 6, 2, [], 6),
  (241, .iload 5, 2, [5], 0),
  (243, .invokevirtual 114, 3, [0, 134, 2, 11, 0, 1043, 1045, 41], 0),
  (246, .iconst 0, 1, [], 0),
  (247, .istore 6, 2, [6], 0),
  (249, .iload 6, 2, [6], 0),
  (251, .iload_n 2, 1, [2], 0),
  (252, .if_icmp .ge 123, 3, [375], 0),
  (255, .iconst 0, 1, [], 0),
  (256, .istore 7, 2, [7], 0),
  (258, .iload 7, 2, [7], 0),
  (260, .iconst 3, 1, [], 3),
  (261, .iload_n 2, 1, [2], 0),
  (262, .imul, 1, [], 0),
  (263, .if_icmp .ge 106, 3, [369], 0),
  (266, .iload_n 3, 1, [3], 0),
  (267, .iload 6, 2, [6], 0),
  (269, .ishr, 1, [], 0),
  (270, .iconst 1, 1, [], 1),
  (271, .iand, 1, [], 0),
  (272, .iconst 1, 1, [], 1),
  (273, .if_icmp .ne 96, 3, [369], 0),
  (276, .iload 7, 2, [7], 0),
  (278, .iload_n 2, 1, [2], 0),
  (279, .irem, 1, [], 0),
  (280, .istore 8, 2, [8], 0),
  (282, .aload_n 0, 1, [0], 0),
  (283, .iload_n 1, 1, [1], 0),
  (284, .iload 6, 2, [6], 0),
  (286, .iload 7, 2, [7], 0),
  (288, .iload_n 2, 1, [2], 0),
  (289, .idiv, 1, [], 0),
  (290, .iload 8, 2, [8], 0),
  (292, .invokevirtual 158, 3, [0, 133, 4, 11, 0, 1094, 1096, 50], 0),
  (295, .istore 9, 2, [9], 0),
  (297, .iload 9, 2, [9], 0),
  (299, .ifCond .le 64, 3, [363], 0),
  (302, .bipush 6, 2, [], 6),
  (304, .aload_n 0, 1, [0], 0),
  (305, .getfield 37, 3, [11, 22, 0, 0, 0, 938], 0),
  (308, .iload 6, 2, [6], 0),
  (310, .iaload, 1, [], 0),
  (311, .iload 7, 2, [7], 0),
  (313, .iload_n 2, 1, [2], 0),
  (314, .idiv, 1, [], 0),
  (315, .aload_n 0, 1, [0], 0),
  (316, .getfield 37, 3, [11, 22, 0, 0, 0, 938], 0),
  (319, .aload_n 0, 1, [0], 0),
  (320, .getfield 34, 3, [11, 21, 0, 0, 0, 937], 0),
  (323, .iload 8, 2, [8], 0),
  (325, .iaload, 1, [], 0),
  (326, .iaload, 1, [], 0),
  (327, .invokestatic 61, 3, [0, 132, 4, 0, 0, 1047, 1048], 0),
  (330, .istore 10, 2, [10], 0),
  (332, .aload_n 0, 1, [0], 0),
  (333, .getfield 7, 3, [11, 1, 0, 0, 0, 917], 0),
  (336, .iload 10, 2, [10], 0),
  (338, .aload_n 0, 1, [0], 0),
  (339, .getfield 7, 3, [11, 1, 0, 0, 0, 917], 0),
  (342, .iload 10, 2, [10], 0),
  (344, .iaload, 1, [], 0),
  (345, .iload 9, 2, [9], 0),
  (347, .if_icmp .ge 8, 3, [355], 0),
  (350, .iload 9, 2, [9], 0),
  (352, .goto 10, 3, [362], 0),
  (355, .aload_n 0, 1, [0], 0),
  (356, .getfield 7, 3, [11, 1, 0, 0, 0, 917], 0),
  (359, .iload 10, 2, [10], 0),
  (361, .iaload, 1, [], 0),
  (362, .iastore, 1, [], 0),
  (363, .iinc 7 1, 3, [7], 1),
  (366, .goto (-108), 3, [258], 0),
  (369, .iinc 6 1, 3, [6], 1),
  (372, .goto (-123), 3, [249], 0),
  (375, .return_, 1, [], 0)]
def m_Mo_smalls : xa_M := (⟨"MayMustModel", "smalls", "(I)V"⟩, prog_13_method_37_code, 11, none, t_Mo_smalls)
abbrev n_Mo_smalls : Nat := 163
def t_Mo_make : List xa_I := [
  (65535, .nop, 0, [1129, 73], 0),
  (0, .aload_n 0, 1, [0], 0),
  (1, .iconst 0, 1, [], 0),
  (2, .putfield 50, 3, [11, 0, 0, 0, 0, 916], 0),
  (5, .iload_n 1, 1, [1], 0),
  (6, .invokestatic 57, 3, [0, 130, 1, 0, 0, 1008, 1009], 0),
  (9, .ifCond .eq 19, 3, [28], 0),
  (12, .iload_n 2, 1, [2], 0),
  (13, .iconst 0, 1, [], 0),
  (14, .iconst 2, 1, [], 2),
  (15, .invokestatic 53, 3, [0, 129, 3, 0, 0, 996, 997], 0),
  (18, .ifCond .eq 10, 3, [28], 0),
  (21, .iload_n 3, 1, [3], 0),
  (22, .invokestatic 57, 3, [0, 130, 1, 0, 0, 1008, 1009], 0),
  (25, .ifCond .ne 5, 3, [30], 0),
  (28, .iconst (-1), 1, [], (-1)),
  (29, .ireturn, 1, [0], 0),
  (30, .iload_n 2, 1, [2], 0),
  (31, .iconst 2, 1, [], 2),
  (32, .if_icmp .ne 11, 3, [43], 0),
  (35, .aload_n 0, 1, [0], 0),
  (36, .iload_n 1, 1, [1], 0),
  (37, .invokevirtual 171, 3, [0, 163, 1, 11, 0, 1130, 1132, 54], 0),
  (40, .goto 65, 3, [105], 0),
  (43, .aload_n 0, 1, [0], 0),
  (44, .iload_n 1, 1, [1], 0),
  (45, .bipush 6, 2, [], 6),
  (47, .invokevirtual 118, 3, [0, 135, 2, 11, 0, 1050, 1052, 42], 0),
  (50, .iconst 0, 1, [], 0),
  (51, .istore 4, 2, [4], 0),
  (53, .iload 4, 2, [4], 0),
  (55, .bipush 108, 2, [], 108),
  (57, .if_icmp .ge 48, 3, [105], 0),
  (60, .aload_n 0, 1, [0], 0),
  (61, .getfield 7, 3, [11, 1, 0, 0, 0, 917], 0),
  (64, .bipush 108, 2, [], 108),
  (66, .iload_n 1, 1, [1], 0),
  (67, .imul, 1, [], 0),
  (68, .iload 4, 2, [4], 0),
  (70, .iadd, 1, [], 0),
  (71, .iaload, 1, [], 0),
  (72, .istore 5, 2, [5], 0),
  (74, .aload_n 0, 1, [0], 0),
  (75, .getfield 7, 3, [11, 1, 0, 0, 0, 917], 0),
  (78, .sipush 648, 3, [], 648),
  (81, .iload 4, 2, [4], 0),
  (83, .iadd, 1, [], 0),
  (84, .iload 5, 2, [5], 0),
  (86, .iconst 1, 1, [], 1),
  (87, .if_icmp .ne 9, 3, [96], 0),
  (90, .iconst 2, 1, [], 2),
  (91, .iload_n 2, 1, [2], 0),
  (92, .imul, 1, [], 0),
  (93, .goto 5, 3, [98], 0),
  (96, .iload 5, 2, [5], 0),
  (98, .iastore, 1, [], 0),
  (99, .iinc 4 1, 3, [4], 1),
  (102, .goto (-49), 3, [53], 0),
  (105, .aload_n 0, 1, [0], 0),
  (106, .bipush 6, 2, [], 6),
  (108, .iload_n 3, 1, [3], 0),
  (109, .invokevirtual 118, 3, [0, 135, 2, 11, 0, 1050, 1052, 42], 0),
  (112, .aload_n 0, 1, [0], 0),
  (113, .getfield 13, 3, [11, 2, 0, 0, 0, 918], 0),
  (116, .iload_n 3, 1, [3], 0),
  (117, .iaload, 1, [], 0),
  (118, .ireturn, 1, [0], 0)]
def m_Mo_make : xa_M := (⟨"MayMustModel", "make", "(III)I"⟩, prog_13_method_38_code, 6, (some .int), t_Mo_make)
abbrev n_Mo_make : Nat := 164
def t_Mo_isClash : List xa_I := [
  (65535, .nop, 0, [1145, 73], 0),
  (0, .iconst 0, 1, [], 0),
  (1, .istore 6, 2, [6], 0),
  (3, .iconst 0, 1, [], 0),
  (4, .istore 7, 2, [7], 0),
  (6, .iload 7, 2, [7], 0),
  (8, .iconst 3, 1, [], 3),
  (9, .if_icmp .ge 245, 3, [254], 0),
  (12, .iconst 0, 1, [], 0),
  (13, .istore 8, 2, [8], 0),
  (15, .iload 8, 2, [8], 0),
  (17, .aload_n 0, 1, [0], 0),
  (18, .getfield 13, 3, [11, 2, 0, 0, 0, 918], 0),
  (21, .iload_n 1, 1, [1], 0),
  (22, .iaload, 1, [], 0),
  (23, .if_icmp .ge 107, 3, [130], 0),
  (26, .aload_n 0, 1, [0], 0),
  (27, .iload_n 1, 1, [1], 0),
  (28, .iload_n 2, 1, [2], 0),
  (29, .iload 7, 2, [7], 0),
  (31, .iload 8, 2, [8], 0),
  (33, .invokevirtual 158, 3, [0, 133, 4, 11, 0, 1094, 1096, 50], 0),
  (36, .iconst 2, 1, [], 2),
  (37, .if_icmp .ge 7, 3, [44], 0),
  (40, .iconst 1, 1, [], 1),
  (41, .goto 4, 3, [45], 0),
  (44, .iconst 0, 1, [], 0),
  (45, .istore 9, 2, [9], 0),
  (47, .iconst 0, 1, [], 0),
  (48, .istore 10, 2, [10], 0),
  (50, .iload 10, 2, [10], 0),
  (52, .aload_n 0, 1, [0], 0),
  (53, .getfield 13, 3, [11, 2, 0, 0, 0, 918], 0),
  (56, .iload_n 3, 1, [3], 0),
  (57, .iaload, 1, [], 0),
  (58, .if_icmp .ge 51, 3, [109], 0),
  (61, .iload 9, 2, [9], 0),
  (63, .aload_n 0, 1, [0], 0),
  (64, .iload_n 3, 1, [3], 0),
  (65, .iload 4, 2, [4], 0),
  (67, .iload 7, 2, [7], 0),
  (69, .iload 10, 2, [10], 0),
  (71, .invokevirtual 158, 3, [0, 133, 4, 11, 0, 1094, 1096, 50], 0),
  (74, .ifCond .le 25, 3, [99], 0),
  (77, .aload_n 0, 1, [0], 0),
  (78, .getfield 31, 3, [11, 20, 0, 0, 0, 936], 0),
  (81, .bipush 6, 2, [], 6),
  (83, .iload 8, 2, [8], 0),
  (85, .imul, 1, [], 0),
  (86, .iload 10, 2, [10], 0),
  (88, .iadd, 1, [], 0),
  (89, .iaload, 1, [], 0),
  (90, .iload 5, 2, [5], 0),
  (92, .if_icmp .ne 7, 3, [99], 0),
  (95, .iconst 1, 1, [], 1),
  (96, .goto 4, 3, [100], 0),
  (99, .iconst 0, 1, [], 0),
  (100, .ior, 1, [], 0),
  (101, .istore 9, 2, [9], 0),
  (103, .iinc 10 1, 3, [10], 1),
  (106, .goto (-56), 3, [50], 0),
  (109, .iload 6, 2, [6], 0),
  (111, .iload 9, 2, [9], 0),
  (113, .ifCond .ne 7, 3, [120], 0),
  (116, .iconst 1, 1, [], 1),
  (117, .goto 4, 3, [121], 0),
  (120, .iconst 0, 1, [], 0),
  (121, .ior, 1, [], 0),
  (122, .istore 6, 2, [6], 0),
  (124, .iinc 8 1, 3, [8], 1),
  (127, .goto (-112), 3, [15], 0),
  (130, .iconst 0, 1, [], 0),
  (131, .istore 8, 2, [8], 0),
  (133, .iload 8, 2, [8], 0),
  (135, .aload_n 0, 1, [0], 0),
  (136, .getfield 13, 3, [11, 2, 0, 0, 0, 918], 0),
  (139, .iload_n 3, 1, [3], 0),
  (140, .iaload, 1, [], 0),
  (141, .if_icmp .ge 107, 3, [248], 0),
  (144, .aload_n 0, 1, [0], 0),
  (145, .iload_n 3, 1, [3], 0),
  (146, .iload 4, 2, [4], 0),
  (148, .iload 7, 2, [7], 0),
  (150, .iload 8, 2, [8], 0),
  (152, .invokevirtual 158, 3, [0, 133, 4, 11, 0, 1094, 1096, 50], 0),
  (155, .iconst 2, 1, [], 2),
  (156, .if_icmp .ge 7, 3, [163], 0),
  (159, .iconst 1, 1, [], 1),
  (160, .goto 4, 3, [164], 0),
  (163, .iconst 0, 1, [], 0),
  (164, .istore 9, 2, [9], 0),
  (166, .iconst 0, 1, [], 0),
  (167, .istore 10, 2, [10], 0),
  (169, .iload 10, 2, [10], 0),
  (171, .aload_n 0, 1, [0], 0),
  (172, .getfield 13, 3, [11, 2, 0, 0, 0, 918], 0),
  (175, .iload_n 1, 1, [1], 0),
  (176, .iaload, 1, [], 0),
  (177, .if_icmp .ge 50, 3, [227], 0),
  (180, .iload 9, 2, [9], 0),
  (182, .aload_n 0, 1, [0], 0),
  (183, .iload_n 1, 1, [1], 0),
  (184, .iload_n 2, 1, [2], 0),
  (185, .iload 7, 2, [7], 0),
  (187, .iload 10, 2, [10], 0),
  (189, .invokevirtual 158, 3, [0, 133, 4, 11, 0, 1094, 1096, 50], 0),
  (192, .ifCond .le 25, 3, [217], 0),
  (195, .aload_n 0, 1, [0], 0),
  (196, .getfield 31, 3, [11, 20, 0, 0, 0, 936], 0),
  (199, .bipush 6, 2, [], 6),
  (201, .iload 10, 2, [10], 0),
  (203, .imul, 1, [], 0),
  (204, .iload 8, 2, [8], 0),
  (206, .iadd, 1, [], 0),
  (207, .iaload, 1, [], 0),
  (208, .iload 5, 2, [5], 0),
  (210, .if_icmp .ne 7, 3, [217], 0),
  (213, .iconst 1, 1, [], 1),
  (214, .goto 4, 3, [218], 0),
  (217, .iconst 0, 1, [], 0),
  (218, .ior, 1, [], 0),
  (219, .istore 9, 2, [9], 0),
  (221, .iinc 10 1, 3, [10], 1),
  (224, .goto (-55), 3, [169], 0),
  (227, .iload 6, 2, [6], 0),
  (229, .iload 9, 2, [9], 0),
  (231, .ifCond .ne 7, 3, [238], 0),
  (234, .iconst 1, 1, [], 1),
  (235, .goto 4, 3, [239], 0),
  (238, .iconst 0, 1, [], 0),
  (239, .ior, 1, [], 0),
  (240, .istore 6, 2, [6], 0),
  (242, .iinc 8 1, 3, [8], 1),
  (245, .goto (-112), 3, [133], 0),
  (248, .iinc 7 1, 3, [7], 1),
  (251, .goto (-245), 3, [6], 0),
  (254, .iload 6, 2, [6], 0),
  (256, .ireturn, 1, [1], 0)]
def m_Mo_isClash : xa_M := (⟨"MayMustModel", "isClash", "(IIIII)Z"⟩, prog_13_method_39_code, 11, (some .boolean), t_Mo_isClash)
abbrev n_Mo_isClash : Nat := 165
def t_Mo_clash : List xa_I := [
  (65535, .nop, 0, [1141, 73], 0),
  (0, .iconst 0, 1, [], 0),
  (1, .istore_n 3, 1, [3], 0),
  (2, .iload_n 3, 1, [3], 0),
  (3, .bipush 36, 2, [], 36),
  (5, .if_icmp .ge 16, 3, [21], 0),
  (8, .aload_n 0, 1, [0], 0),
  (9, .getfield 31, 3, [11, 20, 0, 0, 0, 936], 0),
  (12, .iload_n 3, 1, [3], 0),
  (13, .iconst 0, 1, [], 0),
  (14, .iastore, 1, [], 0),
  (15, .iinc 3 1, 3, [3], 1),
  (18, .goto (-16), 3, [2], 0),
  (21, .iconst 1, 1, [], 1),
  (22, .istore_n 3, 1, [3], 0),
  (23, .iload_n 3, 1, [3], 0),
  (24, .ifCond .eq 94, 3, [118], 0),
  (27, .iconst 0, 1, [], 0),
  (28, .istore_n 3, 1, [3], 0),
  (29, .iconst 0, 1, [], 0),
  (30, .istore 4, 2, [4], 0),
  (32, .iload 4, 2, [4], 0),
  (34, .aload_n 0, 1, [0], 0),
  (35, .getfield 13, 3, [11, 2, 0, 0, 0, 918], 0),
  (38, .iload_n 1, 1, [1], 0),
  (39, .iaload, 1, [], 0),
  (40, .if_icmp .ge 75, 3, [115], 0),
  (43, .iconst 0, 1, [], 0),
  (44, .istore 5, 2, [5], 0),
  (46, .iload 5, 2, [5], 0),
  (48, .aload_n 0, 1, [0], 0),
  (49, .getfield 13, 3, [11, 2, 0, 0, 0, 918], 0),
  (52, .iload_n 2, 1, [2], 0),
  (53, .iaload, 1, [], 0),
  (54, .if_icmp .ge 55, 3, [109], 0),
  (57, .aload_n 0, 1, [0], 0),
  (58, .getfield 31, 3, [11, 20, 0, 0, 0, 936], 0),
  (61, .bipush 6, 2, [], 6),
  (63, .iload 4, 2, [4], 0),
  (65, .imul, 1, [], 0),
  (66, .iload 5, 2, [5], 0),
  (68, .iadd, 1, [], 0),
  (69, .iaload, 1, [], 0),
  (70, .ifCond .ne 33, 3, [103], 0),
  (73, .aload_n 0, 1, [0], 0),
  (74, .iload_n 1, 1, [1], 0),
  (75, .iload 4, 2, [4], 0),
  (77, .iload_n 2, 1, [2], 0),
  (78, .iload 5, 2, [5], 0),
  (80, .iconst 0, 1, [], 0),
  (81, .invokevirtual 174, 3, [0, 165, 5, 11, 0, 1142, 1144, 56], 0),
  (84, .ifCond .eq 19, 3, [103], 0),
  (87, .aload_n 0, 1, [0], 0),
  (88, .getfield 31, 3, [11, 20, 0, 0, 0, 936], 0),
  (91, .bipush 6, 2, [], 6),
  (93, .iload 4, 2, [4], 0),
  (95, .imul, 1, [], 0),
  (96, .iload 5, 2, [5], 0),
  (98, .iadd, 1, [], 0),
  (99, .iconst 1, 1, [], 1),
  (100, .iastore, 1, [], 0),
  (101, .iconst 1, 1, [], 1),
  (102, .istore_n 3, 1, [3], 0),
  (103, .iinc 5 1, 3, [5], 1),
  (106, .goto (-60), 3, [46], 0),
  (109, .iinc 4 1, 3, [4], 1),
  (112, .goto (-80), 3, [32], 0),
  (115, .goto (-92), 3, [23], 0),
  (118, .return_, 1, [], 0)]
def m_Mo_clash : xa_M := (⟨"MayMustModel", "clash", "(II)V"⟩, prog_13_method_40_code, 6, none, t_Mo_clash)
abbrev n_Mo_clash : Nat := 166
def t_Mo_join : List xa_I := [
  (65535, .nop, 0, [1137, 73], 0),
  (0, .aload_n 0, 1, [0], 0),
  (1, .iconst 0, 1, [], 0),
  (2, .putfield 50, 3, [11, 0, 0, 0, 0, 916], 0),
  (5, .iload_n 1, 1, [1], 0),
  (6, .invokestatic 57, 3, [0, 130, 1, 0, 0, 1008, 1009], 0),
  (9, .ifCond .eq 27, 3, [36], 0),
  (12, .iload_n 2, 1, [2], 0),
  (13, .invokestatic 57, 3, [0, 130, 1, 0, 0, 1008, 1009], 0),
  (16, .ifCond .eq 20, 3, [36], 0),
  (19, .iload_n 3, 1, [3], 0),
  (20, .iconst 0, 1, [], 0),
  (21, .iconst 1, 1, [], 1),
  (22, .invokestatic 53, 3, [0, 129, 3, 0, 0, 996, 997], 0),
  (25, .ifCond .eq 11, 3, [36], 0),
  (28, .iload 4, 2, [4], 0),
  (30, .invokestatic 57, 3, [0, 130, 1, 0, 0, 1008, 1009], 0),
  (33, .ifCond .ne 5, 3, [38], 0),
  (36, .iconst (-1), 1, [], (-1)),
  (37, .ireturn, 1, [0], 0),
  (38, .iconst 0, 1, [], 0),
  (39, .istore 5, 2, [5], 0),
  (41, .iload 5, 2, [5], 0),
  (43, .bipush 36, 2, [], 36),
  (45, .if_icmp .ge 26, 3, [71], 0),
  (48, .aload_n 0, 1, [0], 0),
  (49, .getfield 31, 3, [11, 20, 0, 0, 0, 936], 0),
  (52, .iload 5, 2, [5], 0),
  (54, .iconst 0, 1, [], 0),
  (55, .iastore, 1, [], 0),
  (56, .aload_n 0, 1, [0], 0),
  (57, .getfield 37, 3, [11, 22, 0, 0, 0, 938], 0),
  (60, .iload 5, 2, [5], 0),
  (62, .bipush (-9), 2, [], (-9)),
  (64, .iastore, 1, [], 0),
  (65, .iinc 5 1, 3, [5], 1),
  (68, .goto (-27), 3, [41], 0),
  (71, .iload_n 3, 1, [3], 0),
  (72, .iconst 1, 1, [], 1),
  (73, .if_icmp .ne 9, 3, [82], 0),
  (76, .aload_n 0, 1, [0], 0),
  (77, .iload_n 1, 1, [1], 0),
  (78, .iload_n 2, 1, [2], 0),
  (79, .invokevirtual 178, 3, [0, 166, 2, 11, 0, 1138, 1140, 55], 0),
  (82, .aload_n 0, 1, [0], 0),
  (83, .getfield 31, 3, [11, 20, 0, 0, 0, 936], 0),
  (86, .iconst 0, 1, [], 0),
  (87, .iaload, 1, [], 0),
  (88, .ifCond .eq 6, 3, [94], 0),
  (91, .bipush (-2), 2, [], (-2)),
  (93, .ireturn, 1, [0], 0),
  (94, .aload_n 0, 1, [0], 0),
  (95, .bipush 6, 2, [], 6),
  (97, .iconst 1, 1, [], 1),
  (98, .invokevirtual 114, 3, [0, 134, 2, 11, 0, 1043, 1045, 41], 0),
  (101, .aload_n 0, 1, [0], 0),
  (102, .getfield 37, 3, [11, 22, 0, 0, 0, 938], 0),
  (105, .iconst 0, 1, [], 0),
  (106, .iconst 0, 1, [], 0),
  (107, .iastore, 1, [], 0),
  (108, .aload_n 0, 1, [0], 0),
  (109, .getfield 34, 3, [11, 21, 0, 0, 0, 937], 0),
  (112, .iconst 0, 1, [], 0),
  (113, .iconst 0, 1, [], 0),
  (114, .iastore, 1, [], 0),
  (115, .iconst 1, 1, [], 1),
  (116, .istore 5, 2, [5], 0),
  (118, .iconst 0, 1, [], 0),
  (119, .istore 6, 2, [6], 0),
  (121, .iload 6, 2, [6], 0),
  (123, .iload 5, 2, [5], 0),
  (125, .if_icmp .ge 262, 3, [387], 0),
  (128, .aload_n 0, 1, [0], 0),
  (129, .getfield 34, 3, [11, 21, 0, 0, 0, 937], 0),
  (132, .iload 6, 2, [6], 0),
  (134, .iaload, 1, [], 0),
  (135, .bipush 6, 2, [], 6),
  (137, .idiv, 1, [], 0),
  (138, .istore 7, 2, [7], 0),
  (140, .aload_n 0, 1, [0], 0),
  (141, .getfield 34, 3, [11, 21, 0, 0, 0, 937], 0),
  (144, .iload 6, 2, [6], 0),
  (146, .iaload, 1, [], 0),
  (147, .bipush 6, 2, [], 6),
  (149, .irem, 1, [], 0),
  (150, .istore 8, 2, [8], 0),
  (152, .iconst 0, 1, [], 0),
  (153, .istore 9, 2, [9], 0),
  (155, .iload 9, 2, [9], 0),
  (157, .iconst 3, 1, [], 3),
  (158, .if_icmp .ge 223, 3, [381], 0),
  (161, .iconst 0, 1, [], 0),
  (162, .istore 10, 2, [10], 0),
  (164, .iload 10, 2, [10], 0),
  (166, .aload_n 0, 1, [0], 0),
  (167, .getfield 13, 3, [11, 2, 0, 0, 0, 918], 0),
  (170, .iload_n 1, 1, [1], 0),
  (171, .iaload, 1, [], 0),
  (172, .if_icmp .ge 203, 3, [375], 0),
  (175, .iconst 0, 1, [], 0),
  (176, .istore 11, 2, [11], 0),
  (178, .iload 11, 2, [11], 0),
  (180, .aload_n 0, 1, [0], 0),
  (181, .getfield 13, 3, [11, 2, 0, 0, 0, 918], 0),
  (184, .iload_n 2, 1, [2], 0),
  (185, .iaload, 1, [], 0),
  (186, .if_icmp .ge 183, 3, [369], 0),
  (189, .aload_n 0, 1, [0], 0),
  (190, .iload_n 1, 1, [1], 0),
  (191, .iload 7, 2, [7], 0),
  (193, .iload 9, 2, [9], 0),
  (195, .iload 10, 2, [10], 0),
  (197, .invokevirtual 158, 3, [0, 133, 4, 11, 0, 1094, 1096, 50], 0),
  (200, .istore 12, 2, [12], 0),
  (202, .aload_n 0, 1, [0], 0),
  (203, .iload_n 2, 1, [2], 0),
  (204, .iload 8, 2, [8], 0),
  (206, .iload 9, 2, [9], 0),
  (208, .iload 11, 2, [11], 0),
  (210, .invokevirtual 158, 3, [0, 133, 4, 11, 0, 1094, 1096, 50], 0),
  (213, .istore 13, 2, [13], 0),
  (215, .bipush 6, 2, [], 6),
  (217, .iload 10, 2, [10], 0),
  (219, .imul, 1, [], 0),
  (220, .iload 11, 2, [11], 0),
  (222, .iadd, 1, [], 0),
  (223, .istore 14, 2, [14], 0),
  (225, .iload 12, 2, [12], 0),
  (227, .ifCond .le 136, 3, [363], 0),
  (230, .iload 13, 2, [13], 0),
  (232, .ifCond .le 131, 3, [363], 0),
  (235, .aload_n 0, 1, [0], 0),
  (236, .getfield 31, 3, [11, 20, 0, 0, 0, 936], 0),
  (239, .iload 14, 2, [14], 0),
  (241, .iaload, 1, [], 0),
  (242, .ifCond .ne 121, 3, [363], 0),
  (245, .aload_n 0, 1, [0], 0),
  (246, .getfield 37, 3, [11, 22, 0, 0, 0, 938], 0),
  (249, .iload 14, 2, [14], 0),
  (251, .iaload, 1, [], 0),
  (252, .bipush (-9), 2, [], (-9)),
  (254, .if_icmp .ne 24, 3, [278], 0),
  (257, .aload_n 0, 1, [0], 0),
  (258, .getfield 37, 3, [11, 22, 0, 0, 0, 938], 0),
  (261, .iload 14, 2, [14], 0),
  (263, .iload 5, 2, [5], 0),
  (265, .iastore, 1, [], 0),
  (266, .aload_n 0, 1, [0], 0),
  (267, .getfield 34, 3, [11, 21, 0, 0, 0, 937], 0),
  (270, .iload 5, 2, [5], 0),
  (272, .iload 14, 2, [14], 0),
  (274, .iastore, 1, [], 0),
  (275, .iinc 5 1, 3, [5], 1),
  (278, .iload_n 3, 1, [3], 0),
  (279, .ifCond .ne 18, 3, [297], 0),
  (282, .iload 12, 2, [12], 0),
  (284, .iload 13, 2, [13], 0),
  (286, .if_icmp .ge 7, 3, [293], 0),
  (289, .iconst 1, 1, [], 1),
  (290, .goto 19, 3, [309], 0),
  (293, .iconst 0, 1, [], 0),
  (294, .goto 15, 3, [309], 0),
  (297, .iload 12, 2, [12], 0),
  (299, .iload 13, 2, [13], 0),
  (301, .if_icmp .le 7, 3, [308], 0),
  (304, .iconst 1, 1, [], 1),
  (305, .goto 4, 3, [309], 0),
  (308, .iconst 0, 1, [], 0),
  (309, .istore 15, 2, [15], 0),
  (311, .iload 6, 2, [6], 0),
  (313, .bipush 6, 2, [], 6),
  (315, .if_icmp .ge 48, 3, [363], 0),
  (318, .aload_n 0, 1, [0], 0),
  (319, .getfield 37, 3, [11, 22, 0, 0, 0, 938], 0),
  (322, .iload 14, 2, [14], 0),
  (324, .iaload, 1, [], 0),
  (325, .bipush 6, 2, [], 6),
  (327, .if_icmp .ge 36, 3, [363], 0),
  (330, .aload_n 0, 1, [0], 0),
  (331, .getfield 7, 3, [11, 1, 0, 0, 0, 917], 0),
  (334, .bipush 6, 2, [], 6),
  (336, .iload 6, 2, [6], 0),
  (338, .iload 9, 2, [9], 0),
  (340, .aload_n 0, 1, [0], 0),
  (341, .getfield 37, 3, [11, 22, 0, 0, 0, 938], 0),
  (344, .iload 14, 2, [14], 0),
  (346, .iaload, 1, [], 0),
  (347, .invokestatic 61, 3, [0, 132, 4, 0, 0, 1047, 1048], 0),
  (350, .iload 15, 2, [15], 0),
  (352, .ifCond .eq 8, 3, [360], 0),
  (355, .iload 12, 2, [12], 0),
  (357, .goto 5, 3, [362], 0),
  (360, .iload 13, 2, [13], 0),
  (362, .iastore, 1, [], 0),
  (363, .iinc 11 1, 3, [11], 1),
  (366, .goto (-188), 3, [178], 0),
  (369, .iinc 10 1, 3, [10], 1),
  (372, .goto (-208), 3, [164], 0),
  (375, .iinc 9 1, 3, [9], 1),
  (378, .goto (-223), 3, [155], 0),
  (381, .iinc 6 1, 3, [6], 1),
  (384, .goto (-263), 3, [121], 0),
  (387, .iload 5, 2, [5], 0),
  (389, .bipush 6, 2, [], 6),
  (391, .if_icmp .le 6, 3, [397], 0),
  (394, .bipush (-3), 2, [], (-3)),
  (396, .ireturn, 1, [0], 0),
  (397, .aload_n 0, 1, [0], 0),
  (398, .getfield 13, 3, [11, 2, 0, 0, 0, 918], 0),
  (401, .bipush 6, 2, [], 6),
  (403, .iload 5, 2, [5], 0),
  (405, .iastore, 1, [], 0),
  (406, .aload_n 0, 1, [0], 0),
  (407, .bipush 6, 2, [], 6),
  (409, .iload 4, 2, [4], 0),
  (411, .invokevirtual 118, 3, [0, 135, 2, 11, 0, 1050, 1052, 42], 0),
  (414, .iload 5, 2, [5], 0),
  (416, .ireturn, 1, [0], 0)]
def m_Mo_join : xa_M := (⟨"MayMustModel", "join", "(IIII)I"⟩, prog_13_method_41_code, 16, (some .int), t_Mo_join)
abbrev n_Mo_join : Nat := 167
def t_Mo_goingTo : List xa_I := [
  (65535, .nop, 0, [1157, 73], 0),
  (0, .iload 4, 2, [4], 0),
  (2, .ifCond .eq 7, 3, [9], 0),
  (5, .iconst 2, 1, [], 2),
  (6, .goto 4, 3, [10], 0),
  (9, .iconst 0, 1, [], 0),
  (10, .istore 6, 2, [6], 0),
  (12, .iconst 0, 1, [], 0),
  (13, .istore 7, 2, [7], 0),
  (15, .iload 7, 2, [7], 0),
  (17, .aload_n 0, 1, [0], 0),
  (18, .getfield 13, 3, [11, 2, 0, 0, 0, 918], 0),
  (21, .iload_n 1, 1, [1], 0),
  (22, .iaload, 1, [], 0),
  (23, .if_icmp .ge 122, 3, [145], 0),
  (26, .aload_n 0, 1, [0], 0),
  (27, .iload_n 1, 1, [1], 0),
  (28, .iload_n 2, 1, [2], 0),
  (29, .iload_n 3, 1, [3], 0),
  (30, .iload 7, 2, [7], 0),
  (32, .invokevirtual 158, 3, [0, 133, 4, 11, 0, 1094, 1096, 50], 0),
  (35, .istore 8, 2, [8], 0),
  (37, .aload_n 0, 1, [0], 0),
  (38, .getfield 28, 3, [11, 19, 0, 0, 0, 935], 0),
  (41, .iload 5, 2, [5], 0),
  (43, .iload 7, 2, [7], 0),
  (45, .iadd, 1, [], 0),
  (46, .iaload, 1, [], 0),
  (47, .istore 9, 2, [9], 0),
  (49, .iload 8, 2, [8], 0),
  (51, .ifCond .le 47, 3, [98], 0),
  (54, .iload 4, 2, [4], 0),
  (56, .ifCond .eq 42, 3, [98], 0),
  (59, .iload 8, 2, [8], 0),
  (61, .iconst 1, 1, [], 1),
  (62, .if_icmp .ne 13, 3, [75], 0),
  (65, .iload 9, 2, [9], 0),
  (67, .iconst 1, 1, [], 1),
  (68, .if_icmp .ge 7, 3, [75], 0),
  (71, .iconst 1, 1, [], 1),
  (72, .goto 5, 3, [77], 0),
  (75, .iload 9, 2, [9], 0),
  (77, .istore 9, 2, [9], 0),
  (79, .iload 9, 2, [9], 0),
  (81, .iload 6, 2, [6], 0),
  (83, .if_icmp .ge 8, 3, [91], 0),
  (86, .iload 9, 2, [9], 0),
  (88, .goto 5, 3, [93], 0),
  (91, .iload 6, 2, [6], 0),
  (93, .istore 6, 2, [6], 0),
  (95, .goto 44, 3, [139], 0),
  (98, .iload 8, 2, [8], 0),
  (100, .ifCond .le 39, 3, [139], 0),
  (103, .iload 8, 2, [8], 0),
  (105, .iconst 1, 1, [], 1),
  (106, .if_icmp .ne 13, 3, [119], 0),
  (109, .iload 9, 2, [9], 0),
  (111, .iconst 1, 1, [], 1),
  (112, .if_icmp .le 7, 3, [119], 0),
  (115, .iconst 1, 1, [], 1),
  (116, .goto 5, 3, [121], 0),
  (119, .iload 9, 2, [9], 0),
  (121, .istore 9, 2, [9], 0),
  (123, .iload 9, 2, [9], 0),
  (125, .iload 6, 2, [6], 0),
  (127, .if_icmp .le 8, 3, [135], 0),
  (130, .iload 9, 2, [9], 0),
  (132, .goto 5, 3, [137], 0),
  (135, .iload 6, 2, [6], 0),
  (137, .istore 6, 2, [6], 0),
  (139, .iinc 7 1, 3, [7], 1),
  (142, .goto (-127), 3, [15], 0),
  (145, .iload 6, 2, [6], 0),
  (147, .ireturn, 1, [0], 0)]
def m_Mo_goingTo : xa_M := (⟨"MayMustModel", "goingTo", "(IIIZI)I"⟩, prog_13_method_42_code, 10, (some .int), t_Mo_goingTo)
abbrev n_Mo_goingTo : Nat := 168
def t_Mo_values : List xa_I := [
  (65535, .nop, 0, [1153, 73], 0),
  (0, .iconst 0, 1, [], 0),
  (1, .istore_n 2, 1, [2], 0),
  (2, .iconst 0, 1, [], 0),
  (3, .istore_n 3, 1, [3], 0),
  (4, .iload_n 3, 1, [3], 0),
  (5, .aload_n 0, 1, [0], 0),
  (6, .getfield 44, 3, [11, 12, 0, 0, 0, 928], 0),
  (9, .if_icmp .ge 312, 3, [321], 0),
  (12, .aload_n 0, 1, [0], 0),
  (13, .getfield 19, 3, [11, 10, 0, 0, 0, 926], 0),
  (16, .iload_n 3, 1, [3], 0),
  (17, .iaload, 1, [], 0),
  (18, .istore 4, 2, [4], 0),
  (20, .iload 4, 2, [4], 0),
  (22, .iconst 2, 1, [], 2),
  (23, .if_icmp .ge 38, 3, [61], 0),
  (26, .iconst 0, 1, [], 0),
  (27, .istore 5, 2, [5], 0),
  (29, .iload 5, 2, [5], 0),
  (31, .bipush 6, 2, [], 6),
  (33, .if_icmp .ge 22, 3, [55], 0),
  (36, .aload_n 0, 1, [0], 0),
  (37, .getfield 28, 3, [11, 19, 0, 0, 0, 935], 0),
  (40, .iload_n 2, 1, [2], 0),
  (41, .iload 5, 2, [5], 0),
  (43, .iadd, 1, [], 0),
  (44, .iconst 2, 1, [], 2),
  (45, .iload 4, 2, [4], 0),
  (47, .imul, 1, [], 0),
  (48, .iastore, 1, [], 0),
  (49, .iinc 5 1, 3, [5], 1),
  (52, .goto (-23), 3, [29], 0),
  (55, .iinc 2 6, 3, [2], 6),
  (58, .goto 257, 3, [315], 0),
  (61, .iload 4, 2, [4], 0),
  (63, .bipush 38, 2, [], 38),
  (65, .if_icmp .eq 10, 3, [75], 0),
  (68, .iload 4, 2, [4], 0),
  (70, .bipush 124, 2, [], 124),
  (72, .if_icmp .ne 96, 3, [168], 0),
  (75, .iinc 2 (-6), 3, [2], (-6)),
  (78, .iconst 0, 1, [], 0),
  (79, .istore 5, 2, [5], 0),
  (81, .iload 5, 2, [5], 0),
  (83, .bipush 6, 2, [], 6),
  (85, .if_icmp .ge 80, 3, [165], 0),
  (88, .aload_n 0, 1, [0], 0),
  (89, .getfield 28, 3, [11, 19, 0, 0, 0, 935], 0),
  (92, .iload_n 2, 1, [2], 0),
  (93, .bipush 6, 2, [], 6),
  (95, .isub, 1, [], 0),
  (96, .iload 5, 2, [5], 0),
  (98, .iadd, 1, [], 0),
  (99, .iaload, 1, [], 0),
  (100, .istore 6, 2, [6], 0),
  (102, .aload_n 0, 1, [0], 0),
  (103, .getfield 28, 3, [11, 19, 0, 0, 0, 935], 0),
  (106, .iload_n 2, 1, [2], 0),
  (107, .iload 5, 2, [5], 0),
  (109, .iadd, 1, [], 0),
  (110, .iaload, 1, [], 0),
  (111, .istore 7, 2, [7], 0),
  (113, .aload_n 0, 1, [0], 0),
  (114, .getfield 28, 3, [11, 19, 0, 0, 0, 935], 0),
  (117, .iload_n 2, 1, [2], 0),
  (118, .bipush 6, 2, [], 6),
  (120, .isub, 1, [], 0),
  (121, .iload 5, 2, [5], 0),
  (123, .iadd, 1, [], 0),
  (124, .iload 6, 2, [6], 0),
  (126, .iload 7, 2, [7], 0),
  (128, .if_icmp .ge 7, 3, [135], 0),
  (131, .iconst 1, 1, [], 1),
  (132, .goto 4, 3, [136], 0),
  (135, .iconst 0, 1, [], 0),
  (136, .iload 4, 2, [4], 0),
  (138, .bipush 38, 2, [], 38),
  (140, .if_icmp .ne 7, 3, [147], 0),
  (143, .iconst 1, 1, [], 1),
  (144, .goto 4, 3, [148], 0),
  (147, .iconst 0, 1, [], 0),
  (148, .if_icmp .ne 8, 3, [156], 0),
  (151, .iload 6, 2, [6], 0),
  (153, .goto 5, 3, [158], 0),
  (156, .iload 7, 2, [7], 0),
  (158, .iastore, 1, [], 0),
  (159, .iinc 5 1, 3, [5], 1),
  (162, .goto (-81), 3, [81], 0),
  (165, .goto 150, 3, [315], 0),
  (168, .iload 4, 2, [4], 0),
  (170, .bipush 33, 2, [], 33),
  (172, .if_icmp .ne 48, 3, [220], 0),
  (175, .iconst 0, 1, [], 0),
  (176, .istore 5, 2, [5], 0),
  (178, .iload 5, 2, [5], 0),
  (180, .bipush 6, 2, [], 6),
  (182, .if_icmp .ge 35, 3, [217], 0),
  (185, .aload_n 0, 1, [0], 0),
  (186, .getfield 28, 3, [11, 19, 0, 0, 0, 935], 0),
  (189, .iload_n 2, 1, [2], 0),
  (190, .bipush 6, 2, [], 6),
  (192, .isub, 1, [], 0),
  (193, .iload 5, 2, [5], 0),
  (195, .iadd, 1, [], 0),
  (196, .iconst 2, 1, [], 2),
  (197, .aload_n 0, 1, [0], 0),
  (198, .getfield 28, 3, [11, 19, 0, 0, 0, 935], 0),
  (201, .iload_n 2, 1, [2], 0),
  (202, .bipush 6, 2, [], 6),
  (204, .isub, 1, [], 0),
  (205, .iload 5, 2, [5], 0),
  (207, .iadd, 1, [], 0),
  (208, .iaload, 1, [], 0),
  (209, .isub, 1, [], 0),
  (210, .iastore, 1, [], 0),
  (211, .iinc 5 1, 3, [5], 1),
  (214, .goto (-36), 3, [178], 0),
  (217, .goto 98, 3, [315], 0),
  (220, .iconst 0, 1, [], 0),
  (221, .istore 5, 2, [5], 0),
  (223, .iload 5, 2, [5], 0),
  (225, .aload_n 0, 1, [0], 0),
  (226, .getfield 13, 3, [11, 2, 0, 0, 0, 918], 0),
  (229, .iload_n 1, 1, [1], 0),
  (230, .iaload, 1, [], 0),
  (231, .if_icmp .ge 45, 3, [276], 0),
  (234, .aload_n 0, 1, [0], 0),
  (235, .getfield 37, 3, [11, 22, 0, 0, 0, 938], 0),
  (238, .iload 5, 2, [5], 0),
  (240, .aload_n 0, 1, [0], 0),
  (241, .iload_n 1, 1, [1], 0),
  (242, .iload 5, 2, [5], 0),
  (244, .iload 4, 2, [4], 0),
  (246, .bipush 10, 2, [], 10),
  (248, .irem, 1, [], 0),
  (249, .iload 4, 2, [4], 0),
  (251, .sipush 310, 3, [], 310),
  (254, .if_icmp .lt 7, 3, [261], 0),
  (257, .iconst 1, 1, [], 1),
  (258, .goto 4, 3, [262], 0),
  (261, .iconst 0, 1, [], 0),
  (262, .iload_n 2, 1, [2], 0),
  (263, .bipush 6, 2, [], 6),
  (265, .isub, 1, [], 0),
  (266, .invokevirtual 181, 3, [0, 168, 5, 11, 0, 1154, 1156, 58], 0),
  (269, .iastore, 1, [], 0),
  (270, .iinc 5 1, 3, [5], 1),
  (273, .goto (-50), 3, [223], 0),
  (276, .iconst 0, 1, [], 0),
  (277, .istore 5, 2, [5], 0),
  (279, .iload 5, 2, [5], 0),
  (281, .aload_n 0, 1, [0], 0),
  (282, .getfield 13, 3, [11, 2, 0, 0, 0, 918], 0),
  (285, .iload_n 1, 1, [1], 0),
  (286, .iaload, 1, [], 0),
  (287, .if_icmp .ge 28, 3, [315], 0),
  (290, .aload_n 0, 1, [0], 0),
  (291, .getfield 28, 3, [11, 19, 0, 0, 0, 935], 0),
  (294, .iload_n 2, 1, [2], 0),
  (295, .bipush 6, 2, [], 6),
  (297, .isub, 1, [], 0),
  (298, .iload 5, 2, [5], 0),
  (300, .iadd, 1, [], 0),
  (301, .aload_n 0, 1, [0], 0),
  (302, .getfield 37, 3, [11, 22, 0, 0, 0, 938], 0),
  (305, .iload 5, 2, [5], 0),
  (307, .iaload, 1, [], 0),
  (308, .iastore, 1, [], 0),
  (309, .iinc 5 1, 3, [5], 1),
  (312, .goto (-33), 3, [279], 0),
  (315, .iinc 3 1, 3, [3], 1),
  (318, .goto (-314), 3, [4], 0),
  (321, .return_, 1, [], 0)]
def m_Mo_values : xa_M := (⟨"MayMustModel", "values", "(I)V"⟩, prog_13_method_43_code, 8, none, t_Mo_values)
abbrev n_Mo_values : Nat := 169
def t_Mo_value : List xa_I := [
  (65535, .nop, 0, [1149, 73], 0),
  (0, .aload_n 0, 1, [0], 0),
  (1, .iconst 0, 1, [], 0),
  (2, .putfield 50, 3, [11, 0, 0, 0, 0, 916], 0),
  (5, .aload_n 0, 1, [0], 0),
  (6, .iload_n 1, 1, [1], 0),
  (7, .iload_n 2, 1, [2], 0),
  (8, .invokevirtual 154, 3, [0, 131, 2, 11, 0, 1090, 1092, 49], 0),
  (11, .ifCond .ne 5, 3, [16], 0),
  (14, .iconst (-1), 1, [], (-1)),
  (15, .ireturn, 1, [0], 0),
  (16, .aload_n 0, 1, [0], 0),
  (17, .iload_n 1, 1, [1], 0),
  (18, .invokevirtual 185, 3, [0, 169, 1, 11, 0, 1150, 1152, 57], 0),
  (21, .aload_n 0, 1, [0], 0),
  (22, .getfield 28, 3, [11, 19, 0, 0, 0, 935], 0),
  (25, .iload_n 2, 1, [2], 0),
  (26, .iaload, 1, [], 0),
  (27, .ireturn, 1, [0], 0)]
def m_Mo_value : xa_M := (⟨"MayMustModel", "value", "(II)I"⟩, prog_13_method_44_code, 3, (some .int), t_Mo_value)
abbrev n_Mo_value : Nat := 170
def t_Mo_how : List xa_I := [
  (65535, .nop, 0, [1161, 73], 0),
  (0, .aload_n 0, 1, [0], 0),
  (1, .iconst 0, 1, [], 0),
  (2, .putfield 50, 3, [11, 0, 0, 0, 0, 916], 0),
  (5, .iload_n 1, 1, [1], 0),
  (6, .invokestatic 57, 3, [0, 130, 1, 0, 0, 1008, 1009], 0),
  (9, .ifCond .eq 12, 3, [21], 0),
  (12, .iload_n 2, 1, [2], 0),
  (13, .iconst 0, 1, [], 0),
  (14, .iconst 2, 1, [], 2),
  (15, .invokestatic 53, 3, [0, 129, 3, 0, 0, 996, 997], 0),
  (18, .ifCond .ne 5, 3, [23], 0),
  (21, .iconst (-1), 1, [], (-1)),
  (22, .ireturn, 1, [0], 0),
  (23, .aload_n 0, 1, [0], 0),
  (24, .iload_n 1, 1, [1], 0),
  (25, .invokevirtual 185, 3, [0, 169, 1, 11, 0, 1150, 1152, 57], 0),
  (28, .iconst 0, 1, [], 0),
  (29, .istore_n 3, 1, [3], 0),
  (30, .iconst 0, 1, [], 0),
  (31, .istore 4, 2, [4], 0),
  (33, .iload 4, 2, [4], 0),
  (35, .aload_n 0, 1, [0], 0),
  (36, .getfield 13, 3, [11, 2, 0, 0, 0, 918], 0),
  (39, .iload_n 1, 1, [1], 0),
  (40, .iaload, 1, [], 0),
  (41, .if_icmp .ge 28, 3, [69], 0),
  (44, .iload_n 3, 1, [3], 0),
  (45, .aload_n 0, 1, [0], 0),
  (46, .getfield 28, 3, [11, 19, 0, 0, 0, 935], 0),
  (49, .iload 4, 2, [4], 0),
  (51, .iaload, 1, [], 0),
  (52, .iload_n 2, 1, [2], 0),
  (53, .if_icmp .ne 7, 3, [60], 0),
  (56, .iconst 1, 1, [], 1),
  (57, .goto 4, 3, [61], 0),
  (60, .iconst 0, 1, [], 0),
  (61, .iadd, 1, [], 0),
  (62, .istore_n 3, 1, [3], 0),
  (63, .iinc 4 1, 3, [4], 1),
  (66, .goto (-33), 3, [33], 0),
  (69, .iload_n 3, 1, [3], 0),
  (70, .ireturn, 1, [0], 0)]
def m_Mo_how : xa_M := (⟨"MayMustModel", "how", "(II)I"⟩, prog_13_method_45_code, 5, (some .int), t_Mo_how)
abbrev n_Mo_how : Nat := 171
def t_Mo_begin : List xa_I := [
  (65535, .nop, 0, [1165, 73], 0),
  (0, .aload_n 0, 1, [0], 0),
  (1, .iconst 0, 1, [], 0),
  (2, .putfield 50, 3, [11, 0, 0, 0, 0, 916], 0),
  (5, .iload_n 1, 1, [1], 0),
  (6, .invokestatic 57, 3, [0, 130, 1, 0, 0, 1008, 1009], 0),
  (9, .ifCond .ne 5, 3, [14], 0),
  (12, .iconst (-1), 1, [], (-1)),
  (13, .ireturn, 1, [0], 0),
  (14, .aload_n 0, 1, [0], 0),
  (15, .iload_n 1, 1, [1], 0),
  (16, .bipush 7, 2, [], 7),
  (18, .invokevirtual 118, 3, [0, 135, 2, 11, 0, 1050, 1052, 42], 0),
  (21, .aload_n 0, 1, [0], 0),
  (22, .iconst 1, 1, [], 1),
  (23, .putfield 40, 3, [11, 23, 0, 0, 0, 939], 0),
  (26, .aload_n 0, 1, [0], 0),
  (27, .getfield 188, 3, [11, 24, 0, 0, 0, 940], 0),
  (30, .istore_n 2, 1, [2], 0),
  (31, .aload_n 0, 1, [0], 0),
  (32, .iconst 0, 1, [], 0),
  (33, .putfield 188, 3, [11, 24, 0, 0, 0, 940], 0),
  (36, .iload_n 2, 1, [2], 0),
  (37, .ireturn, 1, [0], 0)]
def m_Mo_begin : xa_M := (⟨"MayMustModel", "begin", "(I)I"⟩, prog_13_method_46_code, 3, (some .int), t_Mo_begin)
abbrev n_Mo_begin : Nat := 172
def t_Mo_onward : List xa_I := [
  (65535, .nop, 0, [1173, 73], 0),
  (0, .iconst 0, 1, [], 0),
  (1, .istore_n 2, 1, [2], 0),
  (2, .iconst 0, 1, [], 0),
  (3, .istore_n 3, 1, [3], 0),
  (4, .iload_n 3, 1, [3], 0),
  (5, .aload_n 0, 1, [0], 0),
  (6, .getfield 13, 3, [11, 2, 0, 0, 0, 918], 0),
  (9, .bipush 7, 2, [], 7),
  (11, .iaload, 1, [], 0),
  (12, .if_icmp .ge 66, 3, [78], 0),
  (15, .iconst 0, 1, [], 0),
  (16, .istore 4, 2, [4], 0),
  (18, .iload 4, 2, [4], 0),
  (20, .aload_n 0, 1, [0], 0),
  (21, .getfield 13, 3, [11, 2, 0, 0, 0, 918], 0),
  (24, .bipush 7, 2, [], 7),
  (26, .iaload, 1, [], 0),
  (27, .if_icmp .ge 45, 3, [72], 0),
  (30, .aload_n 0, 1, [0], 0),
  (31, .getfield 40, 3, [11, 23, 0, 0, 0, 939], 0),
  (34, .iload_n 3, 1, [3], 0),
  (35, .ishr, 1, [], 0),
  (36, .iconst 1, 1, [], 1),
  (37, .iand, 1, [], 0),
  (38, .iconst 1, 1, [], 1),
  (39, .if_icmp .ne 33, 3, [72], 0),
  (42, .iload_n 2, 1, [2], 0),
  (43, .aload_n 0, 1, [0], 0),
  (44, .bipush 7, 2, [], 7),
  (46, .iload_n 3, 1, [3], 0),
  (47, .iload_n 1, 1, [1], 0),
  (48, .iload 4, 2, [4], 0),
  (50, .invokevirtual 158, 3, [0, 133, 4, 11, 0, 1094, 1096, 50], 0),
  (53, .ifCond .le 10, 3, [63], 0),
  (56, .iconst 1, 1, [], 1),
  (57, .iload 4, 2, [4], 0),
  (59, .ishl, 1, [], 0),
  (60, .goto 4, 3, [64], 0),
  (63, .iconst 0, 1, [], 0),
  (64, .ior, 1, [], 0),
  (65, .istore_n 2, 1, [2], 0),
  (66, .iinc 4 1, 3, [4], 1),
  (69, .goto (-51), 3, [18], 0),
  (72, .iinc 3 1, 3, [3], 1),
  (75, .goto (-71), 3, [4], 0),
  (78, .iload_n 2, 1, [2], 0),
  (79, .ireturn, 1, [0], 0)]
def m_Mo_onward : xa_M := (⟨"MayMustModel", "onward", "(I)I"⟩, prog_13_method_47_code, 5, (some .int), t_Mo_onward)
abbrev n_Mo_onward : Nat := 173
def t_Mo_ones : List xa_I := [
  (65535, .nop, 0, [1176, 73], 0),
  (0, .iconst 0, 1, [], 0),
  (1, .istore_n 1, 1, [1], 0),
  (2, .iconst 0, 1, [], 0),
  (3, .istore_n 2, 1, [2], 0),
  (4, .iload_n 2, 1, [2], 0),
  (5, .bipush 6, 2, [], 6),
  (7, .if_icmp .ge 17, 3, [24], 0),
  (10, .iload_n 1, 1, [1], 0),
  (11, .iload_n 0, 1, [0], 0),
  (12, .iload_n 2, 1, [2], 0),
  (13, .ishr, 1, [], 0),
  (14, .iconst 1, 1, [], 1),
  (15, .iand, 1, [], 0),
  (16, .iadd, 1, [], 0),
  (17, .istore_n 1, 1, [1], 0),
  (18, .iinc 2 1, 3, [2], 1),
  (21, .goto (-17), 3, [4], 0),
  (24, .iload_n 1, 1, [1], 0),
  (25, .ireturn, 1, [0], 0)]
def m_Mo_ones : xa_M := (⟨"MayMustModel", "ones", "(I)I"⟩, prog_13_method_48_code, 3, (some .int), t_Mo_ones)
abbrev n_Mo_ones : Nat := 174
def t_Mo_go : List xa_I := [
  (65535, .nop, 0, [1169, 73], 0),
  (0, .aload_n 0, 1, [0], 0),
  (1, .iconst 0, 1, [], 0),
  (2, .putfield 50, 3, [11, 0, 0, 0, 0, 916], 0),
  (5, .iload_n 1, 1, [1], 0),
  (6, .iconst 0, 1, [], 0),
  (7, .iconst 2, 1, [], 2),
  (8, .invokestatic 53, 3, [0, 129, 3, 0, 0, 996, 997], 0),
  (11, .ifCond .ne 5, 3, [16], 0),
  (14, .iconst (-1), 1, [], (-1)),
  (15, .ireturn, 1, [0], 0),
  (16, .aload_n 0, 1, [0], 0),
  (17, .iload_n 1, 1, [1], 0),
  (18, .invokevirtual 191, 3, [0, 173, 1, 11, 0, 1170, 1172, 59], 0),
  (21, .istore_n 2, 1, [2], 0),
  (22, .iload_n 2, 1, [2], 0),
  (23, .ifCond .ne 6, 3, [29], 0),
  (26, .bipush (-2), 2, [], (-2)),
  (28, .ireturn, 1, [0], 0),
  (29, .aload_n 0, 1, [0], 0),
  (30, .getfield 188, 3, [11, 24, 0, 0, 0, 940], 0),
  (33, .sipush 200, 3, [], 200),
  (36, .if_icmp .ne 6, 3, [42], 0),
  (39, .bipush (-3), 2, [], (-3)),
  (41, .ireturn, 1, [0], 0),
  (42, .aload_n 0, 1, [0], 0),
  (43, .iload_n 2, 1, [2], 0),
  (44, .putfield 40, 3, [11, 23, 0, 0, 0, 939], 0),
  (47, .aload_n 0, 1, [0], 0),
  (48, .dup, 1, [], 0),
  (49, .getfield 188, 3, [11, 24, 0, 0, 0, 940], 0),
  (52, .iconst 1, 1, [], 1),
  (53, .iadd, 1, [], 0),
  (54, .putfield 188, 3, [11, 24, 0, 0, 0, 940], 0),
  (57, .iload_n 2, 1, [2], 0),
  (58, .invokestatic 194, 3, [0, 174, 1, 0, 0, 1174, 1175], 0),
  (61, .ireturn, 1, [0], 0)]
def m_Mo_go : xa_M := (⟨"MayMustModel", "go", "(I)I"⟩, prog_13_method_49_code, 3, (some .int), t_Mo_go)
abbrev n_Mo_go : Nat := 175
def t_Mo_isSure : List xa_I := [
  (65535, .nop, 0, [1184, 73], 0),
  (0, .iconst 1, 1, [], 1),
  (1, .istore_n 2, 1, [2], 0),
  (2, .iconst 0, 1, [], 0),
  (3, .istore_n 3, 1, [3], 0),
  (4, .iload_n 3, 1, [3], 0),
  (5, .aload_n 0, 1, [0], 0),
  (6, .getfield 13, 3, [11, 2, 0, 0, 0, 918], 0),
  (9, .bipush 7, 2, [], 7),
  (11, .iaload, 1, [], 0),
  (12, .if_icmp .ge 77, 3, [89], 0),
  (15, .aload_n 0, 1, [0], 0),
  (16, .getfield 40, 3, [11, 23, 0, 0, 0, 939], 0),
  (19, .iload_n 3, 1, [3], 0),
  (20, .ishr, 1, [], 0),
  (21, .iconst 1, 1, [], 1),
  (22, .iand, 1, [], 0),
  (23, .ifCond .ne 7, 3, [30], 0),
  (26, .iconst 1, 1, [], 1),
  (27, .goto 4, 3, [31], 0),
  (30, .iconst 0, 1, [], 0),
  (31, .istore 4, 2, [4], 0),
  (33, .iconst 0, 1, [], 0),
  (34, .istore 5, 2, [5], 0),
  (36, .iload 5, 2, [5], 0),
  (38, .aload_n 0, 1, [0], 0),
  (39, .getfield 13, 3, [11, 2, 0, 0, 0, 918], 0),
  (42, .bipush 7, 2, [], 7),
  (44, .iaload, 1, [], 0),
  (45, .if_icmp .ge 33, 3, [78], 0),
  (48, .iload 4, 2, [4], 0),
  (50, .aload_n 0, 1, [0], 0),
  (51, .bipush 7, 2, [], 7),
  (53, .iload_n 3, 1, [3], 0),
  (54, .iload_n 1, 1, [1], 0),
  (55, .iload 5, 2, [5], 0),
  (57, .invokevirtual 158, 3, [0, 133, 4, 11, 0, 1094, 1096, 50], 0),
  (60, .iconst 2, 1, [], 2),
  (61, .if_icmp .ne 7, 3, [68], 0),
  (64, .iconst 1, 1, [], 1),
  (65, .goto 4, 3, [69], 0),
  (68, .iconst 0, 1, [], 0),
  (69, .ior, 1, [], 0),
  (70, .istore 4, 2, [4], 0),
  (72, .iinc 5 1, 3, [5], 1),
  (75, .goto (-39), 3, [36], 0),
  (78, .iload_n 2, 1, [2], 0),
  (79, .iload 4, 2, [4], 0),
  (81, .iand, 1, [], 0),
  (82, .istore_n 2, 1, [2], 0),
  (83, .iinc 3 1, 3, [3], 1),
  (86, .goto (-82), 3, [4], 0),
  (89, .iload_n 2, 1, [2], 0),
  (90, .ireturn, 1, [1], 0)]
def m_Mo_isSure : xa_M := (⟨"MayMustModel", "isSure", "(I)Z"⟩, prog_13_method_50_code, 6, (some .boolean), t_Mo_isSure)
abbrev n_Mo_isSure : Nat := 176
def t_Mo_walk : List xa_I := [
  (65535, .nop, 0, [1180, 73], 0),
  (0, .aload_n 0, 1, [0], 0),
  (1, .iconst 0, 1, [], 0),
  (2, .putfield 50, 3, [11, 0, 0, 0, 0, 916], 0),
  (5, .iconst 0, 1, [], 0),
  (6, .istore_n 2, 1, [2], 0),
  (7, .iconst 0, 1, [], 0),
  (8, .istore_n 3, 1, [3], 0),
  (9, .iconst 0, 1, [], 0),
  (10, .istore 4, 2, [4], 0),
  (12, .iload 4, 2, [4], 0),
  (14, .iconst 3, 1, [], 3),
  (15, .if_icmp .ge 49, 3, [64], 0),
  (18, .iload_n 2, 1, [2], 0),
  (19, .aload_n 0, 1, [0], 0),
  (20, .iload 4, 2, [4], 0),
  (22, .invokevirtual 191, 3, [0, 173, 1, 11, 0, 1170, 1172, 59], 0),
  (25, .ifCond .eq 10, 3, [35], 0),
  (28, .iconst 1, 1, [], 1),
  (29, .iload 4, 2, [4], 0),
  (31, .ishl, 1, [], 0),
  (32, .goto 4, 3, [36], 0),
  (35, .iconst 0, 1, [], 0),
  (36, .ior, 1, [], 0),
  (37, .istore_n 2, 1, [2], 0),
  (38, .iload_n 3, 1, [3], 0),
  (39, .aload_n 0, 1, [0], 0),
  (40, .iload 4, 2, [4], 0),
  (42, .invokevirtual 197, 3, [0, 176, 1, 11, 0, 1181, 1183, 60], 0),
  (45, .ifCond .eq 10, 3, [55], 0),
  (48, .iconst 1, 1, [], 1),
  (49, .iload 4, 2, [4], 0),
  (51, .ishl, 1, [], 0),
  (52, .goto 4, 3, [56], 0),
  (55, .iconst 0, 1, [], 0),
  (56, .ior, 1, [], 0),
  (57, .istore_n 3, 1, [3], 0),
  (58, .iinc 4 1, 3, [4], 1),
  (61, .goto (-49), 3, [12], 0),
  (64, .iload_n 1, 1, [1], 0),
  (65, .ifCond .ne 10, 3, [75], 0),
  (68, .aload_n 0, 1, [0], 0),
  (69, .getfield 40, 3, [11, 23, 0, 0, 0, 939], 0),
  (72, .goto 34, 3, [106], 0),
  (75, .iload_n 1, 1, [1], 0),
  (76, .iconst 1, 1, [], 1),
  (77, .if_icmp .ne 7, 3, [84], 0),
  (80, .iload_n 2, 1, [2], 0),
  (81, .goto 25, 3, [106], 0),
  (84, .iload_n 1, 1, [1], 0),
  (85, .iconst 2, 1, [], 2),
  (86, .if_icmp .ne 7, 3, [93], 0),
  (89, .iload_n 3, 1, [3], 0),
  (90, .goto 16, 3, [106], 0),
  (93, .iload_n 1, 1, [1], 0),
  (94, .iconst 3, 1, [], 3),
  (95, .if_icmp .ne 10, 3, [105], 0),
  (98, .aload_n 0, 1, [0], 0),
  (99, .getfield 188, 3, [11, 24, 0, 0, 0, 940], 0),
  (102, .goto 4, 3, [106], 0),
  (105, .iconst (-1), 1, [], (-1)),
  (106, .ireturn, 1, [0], 0)]
def m_Mo_walk : xa_M := (⟨"MayMustModel", "walk", "(I)I"⟩, prog_13_method_51_code, 5, (some .int), t_Mo_walk)
abbrev n_Mo_walk : Nat := 177
def t_Mo_count : List xa_I := [
  (65535, .nop, 0, [1188, 73], 0),
  (0, .aload_n 0, 1, [0], 0),
  (1, .iconst 0, 1, [], 0),
  (2, .putfield 50, 3, [11, 0, 0, 0, 0, 916], 0),
  (5, .iconst 0, 1, [], 0),
  (6, .istore_n 2, 1, [2], 0),
  (7, .iconst 0, 1, [], 0),
  (8, .istore_n 3, 1, [3], 0),
  (9, .iload_n 3, 1, [3], 0),
  (10, .bipush 6, 2, [], 6),
  (12, .if_icmp .ge 18, 3, [30], 0),
  (15, .iload_n 2, 1, [2], 0),
  (16, .aload_n 0, 1, [0], 0),
  (17, .getfield 13, 3, [11, 2, 0, 0, 0, 918], 0),
  (20, .iload_n 3, 1, [3], 0),
  (21, .iaload, 1, [], 0),
  (22, .iadd, 1, [], 0),
  (23, .istore_n 2, 1, [2], 0),
  (24, .iinc 3 1, 3, [3], 1),
  (27, .goto (-18), 3, [9], 0),
  (30, .iload_n 1, 1, [1], 0),
  (31, .ifCond .ne 7, 3, [38], 0),
  (34, .iload_n 2, 1, [2], 0),
  (35, .goto 28, 3, [63], 0),
  (38, .iload_n 1, 1, [1], 0),
  (39, .iconst 1, 1, [], 1),
  (40, .if_icmp .ne 10, 3, [50], 0),
  (43, .aload_n 0, 1, [0], 0),
  (44, .getfield 65, 3, [11, 4, 0, 0, 0, 920], 0),
  (47, .goto 16, 3, [63], 0),
  (50, .iload_n 1, 1, [1], 0),
  (51, .iconst 2, 1, [], 2),
  (52, .if_icmp .ne 10, 3, [62], 0),
  (55, .aload_n 0, 1, [0], 0),
  (56, .getfield 47, 3, [11, 14, 0, 0, 0, 930], 0),
  (59, .goto 4, 3, [63], 0),
  (62, .iconst (-1), 1, [], (-1)),
  (63, .ireturn, 1, [0], 0)]
def m_Mo_count : xa_M := (⟨"MayMustModel", "count", "(I)I"⟩, prog_13_method_52_code, 4, (some .int), t_Mo_count)
abbrev n_Mo_count : Nat := 178
def t_Int_bitCount : List xa_I := [
  (65535, .nop, 0, [595, 82], 0),
  (0, .iload_n 0, 1, [0], 0),
  (1, .iload_n 0, 1, [0], 0),
  (2, .iconst 1, 1, [], 1),
  (3, .iushr, 1, [], 0),
  (4, .ldc_w 265, 3, [0, 0, 0, 0, 0, 596], 1431655765),
  (7, .iand, 1, [], 0),
  (8, .isub, 1, [], 0),
  (9, .istore_n 0, 1, [0], 0),
  (10, .iload_n 0, 1, [0], 0),
  (11, .ldc_w 266, 3, [0, 0, 0, 0, 0, 597], 858993459),
  (14, .iand, 1, [], 0),
  (15, .iload_n 0, 1, [0], 0),
  (16, .iconst 2, 1, [], 2),
  (17, .iushr, 1, [], 0),
  (18, .ldc_w 266, 3, [0, 0, 0, 0, 0, 597], 858993459),
  (21, .iand, 1, [], 0),
  (22, .iadd, 1, [], 0),
  (23, .istore_n 0, 1, [0], 0),
  (24, .iload_n 0, 1, [0], 0),
  (25, .iload_n 0, 1, [0], 0),
  (26, .iconst 4, 1, [], 4),
  (27, .iushr, 1, [], 0),
  (28, .iadd, 1, [], 0),
  (29, .ldc_w 267, 3, [0, 0, 0, 0, 0, 598], 252645135),
  (32, .iand, 1, [], 0),
  (33, .istore_n 0, 1, [0], 0),
  (34, .iload_n 0, 1, [0], 0),
  (35, .iload_n 0, 1, [0], 0),
  (36, .bipush 8, 2, [], 8),
  (38, .iushr, 1, [], 0),
  (39, .iadd, 1, [], 0),
  (40, .istore_n 0, 1, [0], 0),
  (41, .iload_n 0, 1, [0], 0),
  (42, .iload_n 0, 1, [0], 0),
  (43, .bipush 16, 2, [], 16),
  (45, .iushr, 1, [], 0),
  (46, .iadd, 1, [], 0),
  (47, .istore_n 0, 1, [0], 0),
  (48, .iload_n 0, 1, [0], 0),
  (49, .bipush 63, 2, [], 63),
  (51, .iand, 1, [], 0),
  (52, .ireturn, 1, [0], 0)]
def m_Int_bitCount : xa_M := (⟨"java/lang/Integer", "bitCount", "(I)I"⟩, prog_15_method_49_code, 1, (some .int), t_Int_bitCount)
abbrev n_Int_bitCount : Nat := 179
def t_Str_length : List xa_I := [
  (65535, .nop, 0, [368, 75], 0),
  (0, .aload_n 0, 1, [0], 0),
  (1, .getfield 9, 3, [60, 0, 0, 0, 0, 1190], 0),
  (4, .arraylength, 1, [], 0),
  (5, .aload_n 0, 1, [0], 0),
  (6, .invokevirtual 335, 3, [0, 184, 0, 60, 0, 369, 370, 371], 0),
  (9, .ishr, 1, [], 0),
  (10, .ireturn, 1, [0], 0)]
def m_Str_length : xa_M := (⟨"java/lang/String", "length", "()I"⟩, prog_17_method_54_code, 1, (some .int), t_Str_length)
abbrev n_Str_length : Nat := 180
def t_Str_charAt : List xa_I := [
  (65535, .nop, 0, [379, 75], 0),
  (0, .aload_n 0, 1, [0], 0),
  (1, .invokevirtual 492, 3, [0, 185, 0, 60, 0, 380, 381, 382], 0),
  (4, .ifCond .eq 12, 3, [16], 0),
  (7, .aload_n 0, 1, [0], 0),
  (8, .getfield 9, 3, [60, 0, 0, 0, 0, 1190], 0),
  (11, .iload_n 1, 1, [1], 0),
  (12, .invokestatic 495, 3, [0, 187, 2, 0, 0, 384, 385], 0),
  (15, .ireturn, 1, [2], 0),
  (16, .aload_n 0, 1, [0], 0),
  (17, .getfield 9, 3, [60, 0, 0, 0, 0, 1190], 0),
  (20, .iload_n 1, 1, [1], 0),
  (24, .ireturn, 1, [2], 0)]
def m_Str_charAt : xa_M := (⟨"java/lang/String", "charAt", "(I)C"⟩, prog_17_method_56_code, 2, (some .char), t_Str_charAt)
abbrev n_Str_charAt : Nat := 181
def t_Str_indexOf : List xa_I := [
  (65535, .nop, 0, [420, 75], 0),
  (0, .aload_n 0, 1, [0], 0),
  (1, .iload_n 1, 1, [1], 0),
  (2, .iconst 0, 1, [], 0),
  (3, .invokevirtual 633, 3, [0, 183, 2, 60, 0, 421, 422, 423], 0),
  (6, .ireturn, 1, [0], 0)]
def m_Str_indexOf : xa_M := (⟨"java/lang/String", "indexOf", "(I)I"⟩, prog_17_method_79_code, 2, (some .int), t_Str_indexOf)
abbrev n_Str_indexOf : Nat := 182
def t_Str_indexOf2 : List xa_I := [
  (65535, .nop, 0, [424, 75], 0),
  (0, .aload_n 0, 1, [0], 0),
  (1, .invokevirtual 492, 3, [0, 185, 0, 60, 0, 380, 381, 382], 0),
  (4, .ifCond .eq 19, 3, [23], 0),
  (7, .aload_n 0, 1, [0], 0),
  (8, .getfield 9, 3, [60, 0, 0, 0, 0, 1190], 0),
  (11, .iload_n 1, 1, [1], 0),
  (12, .iload_n 2, 1, [2], 0),
  (13, .aload_n 0, 1, [0], 0),
  (14, .invokevirtual 505, 3, [0, 180, 0, 60, 0, 425, 366, 367], 0),
  (17, .invokestatic 637, 3, [0, 189, 4, 0, 0, 426, 427], 0),
  (20, .goto 16, 3, [36], 0),
  (23, .aload_n 0, 1, [0], 0),
  (24, .getfield 9, 3, [60, 0, 0, 0, 0, 1190], 0),
  (27, .iload_n 1, 1, [1], 0),
  (28, .iload_n 2, 1, [2], 0),
  (29, .aload_n 0, 1, [0], 0),
  (30, .invokevirtual 505, 3, [0, 180, 0, 60, 0, 425, 366, 367], 0),
  (36, .ireturn, 1, [0], 0)]
def m_Str_indexOf2 : xa_M := (⟨"java/lang/String", "indexOf", "(II)I"⟩, prog_17_method_80_code, 3, (some .int), t_Str_indexOf2)
abbrev n_Str_indexOf2 : Nat := 183
def t_Str_coder : List xa_I := [
  (65535, .nop, 0, [372, 75], 0),
  (0, .getstatic 38, 3, [0, 0, 0, 0, 0, 373], 0),
  (3, .ifCond .eq 10, 3, [13], 0),
  (6, .aload_n 0, 1, [0], 0),
  (7, .getfield 15, 3, [60, 1, 0, 0, 0, 1191], 0),
  (10, .goto 4, 3, [14], 0),
  (13, .iconst 1, 1, [], 1),
  (14, .ireturn, 1, [3], 0)]
def m_Str_coder : xa_M := (⟨"java/lang/String", "coder", "()B"⟩, prog_17_method_152_code, 1, (some .byte), t_Str_coder)
abbrev n_Str_coder : Nat := 184
def t_Str_isLatin1 : List xa_I := [
  (65535, .nop, 0, [383, 75], 0),
  (0, .getstatic 38, 3, [0, 0, 0, 0, 0, 373], 0),
  (3, .ifCond .eq 14, 3, [17], 0),
  (6, .aload_n 0, 1, [0], 0),
  (7, .getfield 15, 3, [60, 1, 0, 0, 0, 1191], 0),
  (10, .ifCond .ne 7, 3, [17], 0),
  (13, .iconst 1, 1, [], 1),
  (14, .goto 4, 3, [18], 0),
  (17, .iconst 0, 1, [], 0),
  (18, .ireturn, 1, [1], 0)]
def m_Str_isLatin1 : xa_M := (⟨"java/lang/String", "isLatin1", "()Z"⟩, prog_17_method_154_code, 1, (some .boolean), t_Str_isLatin1)
abbrev n_Str_isLatin1 : Nat := 185
def t_Str_checkIndex : List xa_I := [
  (65535, .nop, 0, [389, 75], 0),
  (0, .iload_n 0, 1, [0], 0),
  (1, .iload_n 1, 1, [1], 0),
  (2, .getstatic 1053, 3, [1, 0, 0, 0, 0, 390], 0),
  (5, .invokestatic 1059, 3, [0, 192, 3, 0, 0, 392, 393], 0),
  (8, .pop, 1, [], 0),
  (9, .return_, 1, [], 0)]
def m_Str_checkIndex : xa_M := (⟨"java/lang/String", "checkIndex", "(II)V"⟩, prog_17_method_155_code, 2, none, t_Str_checkIndex)
abbrev n_Str_checkIndex : Nat := 186
def t_Lat_charAt : List xa_I := [
  (65535, .nop, 0, [386, 76], 0),
  (0, .iload_n 1, 1, [1], 0),
  (1, .aload_n 0, 1, [0], 0),
  (2, .arraylength, 1, [], 0),
  (3, .invokestatic 9, 3, [0, 186, 2, 0, 0, 387, 388], 0),
  (6, .aload_n 0, 1, [0], 0),
  (7, .iload_n 1, 1, [1], 0),
  (8, .baload, 1, [], 0),
  (9, .sipush 255, 3, [], 255),
  (12, .iand, 1, [], 0),
  (13, .i2c, 1, [], 0),
  (14, .ireturn, 1, [2], 0)]
def m_Lat_charAt : xa_M := (⟨"java/lang/StringLatin1", "charAt", "([BI)C"⟩, prog_18_method_2_code, 2, (some .char), t_Lat_charAt)
abbrev n_Lat_charAt : Nat := 187
def t_Lat_canEncode : List xa_I := [
  (65535, .nop, 0, [431, 76], 0),
  (0, .iload_n 0, 1, [0], 0),
  (1, .ifCond .lt 14, 3, [15], 0),
  (4, .iload_n 0, 1, [0], 0),
  (5, .sipush 255, 3, [], 255),
  (8, .if_icmp .gt 7, 3, [15], 0),
  (11, .iconst 1, 1, [], 1),
  (12, .goto 4, 3, [16], 0),
  (15, .iconst 0, 1, [], 0),
  (16, .ireturn, 1, [1], 0)]
def m_Lat_canEncode : xa_M := (⟨"java/lang/StringLatin1", "canEncode", "(I)Z"⟩, prog_18_method_4_code, 1, (some .boolean), t_Lat_canEncode)
abbrev n_Lat_canEncode : Nat := 188
def t_Lat_indexOf : List xa_I := [
  (65535, .nop, 0, [428, 76], 0),
  (0, .iload_n 1, 1, [1], 0),
  (1, .invokestatic 88, 3, [0, 188, 1, 0, 0, 429, 430], 0),
  (4, .ifCond .ne 5, 3, [9], 0),
  (7, .iconst (-1), 1, [], (-1)),
  (8, .ireturn, 1, [0], 0),
  (9, .iload_n 2, 1, [2], 0),
  (10, .iconst 0, 1, [], 0),
  (11, .invokestatic 92, 3, [3, 0, 0, 0, 0, 432, 433, 74, 434], 0),
  (14, .istore_n 2, 1, [2], 0),
  (15, .iload_n 3, 1, [3], 0),
  (16, .aload_n 0, 1, [0], 0),
  (17, .arraylength, 1, [], 0),
  (18, .invokestatic 38, 3, [4, 0, 0, 0, 0, 435, 344, 74, 345], 0),
  (21, .istore_n 3, 1, [3], 0),
  (22, .iload_n 2, 1, [2], 0),
  (23, .iload_n 3, 1, [3], 0),
  (24, .if_icmp .lt 5, 3, [29], 0),
  (27, .iconst (-1), 1, [], (-1)),
  (28, .ireturn, 1, [0], 0),
  (29, .aload_n 0, 1, [0], 0),
  (30, .iload_n 1, 1, [1], 0),
  (31, .iload_n 2, 1, [2], 0),
  (32, .iload_n 3, 1, [3], 0),
  (33, .invokestatic 95, 3, [0, 190, 4, 0, 0, 436, 437], 0),
  (36, .ireturn, 1, [0], 0)]
def m_Lat_indexOf : xa_M := (⟨"java/lang/StringLatin1", "indexOf", "([BIII)I"⟩, prog_18_method_22_code, 4, (some .int), t_Lat_indexOf)
abbrev n_Lat_indexOf : Nat := 189
def t_Lat_indexOfChar : List xa_I := [
  (65535, .nop, 0, [438, 76], 0),
  (0, .iload_n 1, 1, [1], 0),
  (1, .i2b, 1, [], 0),
  (2, .istore 4, 2, [4], 0),
  (4, .iload_n 2, 1, [2], 0),
  (5, .istore 5, 2, [5], 0),
  (7, .iload 5, 2, [5], 0),
  (9, .iload_n 3, 1, [3], 0),
  (10, .if_icmp .ge 21, 3, [31], 0),
  (13, .aload_n 0, 1, [0], 0),
  (14, .iload 5, 2, [5], 0),
  (16, .baload, 1, [], 0),
  (17, .iload 4, 2, [4], 0),
  (19, .if_icmp .ne 6, 3, [25], 0),
  (22, .iload 5, 2, [5], 0),
  (24, .ireturn, 1, [0], 0),
  (25, .iinc 5 1, 3, [5], 1),
  (28, .goto (-21), 3, [7], 0),
  (31, .iconst (-1), 1, [], (-1)),
  (32, .ireturn, 1, [0], 0)]
def m_Lat_indexOfChar : xa_M := (⟨"java/lang/StringLatin1", "indexOfChar", "([BIII)I"⟩, prog_18_method_23_code, 6, (some .int), t_Lat_indexOfChar)
abbrev n_Lat_indexOfChar : Nat := 190
def t_Arr_fill : List xa_I := [
  (65535, .nop, 0, [506, 80], 0),
  (0, .iconst 0, 1, [], 0),
  (1, .istore_n 2, 1, [2], 0),
  (2, .aload_n 0, 1, [0], 0),
  (3, .arraylength, 1, [], 0),
  (4, .istore_n 3, 1, [3], 0),
  (5, .iload_n 2, 1, [2], 0),
  (6, .iload_n 3, 1, [3], 0),
  (7, .if_icmp .ge 13, 3, [20], 0),
  (10, .aload_n 0, 1, [0], 0),
  (11, .iload_n 2, 1, [2], 0),
  (12, .iload_n 1, 1, [1], 0),
  (13, .iastore, 1, [], 0),
  (14, .iinc 2 1, 3, [2], 1),
  (17, .goto (-12), 3, [5], 0),
  (20, .return_, 1, [], 0)]
def m_Arr_fill : xa_M := (⟨"java/util/Arrays", "fill", "([II)V"⟩, prog_21_method_103_code, 4, none, t_Arr_fill)
abbrev n_Arr_fill : Nat := 191
def t_Pre_checkIndex : List xa_I := [
  (65535, .nop, 0, [394, 77], 0),
  (0, .iload_n 0, 1, [0], 0),
  (1, .ifCond .lt 8, 3, [9], 0),
  (4, .iload_n 0, 1, [0], 0),
  (5, .iload_n 1, 1, [1], 0),
  (6, .if_icmp .lt 10, 3, [16], 0),
  (9, .aload_n 2, 1, [2], 0),
  (10, .iload_n 0, 1, [0], 0),
  (11, .iload_n 1, 1, [1], 0),
  (16, .iload_n 0, 1, [0], 0),
  (17, .ireturn, 1, [0], 0)]
def m_Pre_checkIndex : xa_M := (⟨"jdk/internal/util/Preconditions", "checkIndex", "(IILjava/util/function/BiFunction;)I"⟩, prog_22_method_11_code, 3, (some .int), t_Pre_checkIndex)
abbrev n_Pre_checkIndex : Nat := 192
def t_Law_law : List xa_I := [
  (65535, .nop, 0, [], 0),
  (0, .new 7, 3, [10, 0, 0, 0, 0, 83, 84, 62], 0),
  (3, .dup, 1, [], 0),
  (4, .invokespecial 9, 3, [0, 103, 0, 0, 0, 85, 86], 0),
  (7, .astore_n 1, 1, [1], 0),
  (8, .new 10, 3, [11, 0, 0, 0, 0, 910, 911, 73], 0),
  (11, .dup, 1, [], 0),
  (12, .invokespecial 12, 3, [0, 128, 0, 0, 0, 912, 913], 0),
  (15, .astore_n 2, 1, [2], 0),
  (16, .iconst 0, 1, [], 0),
  (17, .istore_n 3, 1, [3], 0),
  (18, .iload_n 3, 1, [3], 0),
  (19, .aload_n 0, 1, [0], 0),
  (20, .arraylength, 1, [], 0),
  (21, .bipush 6, 2, [], 6),
  (23, .isub, 1, [], 0),
  (24, .if_icmp .gt 746, 3, [770], 0),
  (27, .aload_n 0, 1, [0], 0),
  (28, .iload_n 3, 1, [3], 0),
  (29, .iaload, 1, [], 0),
  (30, .bipush 31, 2, [], 31),
  (32, .iand, 1, [], 0),
  (33, .tableswitch 731 0 17 #[87, 150, 163, 186, 199, 232, 285, 348, 391, 444, 477, 520, 573, 606, 639, 662, 685, 708], 87, [764, 120, 183, 196, 219, 232, 265, 318, 381, 424, 477, 510, 553, 606, 639, 672, 695, 718, 741], 0),
  (120, .aload_n 1, 1, [1], 0),
  (121, .aload_n 0, 1, [0], 0),
  (122, .iload_n 3, 1, [3], 0),
  (123, .iconst 1, 1, [], 1),
  (124, .iadd, 1, [], 0),
  (125, .iaload, 1, [], 0),
  (126, .i2l, 1, [], 0),
  (127, .bipush 32, 2, [], 32),
  (129, .lshl, 1, [], 0),
  (130, .aload_n 0, 1, [0], 0),
  (131, .iload_n 3, 1, [3], 0),
  (132, .iconst 2, 1, [], 2),
  (133, .iadd, 1, [], 0),
  (134, .iaload, 1, [], 0),
  (135, .i2l, 1, [], 0),
  (136, .ldc2_w 13, 3, [4294967295, 0, 0, 0, 0, 1189], 0),
  (139, .land, 1, [], 0),
  (140, .lor, 1, [], 0),
  (141, .aload_n 0, 1, [0], 0),
  (142, .iload_n 3, 1, [3], 0),
  (143, .iconst 3, 1, [], 3),
  (144, .iadd, 1, [], 0),
  (145, .iaload, 1, [], 0),
  (146, .invokevirtual 15, 3, [0, 104, 2, 10, 0, 292, 293, 294], 0),
  (149, .aload_n 2, 1, [2], 0),
  (150, .aload_n 0, 1, [0], 0),
  (151, .iload_n 3, 1, [3], 0),
  (152, .iconst 1, 1, [], 1),
  (153, .iadd, 1, [], 0),
  (154, .iaload, 1, [], 0),
  (155, .i2l, 1, [], 0),
  (156, .bipush 32, 2, [], 32),
  (158, .lshl, 1, [], 0),
  (159, .aload_n 0, 1, [0], 0),
  (160, .iload_n 3, 1, [3], 0),
  (161, .iconst 2, 1, [], 2),
  (162, .iadd, 1, [], 0),
  (163, .iaload, 1, [], 0),
  (164, .i2l, 1, [], 0),
  (165, .ldc2_w 13, 3, [4294967295, 0, 0, 0, 0, 1189], 0),
  (168, .land, 1, [], 0),
  (169, .lor, 1, [], 0),
  (170, .aload_n 0, 1, [0], 0),
  (171, .iload_n 3, 1, [3], 0),
  (172, .iconst 3, 1, [], 3),
  (173, .iadd, 1, [], 0),
  (174, .iaload, 1, [], 0),
  (175, .invokevirtual 19, 3, [0, 136, 2, 11, 0, 992, 993, 994], 0),
  (178, .if_icmp .eq 586, 3, [764], 0),
  (181, .iconst 0, 1, [], 0),
  (182, .ireturn, 1, [1], 0),
  (183, .aload_n 1, 1, [1], 0),
  (184, .invokevirtual 20, 3, [0, 105, 0, 10, 0, 304, 305, 306], 0),
  (187, .aload_n 2, 1, [2], 0),
  (188, .invokevirtual 24, 3, [0, 137, 0, 11, 0, 1000, 1001, 1002], 0),
  (191, .if_icmp .eq 573, 3, [764], 0),
  (194, .iconst 0, 1, [], 0),
  (195, .ireturn, 1, [1], 0),
  (196, .aload_n 1, 1, [1], 0),
  (197, .aload_n 0, 1, [0], 0),
  (198, .iload_n 3, 1, [3], 0),
  (199, .iconst 1, 1, [], 1),
  (200, .iadd, 1, [], 0),
  (201, .iaload, 1, [], 0),
  (202, .invokevirtual 25, 3, [0, 106, 1, 10, 0, 312, 313, 314], 0),
  (205, .aload_n 2, 1, [2], 0),
  (206, .aload_n 0, 1, [0], 0),
  (207, .iload_n 3, 1, [3], 0),
  (208, .iconst 1, 1, [], 1),
  (209, .iadd, 1, [], 0),
  (210, .iaload, 1, [], 0),
  (211, .invokevirtual 29, 3, [0, 146, 1, 11, 0, 1004, 1005, 1006], 0),
  (214, .if_icmp .eq 550, 3, [764], 0),
  (217, .iconst 0, 1, [], 0),
  (218, .ireturn, 1, [1], 0),
  (219, .aload_n 1, 1, [1], 0),
  (220, .invokevirtual 30, 3, [0, 107, 0, 10, 0, 535, 536, 537], 0),
  (223, .aload_n 2, 1, [2], 0),
  (224, .invokevirtual 33, 3, [0, 152, 0, 11, 0, 1054, 1055, 1056], 0),
  (227, .if_icmp .eq 537, 3, [764], 0),
  (230, .iconst 0, 1, [], 0),
  (231, .ireturn, 1, [1], 0),
  (232, .aload_n 1, 1, [1], 0),
  (233, .aload_n 0, 1, [0], 0),
  (234, .iload_n 3, 1, [3], 0),
  (235, .iconst 1, 1, [], 1),
  (236, .iadd, 1, [], 0),
  (237, .iaload, 1, [], 0),
  (238, .aload_n 0, 1, [0], 0),
  (239, .iload_n 3, 1, [3], 0),
  (240, .iconst 2, 1, [], 2),
  (241, .iadd, 1, [], 0),
  (242, .iaload, 1, [], 0),
  (243, .invokevirtual 34, 3, [0, 108, 2, 10, 0, 581, 582, 583], 0),
  (246, .aload_n 2, 1, [2], 0),
  (247, .aload_n 0, 1, [0], 0),
  (248, .iload_n 3, 1, [3], 0),
  (249, .iconst 1, 1, [], 1),
  (250, .iadd, 1, [], 0),
  (251, .iaload, 1, [], 0),
  (252, .aload_n 0, 1, [0], 0),
  (253, .iload_n 3, 1, [3], 0),
  (254, .iconst 2, 1, [], 2),
  (255, .iadd, 1, [], 0),
  (256, .iaload, 1, [], 0),
  (257, .invokevirtual 38, 3, [0, 154, 2, 11, 0, 1078, 1079, 1080], 0),
  (260, .if_icmp .eq 504, 3, [764], 0),
  (263, .iconst 0, 1, [], 0),
  (264, .ireturn, 1, [1], 0),
  (265, .aload_n 1, 1, [1], 0),
  (266, .aload_n 0, 1, [0], 0),
  (267, .iload_n 3, 1, [3], 0),
  (268, .iconst 1, 1, [], 1),
  (269, .iadd, 1, [], 0),
  (270, .iaload, 1, [], 0),
  (271, .aload_n 0, 1, [0], 0),
  (272, .iload_n 3, 1, [3], 0),
  (273, .iconst 2, 1, [], 2),
  (274, .iadd, 1, [], 0),
  (275, .iaload, 1, [], 0),
  (276, .aload_n 0, 1, [0], 0),
  (277, .iload_n 3, 1, [3], 0),
  (278, .iconst 3, 1, [], 3),
  (279, .iadd, 1, [], 0),
  (280, .iaload, 1, [], 0),
  (281, .aload_n 0, 1, [0], 0),
  (282, .iload_n 3, 1, [3], 0),
  (283, .iconst 4, 1, [], 4),
  (284, .iadd, 1, [], 0),
  (285, .iaload, 1, [], 0),
  (286, .invokevirtual 39, 3, [0, 109, 4, 10, 0, 603, 604, 605], 0),
  (289, .aload_n 2, 1, [2], 0),
  (290, .aload_n 0, 1, [0], 0),
  (291, .iload_n 3, 1, [3], 0),
  (292, .iconst 1, 1, [], 1),
  (293, .iadd, 1, [], 0),
  (294, .iaload, 1, [], 0),
  (295, .aload_n 0, 1, [0], 0),
  (296, .iload_n 3, 1, [3], 0),
  (297, .iconst 2, 1, [], 2),
  (298, .iadd, 1, [], 0),
  (299, .iaload, 1, [], 0),
  (300, .aload_n 0, 1, [0], 0),
  (301, .iload_n 3, 1, [3], 0),
  (302, .iconst 3, 1, [], 3),
  (303, .iadd, 1, [], 0),
  (304, .iaload, 1, [], 0),
  (305, .aload_n 0, 1, [0], 0),
  (306, .iload_n 3, 1, [3], 0),
  (307, .iconst 4, 1, [], 4),
  (308, .iadd, 1, [], 0),
  (309, .iaload, 1, [], 0),
  (310, .invokevirtual 43, 3, [0, 155, 4, 11, 0, 1086, 1087, 1088], 0),
  (313, .if_icmp .eq 451, 3, [764], 0),
  (316, .iconst 0, 1, [], 0),
  (317, .ireturn, 1, [1], 0),
  (318, .aload_n 1, 1, [1], 0),
  (319, .aload_n 0, 1, [0], 0),
  (320, .iload_n 3, 1, [3], 0),
  (321, .iconst 1, 1, [], 1),
  (322, .iadd, 1, [], 0),
  (323, .iaload, 1, [], 0),
  (324, .aload_n 0, 1, [0], 0),
  (325, .iload_n 3, 1, [3], 0),
  (326, .iconst 2, 1, [], 2),
  (327, .iadd, 1, [], 0),
  (328, .iaload, 1, [], 0),
  (329, .aload_n 0, 1, [0], 0),
  (330, .iload_n 3, 1, [3], 0),
  (331, .iconst 3, 1, [], 3),
  (332, .iadd, 1, [], 0),
  (333, .iaload, 1, [], 0),
  (334, .aload_n 0, 1, [0], 0),
  (335, .iload_n 3, 1, [3], 0),
  (336, .iconst 4, 1, [], 4),
  (337, .iadd, 1, [], 0),
  (338, .iaload, 1, [], 0),
  (339, .aload_n 0, 1, [0], 0),
  (340, .iload_n 3, 1, [3], 0),
  (341, .iconst 5, 1, [], 5),
  (342, .iadd, 1, [], 0),
  (343, .iaload, 1, [], 0),
  (344, .invokevirtual 44, 3, [0, 110, 5, 10, 0, 633, 634, 635], 0),
  (347, .aload_n 2, 1, [2], 0),
  (348, .aload_n 0, 1, [0], 0),
  (349, .iload_n 3, 1, [3], 0),
  (350, .iconst 1, 1, [], 1),
  (351, .iadd, 1, [], 0),
  (352, .iaload, 1, [], 0),
  (353, .aload_n 0, 1, [0], 0),
  (354, .iload_n 3, 1, [3], 0),
  (355, .iconst 2, 1, [], 2),
  (356, .iadd, 1, [], 0),
  (357, .iaload, 1, [], 0),
  (358, .aload_n 0, 1, [0], 0),
  (359, .iload_n 3, 1, [3], 0),
  (360, .iconst 3, 1, [], 3),
  (361, .iadd, 1, [], 0),
  (362, .iaload, 1, [], 0),
  (363, .aload_n 0, 1, [0], 0),
  (364, .iload_n 3, 1, [3], 0),
  (365, .iconst 4, 1, [], 4),
  (366, .iadd, 1, [], 0),
  (367, .iaload, 1, [], 0),
  (368, .aload_n 0, 1, [0], 0),
  (369, .iload_n 3, 1, [3], 0),
  (370, .iconst 5, 1, [], 5),
  (371, .iadd, 1, [], 0),
  (372, .iaload, 1, [], 0),
  (373, .invokevirtual 48, 3, [0, 156, 5, 11, 0, 1098, 1099, 1100], 0),
  (376, .if_icmp .eq 388, 3, [764], 0),
  (379, .iconst 0, 1, [], 0),
  (380, .ireturn, 1, [1], 0),
  (381, .aload_n 1, 1, [1], 0),
  (382, .aload_n 0, 1, [0], 0),
  (383, .iload_n 3, 1, [3], 0),
  (384, .iconst 1, 1, [], 1),
  (385, .iadd, 1, [], 0),
  (386, .iaload, 1, [], 0),
  (387, .aload_n 0, 1, [0], 0),
  (388, .iload_n 3, 1, [3], 0),
  (389, .iconst 2, 1, [], 2),
  (390, .iadd, 1, [], 0),
  (391, .iaload, 1, [], 0),
  (392, .aload_n 0, 1, [0], 0),
  (393, .iload_n 3, 1, [3], 0),
  (394, .iconst 3, 1, [], 3),
  (395, .iadd, 1, [], 0),
  (396, .iaload, 1, [], 0),
  (397, .invokevirtual 49, 3, [0, 111, 3, 10, 0, 642, 643, 644], 0),
  (400, .aload_n 2, 1, [2], 0),
  (401, .aload_n 0, 1, [0], 0),
  (402, .iload_n 3, 1, [3], 0),
  (403, .iconst 1, 1, [], 1),
  (404, .iadd, 1, [], 0),
  (405, .iaload, 1, [], 0),
  (406, .aload_n 0, 1, [0], 0),
  (407, .iload_n 3, 1, [3], 0),
  (408, .iconst 2, 1, [], 2),
  (409, .iadd, 1, [], 0),
  (410, .iaload, 1, [], 0),
  (411, .aload_n 0, 1, [0], 0),
  (412, .iload_n 3, 1, [3], 0),
  (413, .iconst 3, 1, [], 3),
  (414, .iadd, 1, [], 0),
  (415, .iaload, 1, [], 0),
  (416, .invokevirtual 53, 3, [0, 160, 3, 11, 0, 1102, 1103, 1104], 0),
  (419, .if_icmp .eq 345, 3, [764], 0),
  (422, .iconst 0, 1, [], 0),
  (423, .ireturn, 1, [1], 0),
  (424, .aload_n 1, 1, [1], 0),
  (425, .aload_n 0, 1, [0], 0),
  (426, .iload_n 3, 1, [3], 0),
  (427, .iconst 1, 1, [], 1),
  (428, .iadd, 1, [], 0),
  (429, .iaload, 1, [], 0),
  (430, .aload_n 0, 1, [0], 0),
  (431, .iload_n 3, 1, [3], 0),
  (432, .iconst 2, 1, [], 2),
  (433, .iadd, 1, [], 0),
  (434, .iaload, 1, [], 0),
  (435, .aload_n 0, 1, [0], 0),
  (436, .iload_n 3, 1, [3], 0),
  (437, .iconst 3, 1, [], 3),
  (438, .iadd, 1, [], 0),
  (439, .iaload, 1, [], 0),
  (440, .aload_n 0, 1, [0], 0),
  (441, .iload_n 3, 1, [3], 0),
  (442, .iconst 4, 1, [], 4),
  (443, .iadd, 1, [], 0),
  (444, .iaload, 1, [], 0),
  (445, .invokevirtual 54, 3, [0, 112, 4, 10, 0, 709, 710, 711], 0),
  (448, .aload_n 2, 1, [2], 0),
  (449, .aload_n 0, 1, [0], 0),
  (450, .iload_n 3, 1, [3], 0),
  (451, .iconst 1, 1, [], 1),
  (452, .iadd, 1, [], 0),
  (453, .iaload, 1, [], 0),
  (454, .aload_n 0, 1, [0], 0),
  (455, .iload_n 3, 1, [3], 0),
  (456, .iconst 2, 1, [], 2),
  (457, .iadd, 1, [], 0),
  (458, .iaload, 1, [], 0),
  (459, .aload_n 0, 1, [0], 0),
  (460, .iload_n 3, 1, [3], 0),
  (461, .iconst 3, 1, [], 3),
  (462, .iadd, 1, [], 0),
  (463, .iaload, 1, [], 0),
  (464, .aload_n 0, 1, [0], 0),
  (465, .iload_n 3, 1, [3], 0),
  (466, .iconst 4, 1, [], 4),
  (467, .iadd, 1, [], 0),
  (468, .iaload, 1, [], 0),
  (469, .invokevirtual 57, 3, [0, 161, 4, 11, 0, 1118, 1119, 1120], 0),
  (472, .if_icmp .eq 292, 3, [764], 0),
  (475, .iconst 0, 1, [], 0),
  (476, .ireturn, 1, [1], 0),
  (477, .aload_n 1, 1, [1], 0),
  (478, .aload_n 0, 1, [0], 0),
  (479, .iload_n 3, 1, [3], 0),
  (480, .iconst 1, 1, [], 1),
  (481, .iadd, 1, [], 0),
  (482, .iaload, 1, [], 0),
  (483, .aload_n 0, 1, [0], 0),
  (484, .iload_n 3, 1, [3], 0),
  (485, .iconst 2, 1, [], 2),
  (486, .iadd, 1, [], 0),
  (487, .iaload, 1, [], 0),
  (488, .invokevirtual 58, 3, [0, 113, 2, 10, 0, 713, 714, 715], 0),
  (491, .aload_n 2, 1, [2], 0),
  (492, .aload_n 0, 1, [0], 0),
  (493, .iload_n 3, 1, [3], 0),
  (494, .iconst 1, 1, [], 1),
  (495, .iadd, 1, [], 0),
  (496, .iaload, 1, [], 0),
  (497, .aload_n 0, 1, [0], 0),
  (498, .iload_n 3, 1, [3], 0),
  (499, .iconst 2, 1, [], 2),
  (500, .iadd, 1, [], 0),
  (501, .iaload, 1, [], 0),
  (502, .invokevirtual 61, 3, [0, 162, 2, 11, 0, 1122, 1123, 1124], 0),
  (505, .if_icmp .eq 259, 3, [764], 0),
  (508, .iconst 0, 1, [], 0),
  (509, .ireturn, 1, [1], 0),
  (510, .aload_n 1, 1, [1], 0),
  (511, .aload_n 0, 1, [0], 0),
  (512, .iload_n 3, 1, [3], 0),
  (513, .iconst 1, 1, [], 1),
  (514, .iadd, 1, [], 0),
  (515, .iaload, 1, [], 0),
  (516, .aload_n 0, 1, [0], 0),
  (517, .iload_n 3, 1, [3], 0),
  (518, .iconst 2, 1, [], 2),
  (519, .iadd, 1, [], 0),
  (520, .iaload, 1, [], 0),
  (521, .aload_n 0, 1, [0], 0),
  (522, .iload_n 3, 1, [3], 0),
  (523, .iconst 3, 1, [], 3),
  (524, .iadd, 1, [], 0),
  (525, .iaload, 1, [], 0),
  (526, .invokevirtual 62, 3, [0, 114, 3, 10, 0, 717, 718, 719], 0),
  (529, .aload_n 2, 1, [2], 0),
  (530, .aload_n 0, 1, [0], 0),
  (531, .iload_n 3, 1, [3], 0),
  (532, .iconst 1, 1, [], 1),
  (533, .iadd, 1, [], 0),
  (534, .iaload, 1, [], 0),
  (535, .aload_n 0, 1, [0], 0),
  (536, .iload_n 3, 1, [3], 0),
  (537, .iconst 2, 1, [], 2),
  (538, .iadd, 1, [], 0),
  (539, .iaload, 1, [], 0),
  (540, .aload_n 0, 1, [0], 0),
  (541, .iload_n 3, 1, [3], 0),
  (542, .iconst 3, 1, [], 3),
  (543, .iadd, 1, [], 0),
  (544, .iaload, 1, [], 0),
  (545, .invokevirtual 65, 3, [0, 164, 3, 11, 0, 1126, 1127, 1128], 0),
  (548, .if_icmp .eq 216, 3, [764], 0),
  (551, .iconst 0, 1, [], 0),
  (552, .ireturn, 1, [1], 0),
  (553, .aload_n 1, 1, [1], 0),
  (554, .aload_n 0, 1, [0], 0),
  (555, .iload_n 3, 1, [3], 0),
  (556, .iconst 1, 1, [], 1),
  (557, .iadd, 1, [], 0),
  (558, .iaload, 1, [], 0),
  (559, .aload_n 0, 1, [0], 0),
  (560, .iload_n 3, 1, [3], 0),
  (561, .iconst 2, 1, [], 2),
  (562, .iadd, 1, [], 0),
  (563, .iaload, 1, [], 0),
  (564, .aload_n 0, 1, [0], 0),
  (565, .iload_n 3, 1, [3], 0),
  (566, .iconst 3, 1, [], 3),
  (567, .iadd, 1, [], 0),
  (568, .iaload, 1, [], 0),
  (569, .aload_n 0, 1, [0], 0),
  (570, .iload_n 3, 1, [3], 0),
  (571, .iconst 4, 1, [], 4),
  (572, .iadd, 1, [], 0),
  (573, .iaload, 1, [], 0),
  (574, .invokevirtual 66, 3, [0, 115, 4, 10, 0, 760, 761, 762], 0),
  (577, .aload_n 2, 1, [2], 0),
  (578, .aload_n 0, 1, [0], 0),
  (579, .iload_n 3, 1, [3], 0),
  (580, .iconst 1, 1, [], 1),
  (581, .iadd, 1, [], 0),
  (582, .iaload, 1, [], 0),
  (583, .aload_n 0, 1, [0], 0),
  (584, .iload_n 3, 1, [3], 0),
  (585, .iconst 2, 1, [], 2),
  (586, .iadd, 1, [], 0),
  (587, .iaload, 1, [], 0),
  (588, .aload_n 0, 1, [0], 0),
  (589, .iload_n 3, 1, [3], 0),
  (590, .iconst 3, 1, [], 3),
  (591, .iadd, 1, [], 0),
  (592, .iaload, 1, [], 0),
  (593, .aload_n 0, 1, [0], 0),
  (594, .iload_n 3, 1, [3], 0),
  (595, .iconst 4, 1, [], 4),
  (596, .iadd, 1, [], 0),
  (597, .iaload, 1, [], 0),
  (598, .invokevirtual 69, 3, [0, 167, 4, 11, 0, 1134, 1135, 1136], 0),
  (601, .if_icmp .eq 163, 3, [764], 0),
  (604, .iconst 0, 1, [], 0),
  (605, .ireturn, 1, [1], 0),
  (606, .aload_n 1, 1, [1], 0),
  (607, .aload_n 0, 1, [0], 0),
  (608, .iload_n 3, 1, [3], 0),
  (609, .iconst 1, 1, [], 1),
  (610, .iadd, 1, [], 0),
  (611, .iaload, 1, [], 0),
  (612, .aload_n 0, 1, [0], 0),
  (613, .iload_n 3, 1, [3], 0),
  (614, .iconst 2, 1, [], 2),
  (615, .iadd, 1, [], 0),
  (616, .iaload, 1, [], 0),
  (617, .invokevirtual 70, 3, [0, 116, 2, 10, 0, 806, 807, 808], 0),
  (620, .aload_n 2, 1, [2], 0),
  (621, .aload_n 0, 1, [0], 0),
  (622, .iload_n 3, 1, [3], 0),
  (623, .iconst 1, 1, [], 1),
  (624, .iadd, 1, [], 0),
  (625, .iaload, 1, [], 0),
  (626, .aload_n 0, 1, [0], 0),
  (627, .iload_n 3, 1, [3], 0),
  (628, .iconst 2, 1, [], 2),
  (629, .iadd, 1, [], 0),
  (630, .iaload, 1, [], 0),
  (631, .invokevirtual 73, 3, [0, 170, 2, 11, 0, 1146, 1147, 1148], 0),
  (634, .if_icmp .eq 130, 3, [764], 0),
  (637, .iconst 0, 1, [], 0),
  (638, .ireturn, 1, [1], 0),
  (639, .aload_n 1, 1, [1], 0),
  (640, .aload_n 0, 1, [0], 0),
  (641, .iload_n 3, 1, [3], 0),
  (642, .iconst 1, 1, [], 1),
  (643, .iadd, 1, [], 0),
  (644, .iaload, 1, [], 0),
  (645, .aload_n 0, 1, [0], 0),
  (646, .iload_n 3, 1, [3], 0),
  (647, .iconst 2, 1, [], 2),
  (648, .iadd, 1, [], 0),
  (649, .iaload, 1, [], 0),
  (650, .invokevirtual 74, 3, [0, 117, 2, 10, 0, 848, 849, 850], 0),
  (653, .aload_n 2, 1, [2], 0),
  (654, .aload_n 0, 1, [0], 0),
  (655, .iload_n 3, 1, [3], 0),
  (656, .iconst 1, 1, [], 1),
  (657, .iadd, 1, [], 0),
  (658, .iaload, 1, [], 0),
  (659, .aload_n 0, 1, [0], 0),
  (660, .iload_n 3, 1, [3], 0),
  (661, .iconst 2, 1, [], 2),
  (662, .iadd, 1, [], 0),
  (663, .iaload, 1, [], 0),
  (664, .invokevirtual 77, 3, [0, 171, 2, 11, 0, 1158, 1159, 1160], 0),
  (667, .if_icmp .eq 97, 3, [764], 0),
  (670, .iconst 0, 1, [], 0),
  (671, .ireturn, 1, [1], 0),
  (672, .aload_n 1, 1, [1], 0),
  (673, .aload_n 0, 1, [0], 0),
  (674, .iload_n 3, 1, [3], 0),
  (675, .iconst 1, 1, [], 1),
  (676, .iadd, 1, [], 0),
  (677, .iaload, 1, [], 0),
  (678, .invokevirtual 78, 3, [0, 118, 1, 10, 0, 852, 853, 854], 0),
  (681, .aload_n 2, 1, [2], 0),
  (682, .aload_n 0, 1, [0], 0),
  (683, .iload_n 3, 1, [3], 0),
  (684, .iconst 1, 1, [], 1),
  (685, .iadd, 1, [], 0),
  (686, .iaload, 1, [], 0),
  (687, .invokevirtual 81, 3, [0, 172, 1, 11, 0, 1162, 1163, 1164], 0),
  (690, .if_icmp .eq 74, 3, [764], 0),
  (693, .iconst 0, 1, [], 0),
  (694, .ireturn, 1, [1], 0),
  (695, .aload_n 1, 1, [1], 0),
  (696, .aload_n 0, 1, [0], 0),
  (697, .iload_n 3, 1, [3], 0),
  (698, .iconst 1, 1, [], 1),
  (699, .iadd, 1, [], 0),
  (700, .iaload, 1, [], 0),
  (701, .invokevirtual 82, 3, [0, 119, 1, 10, 0, 861, 862, 863], 0),
  (704, .aload_n 2, 1, [2], 0),
  (705, .aload_n 0, 1, [0], 0),
  (706, .iload_n 3, 1, [3], 0),
  (707, .iconst 1, 1, [], 1),
  (708, .iadd, 1, [], 0),
  (709, .iaload, 1, [], 0),
  (710, .invokevirtual 85, 3, [0, 175, 1, 11, 0, 1166, 1167, 1168], 0),
  (713, .if_icmp .eq 51, 3, [764], 0),
  (716, .iconst 0, 1, [], 0),
  (717, .ireturn, 1, [1], 0),
  (718, .aload_n 1, 1, [1], 0),
  (719, .aload_n 0, 1, [0], 0),
  (720, .iload_n 3, 1, [3], 0),
  (721, .iconst 1, 1, [], 1),
  (722, .iadd, 1, [], 0),
  (723, .iaload, 1, [], 0),
  (724, .invokevirtual 86, 3, [0, 120, 1, 10, 0, 876, 877, 878], 0),
  (727, .aload_n 2, 1, [2], 0),
  (728, .aload_n 0, 1, [0], 0),
  (729, .iload_n 3, 1, [3], 0),
  (730, .iconst 1, 1, [], 1),
  (731, .iadd, 1, [], 0),
  (732, .iaload, 1, [], 0),
  (733, .invokevirtual 89, 3, [0, 177, 1, 11, 0, 1177, 1178, 1179], 0),
  (736, .if_icmp .eq 28, 3, [764], 0),
  (739, .iconst 0, 1, [], 0),
  (740, .ireturn, 1, [1], 0),
  (741, .aload_n 1, 1, [1], 0),
  (742, .aload_n 0, 1, [0], 0),
  (743, .iload_n 3, 1, [3], 0),
  (744, .iconst 1, 1, [], 1),
  (745, .iadd, 1, [], 0),
  (746, .iaload, 1, [], 0),
  (747, .invokevirtual 90, 3, [0, 121, 1, 10, 0, 901, 902, 903], 0),
  (750, .aload_n 2, 1, [2], 0),
  (751, .aload_n 0, 1, [0], 0),
  (752, .iload_n 3, 1, [3], 0),
  (753, .iconst 1, 1, [], 1),
  (754, .iadd, 1, [], 0),
  (755, .iaload, 1, [], 0),
  (756, .invokevirtual 93, 3, [0, 178, 1, 11, 0, 1185, 1186, 1187], 0),
  (759, .if_icmp .eq 5, 3, [764], 0),
  (762, .iconst 0, 1, [], 0),
  (763, .ireturn, 1, [1], 0),
  (764, .iinc 3 6, 3, [3], 6),
  (767, .goto (-749), 3, [18], 0),
  (770, .iconst 1, 1, [], 1),
  (771, .ireturn, 1, [1], 0)]
def m_Law_law : xa_M := (⟨"MayMustLaw", "law", "([I)Z"⟩, code, maxLocals, ret, t_Law_law)
def xa_ms : List xa_M := [m_Joiner_init, m_Joiner_combine, m_Joiner_dropClashes, m_Joiner_dropSome, m_Joiner_clashes, m_Joiner_spread, m_Joiner_arrowOf, m_Joiner_numberOf, m_Pairs_init, m_Pairs_fill, m_Pairs_has, m_Pairs_drop, m_Pairs_leftLacks, m_Pairs_rightLacks, m_Pairs_lacks, m_Pairs_isPair, m_Plan_init, m_Plan_size, m_Plan_reset, m_Plan_resize, m_Plan_become, m_Plan_anyFrom, m_Plan_mustFrom, m_Plan_at, m_Plan_lay, m_Plan_raise, m_Plan_settle, m_Plan_musts, m_Plan_choices, m_Plan_bitsOf, m_Plan_isSpot, m_Reader_init, m_Reader_readPlan, m_Reader_readHead, m_Reader_readItem, m_Reader_readSaying, m_Reader_readBoths, m_Reader_readBoth, m_Reader_readUnit, m_Reader_readBit, m_Reader_readNot, m_Reader_readArrow, m_Rounds_init, m_Rounds_play, m_Rounds_roundOf, m_Rounds_areOne, m_Rounds_whyLetter, m_Rounds_whySide, m_Rounds_playOne, m_Rounds_dropThoseOf, m_Rounds_hasToGo, m_Rounds_sideOf, m_Saying_init, m_Saying_bits, m_Saying_reset, m_Saying_become, m_Saying_add, m_Saying_valueOf, m_Saying_valuesIn, m_Saying_valuesOf, m_Saying_overSome, m_Saying_overEach, m_Saying_valuesFrom, m_Saying_someOf, m_Saying_soOf, m_Saying_push, m_Saying_pop, m_Shrinker_init, m_Shrinker_shrink, m_Shrinker_findLeast, m_Shrinker_reachedIn, m_Shrinker_nextOf, m_Shrinker_carryArrows, m_Shrinker_rankIn, m_Text_init, m_Text_size, m_Text_drain, m_Text_append, m_Text_byteAt, m_Text_spells, m_Tokens_init, m_Tokens_split, m_Tokens_kind, m_Tokens_place, m_Tokens_advance, m_Tokens_take, m_Tokens_takeWorth, m_Tokens_cut, m_Tokens_cutNumber, m_Tokens_cutWord, m_Tokens_kindOfWord, m_Tokens_keep, m_Tokens_isDigit, m_Tokens_isWordLetter, m_Walker_init, m_Walker_restart, m_Walker_where, m_Walker_gone, m_Walker_step, m_Walker_mayCome, m_Walker_mustBeThere, m_Walker_nextBy, m_Walker_isInAll, m_MM_init, m_MM_type, m_MM_clear, m_MM_plan, m_MM_say, m_MM_states, m_MM_arrow, m_MM_put, m_MM_stricter, m_MM_stays, m_MM_alike, m_MM_make, m_MM_join, m_MM_value, m_MM_how, m_MM_begin, m_MM_go, m_MM_walk, m_MM_count, m_MM_noPlan, m_MM_noLetter, m_MM_noState, m_MM_noArrow, m_MM_statesOfAll, m_MM_inSet, m_Mo_init, m_Mo_in, m_Mo_isPlan, m_Mo_isState, m_Mo_at, m_Mo_of, m_Mo_empties, m_Mo_copies, m_Mo_type, m_Mo_clear, m_Mo_byteAt, m_Mo_isWord, m_Mo_words, m_Mo_advances, m_Mo_isWell, m_Mo_takes, m_Mo_isSign, m_Mo_begins, m_Mo_plan, m_Mo_puts, m_Mo_settles, m_Mo_bracket, m_Mo_unit, m_Mo_wantsUnit, m_Mo_say, m_Mo_many, m_Mo_states, m_Mo_arrow, m_Mo_put, m_Mo_isThere, m_Mo_why, m_Mo_goes, m_Mo_stricter, m_Mo_stays, m_Mo_alike, m_Mo_smalls, m_Mo_make, m_Mo_isClash, m_Mo_clash, m_Mo_join, m_Mo_goingTo, m_Mo_values, m_Mo_value, m_Mo_how, m_Mo_begin, m_Mo_onward, m_Mo_ones, m_Mo_go, m_Mo_isSure, m_Mo_walk, m_Mo_count, m_Int_bitCount, m_Str_length, m_Str_charAt, m_Str_indexOf, m_Str_indexOf2, m_Str_coder, m_Str_isLatin1, m_Str_checkIndex, m_Lat_charAt, m_Lat_canEncode, m_Lat_indexOf, m_Lat_indexOfChar, m_Arr_fill, m_Pre_checkIndex]
end
section
set_option maxRecDepth 1000000 in
theorem ok_Joiner_init : xa_okT xa_ms m_Joiner_init = true := by decide +kernel
set_option maxRecDepth 1000000 in
theorem ok_Joiner_combine : xa_okT xa_ms m_Joiner_combine = true := by decide +kernel
set_option maxRecDepth 1000000 in
theorem ok_Joiner_dropClashes : xa_okT xa_ms m_Joiner_dropClashes = true := by decide +kernel
set_option maxRecDepth 1000000 in
theorem ok_Joiner_dropSome : xa_okT xa_ms m_Joiner_dropSome = true := by decide +kernel
set_option maxRecDepth 1000000 in
theorem ok_Joiner_clashes : xa_okT xa_ms m_Joiner_clashes = true := by decide +kernel
set_option maxRecDepth 1000000 in
theorem ok_Joiner_spread : xa_okT xa_ms m_Joiner_spread = true := by decide +kernel
set_option maxRecDepth 1000000 in
theorem ok_Joiner_arrowOf : xa_okT xa_ms m_Joiner_arrowOf = true := by decide +kernel
set_option maxRecDepth 1000000 in
theorem ok_Joiner_numberOf : xa_okT xa_ms m_Joiner_numberOf = true := by decide +kernel
set_option maxRecDepth 1000000 in
theorem ok_Pairs_init : xa_okT xa_ms m_Pairs_init = true := by decide +kernel
set_option maxRecDepth 1000000 in
theorem ok_Pairs_fill : xa_okT xa_ms m_Pairs_fill = true := by decide +kernel
set_option maxRecDepth 1000000 in
theorem ok_Pairs_has : xa_okT xa_ms m_Pairs_has = true := by decide +kernel
set_option maxRecDepth 1000000 in
theorem ok_Pairs_drop : xa_okT xa_ms m_Pairs_drop = true := by decide +kernel
set_option maxRecDepth 1000000 in
theorem ok_Pairs_leftLacks : xa_okT xa_ms m_Pairs_leftLacks = true := by decide +kernel
set_option maxRecDepth 1000000 in
theorem ok_Pairs_rightLacks : xa_okT xa_ms m_Pairs_rightLacks = true := by decide +kernel
set_option maxRecDepth 1000000 in
theorem ok_Pairs_lacks : xa_okT xa_ms m_Pairs_lacks = true := by decide +kernel
set_option maxRecDepth 1000000 in
theorem ok_Pairs_isPair : xa_okT xa_ms m_Pairs_isPair = true := by decide +kernel
set_option maxRecDepth 1000000 in
theorem ok_Plan_init : xa_okT xa_ms m_Plan_init = true := by decide +kernel
set_option maxRecDepth 1000000 in
theorem ok_Plan_size : xa_okT xa_ms m_Plan_size = true := by decide +kernel
set_option maxRecDepth 1000000 in
theorem ok_Plan_reset : xa_okT xa_ms m_Plan_reset = true := by decide +kernel
set_option maxRecDepth 1000000 in
theorem ok_Plan_resize : xa_okT xa_ms m_Plan_resize = true := by decide +kernel
set_option maxRecDepth 1000000 in
theorem ok_Plan_become : xa_okT xa_ms m_Plan_become = true := by decide +kernel
set_option maxRecDepth 1000000 in
theorem ok_Plan_anyFrom : xa_okT xa_ms m_Plan_anyFrom = true := by decide +kernel
set_option maxRecDepth 1000000 in
theorem ok_Plan_mustFrom : xa_okT xa_ms m_Plan_mustFrom = true := by decide +kernel
set_option maxRecDepth 1000000 in
theorem ok_Plan_at : xa_okT xa_ms m_Plan_at = true := by decide +kernel
set_option maxRecDepth 1000000 in
theorem ok_Plan_lay : xa_okT xa_ms m_Plan_lay = true := by decide +kernel
set_option maxRecDepth 1000000 in
theorem ok_Plan_raise : xa_okT xa_ms m_Plan_raise = true := by decide +kernel
set_option maxRecDepth 1000000 in
theorem ok_Plan_settle : xa_okT xa_ms m_Plan_settle = true := by decide +kernel
set_option maxRecDepth 1000000 in
theorem ok_Plan_musts : xa_okT xa_ms m_Plan_musts = true := by decide +kernel
set_option maxRecDepth 1000000 in
theorem ok_Plan_choices : xa_okT xa_ms m_Plan_choices = true := by decide +kernel
set_option maxRecDepth 1000000 in
theorem ok_Plan_bitsOf : xa_okT xa_ms m_Plan_bitsOf = true := by decide +kernel
set_option maxRecDepth 1000000 in
theorem ok_Plan_isSpot : xa_okT xa_ms m_Plan_isSpot = true := by decide +kernel
set_option maxRecDepth 1000000 in
theorem ok_Reader_init : xa_okT xa_ms m_Reader_init = true := by decide +kernel
set_option maxRecDepth 1000000 in
theorem ok_Reader_readPlan : xa_okT xa_ms m_Reader_readPlan = true := by decide +kernel
set_option maxRecDepth 1000000 in
theorem ok_Reader_readHead : xa_okT xa_ms m_Reader_readHead = true := by decide +kernel
set_option maxRecDepth 1000000 in
theorem ok_Reader_readItem : xa_okT xa_ms m_Reader_readItem = true := by decide +kernel
set_option maxRecDepth 1000000 in
theorem ok_Reader_readSaying : xa_okT xa_ms m_Reader_readSaying = true := by decide +kernel
set_option maxRecDepth 1000000 in
theorem ok_Reader_readBoths : xa_okT xa_ms m_Reader_readBoths = true := by decide +kernel
set_option maxRecDepth 1000000 in
theorem ok_Reader_readBoth : xa_okT xa_ms m_Reader_readBoth = true := by decide +kernel
set_option maxRecDepth 1000000 in
theorem ok_Reader_readUnit : xa_okT xa_ms m_Reader_readUnit = true := by decide +kernel
set_option maxRecDepth 1000000 in
theorem ok_Reader_readBit : xa_okT xa_ms m_Reader_readBit = true := by decide +kernel
set_option maxRecDepth 1000000 in
theorem ok_Reader_readNot : xa_okT xa_ms m_Reader_readNot = true := by decide +kernel
set_option maxRecDepth 1000000 in
theorem ok_Reader_readArrow : xa_okT xa_ms m_Reader_readArrow = true := by decide +kernel
set_option maxRecDepth 1000000 in
theorem ok_Rounds_init : xa_okT xa_ms m_Rounds_init = true := by decide +kernel
set_option maxRecDepth 1000000 in
theorem ok_Rounds_play : xa_okT xa_ms m_Rounds_play = true := by decide +kernel
set_option maxRecDepth 1000000 in
theorem ok_Rounds_roundOf : xa_okT xa_ms m_Rounds_roundOf = true := by decide +kernel
set_option maxRecDepth 1000000 in
theorem ok_Rounds_areOne : xa_okT xa_ms m_Rounds_areOne = true := by decide +kernel
set_option maxRecDepth 1000000 in
theorem ok_Rounds_whyLetter : xa_okT xa_ms m_Rounds_whyLetter = true := by decide +kernel
set_option maxRecDepth 1000000 in
theorem ok_Rounds_whySide : xa_okT xa_ms m_Rounds_whySide = true := by decide +kernel
set_option maxRecDepth 1000000 in
theorem ok_Rounds_playOne : xa_okT xa_ms m_Rounds_playOne = true := by decide +kernel
end
section
set_option maxRecDepth 1000000 in
theorem ok_Rounds_dropThoseOf : xa_okT xa_ms m_Rounds_dropThoseOf = true := by decide +kernel
set_option maxRecDepth 1000000 in
theorem ok_Rounds_hasToGo : xa_okT xa_ms m_Rounds_hasToGo = true := by decide +kernel
set_option maxRecDepth 1000000 in
theorem ok_Rounds_sideOf : xa_okT xa_ms m_Rounds_sideOf = true := by decide +kernel
set_option maxRecDepth 1000000 in
theorem ok_Saying_init : xa_okT xa_ms m_Saying_init = true := by decide +kernel
set_option maxRecDepth 1000000 in
theorem ok_Saying_bits : xa_okT xa_ms m_Saying_bits = true := by decide +kernel
set_option maxRecDepth 1000000 in
theorem ok_Saying_reset : xa_okT xa_ms m_Saying_reset = true := by decide +kernel
set_option maxRecDepth 1000000 in
theorem ok_Saying_become : xa_okT xa_ms m_Saying_become = true := by decide +kernel
set_option maxRecDepth 1000000 in
theorem ok_Saying_add : xa_okT xa_ms m_Saying_add = true := by decide +kernel
set_option maxRecDepth 1000000 in
theorem ok_Saying_valueOf : xa_okT xa_ms m_Saying_valueOf = true := by decide +kernel
set_option maxRecDepth 1000000 in
theorem ok_Saying_valuesIn : xa_okT xa_ms m_Saying_valuesIn = true := by decide +kernel
set_option maxRecDepth 1000000 in
theorem ok_Saying_valuesOf : xa_okT xa_ms m_Saying_valuesOf = true := by decide +kernel
set_option maxRecDepth 1000000 in
theorem ok_Saying_overSome : xa_okT xa_ms m_Saying_overSome = true := by decide +kernel
set_option maxRecDepth 1000000 in
theorem ok_Saying_overEach : xa_okT xa_ms m_Saying_overEach = true := by decide +kernel
set_option maxRecDepth 1000000 in
theorem ok_Saying_valuesFrom : xa_okT xa_ms m_Saying_valuesFrom = true := by decide +kernel
set_option maxRecDepth 1000000 in
theorem ok_Saying_someOf : xa_okT xa_ms m_Saying_someOf = true := by decide +kernel
set_option maxRecDepth 1000000 in
theorem ok_Saying_soOf : xa_okT xa_ms m_Saying_soOf = true := by decide +kernel
set_option maxRecDepth 1000000 in
theorem ok_Saying_push : xa_okT xa_ms m_Saying_push = true := by decide +kernel
set_option maxRecDepth 1000000 in
theorem ok_Saying_pop : xa_okT xa_ms m_Saying_pop = true := by decide +kernel
set_option maxRecDepth 1000000 in
theorem ok_Shrinker_init : xa_okT xa_ms m_Shrinker_init = true := by decide +kernel
set_option maxRecDepth 1000000 in
theorem ok_Shrinker_shrink : xa_okT xa_ms m_Shrinker_shrink = true := by decide +kernel
set_option maxRecDepth 1000000 in
theorem ok_Shrinker_findLeast : xa_okT xa_ms m_Shrinker_findLeast = true := by decide +kernel
set_option maxRecDepth 1000000 in
theorem ok_Shrinker_reachedIn : xa_okT xa_ms m_Shrinker_reachedIn = true := by decide +kernel
set_option maxRecDepth 1000000 in
theorem ok_Shrinker_nextOf : xa_okT xa_ms m_Shrinker_nextOf = true := by decide +kernel
set_option maxRecDepth 1000000 in
theorem ok_Shrinker_carryArrows : xa_okT xa_ms m_Shrinker_carryArrows = true := by decide +kernel
set_option maxRecDepth 1000000 in
theorem ok_Shrinker_rankIn : xa_okT xa_ms m_Shrinker_rankIn = true := by decide +kernel
set_option maxRecDepth 1000000 in
theorem ok_Text_init : xa_okT xa_ms m_Text_init = true := by decide +kernel
set_option maxRecDepth 1000000 in
theorem ok_Text_size : xa_okT xa_ms m_Text_size = true := by decide +kernel
set_option maxRecDepth 1000000 in
theorem ok_Text_drain : xa_okT xa_ms m_Text_drain = true := by decide +kernel
set_option maxRecDepth 1000000 in
theorem ok_Text_append : xa_okT xa_ms m_Text_append = true := by decide +kernel
set_option maxRecDepth 1000000 in
theorem ok_Text_byteAt : xa_okT xa_ms m_Text_byteAt = true := by decide +kernel
set_option maxRecDepth 1000000 in
theorem ok_Text_spells : xa_okT xa_ms m_Text_spells = true := by decide +kernel
set_option maxRecDepth 1000000 in
theorem ok_Tokens_init : xa_okT xa_ms m_Tokens_init = true := by decide +kernel
set_option maxRecDepth 1000000 in
theorem ok_Tokens_split : xa_okT xa_ms m_Tokens_split = true := by decide +kernel
set_option maxRecDepth 1000000 in
theorem ok_Tokens_kind : xa_okT xa_ms m_Tokens_kind = true := by decide +kernel
set_option maxRecDepth 1000000 in
theorem ok_Tokens_place : xa_okT xa_ms m_Tokens_place = true := by decide +kernel
set_option maxRecDepth 1000000 in
theorem ok_Tokens_advance : xa_okT xa_ms m_Tokens_advance = true := by decide +kernel
set_option maxRecDepth 1000000 in
theorem ok_Tokens_take : xa_okT xa_ms m_Tokens_take = true := by decide +kernel
set_option maxRecDepth 1000000 in
theorem ok_Tokens_takeWorth : xa_okT xa_ms m_Tokens_takeWorth = true := by decide +kernel
set_option maxRecDepth 1000000 in
theorem ok_Tokens_cut : xa_okT xa_ms m_Tokens_cut = true := by decide +kernel
set_option maxRecDepth 1000000 in
theorem ok_Tokens_cutNumber : xa_okT xa_ms m_Tokens_cutNumber = true := by decide +kernel
set_option maxRecDepth 1000000 in
theorem ok_Tokens_cutWord : xa_okT xa_ms m_Tokens_cutWord = true := by decide +kernel
set_option maxRecDepth 1000000 in
theorem ok_Tokens_kindOfWord : xa_okT xa_ms m_Tokens_kindOfWord = true := by decide +kernel
set_option maxRecDepth 1000000 in
theorem ok_Tokens_keep : xa_okT xa_ms m_Tokens_keep = true := by decide +kernel
set_option maxRecDepth 1000000 in
theorem ok_Tokens_isDigit : xa_okT xa_ms m_Tokens_isDigit = true := by decide +kernel
set_option maxRecDepth 1000000 in
theorem ok_Tokens_isWordLetter : xa_okT xa_ms m_Tokens_isWordLetter = true := by decide +kernel
set_option maxRecDepth 1000000 in
theorem ok_Walker_init : xa_okT xa_ms m_Walker_init = true := by decide +kernel
set_option maxRecDepth 1000000 in
theorem ok_Walker_restart : xa_okT xa_ms m_Walker_restart = true := by decide +kernel
set_option maxRecDepth 1000000 in
theorem ok_Walker_where : xa_okT xa_ms m_Walker_where = true := by decide +kernel
set_option maxRecDepth 1000000 in
theorem ok_Walker_gone : xa_okT xa_ms m_Walker_gone = true := by decide +kernel
end
section
set_option maxRecDepth 1000000 in
theorem ok_Walker_step : xa_okT xa_ms m_Walker_step = true := by decide +kernel
set_option maxRecDepth 1000000 in
theorem ok_Walker_mayCome : xa_okT xa_ms m_Walker_mayCome = true := by decide +kernel
set_option maxRecDepth 1000000 in
theorem ok_Walker_mustBeThere : xa_okT xa_ms m_Walker_mustBeThere = true := by decide +kernel
set_option maxRecDepth 1000000 in
theorem ok_Walker_nextBy : xa_okT xa_ms m_Walker_nextBy = true := by decide +kernel
set_option maxRecDepth 1000000 in
theorem ok_Walker_isInAll : xa_okT xa_ms m_Walker_isInAll = true := by decide +kernel
set_option maxRecDepth 1000000 in
theorem ok_MM_init : xa_okT xa_ms m_MM_init = true := by decide +kernel
set_option maxRecDepth 1000000 in
theorem ok_MM_type : xa_okT xa_ms m_MM_type = true := by decide +kernel
set_option maxRecDepth 1000000 in
theorem ok_MM_clear : xa_okT xa_ms m_MM_clear = true := by decide +kernel
set_option maxRecDepth 1000000 in
theorem ok_MM_plan : xa_okT xa_ms m_MM_plan = true := by decide +kernel
set_option maxRecDepth 1000000 in
theorem ok_MM_say : xa_okT xa_ms m_MM_say = true := by decide +kernel
set_option maxRecDepth 1000000 in
theorem ok_MM_states : xa_okT xa_ms m_MM_states = true := by decide +kernel
set_option maxRecDepth 1000000 in
theorem ok_MM_arrow : xa_okT xa_ms m_MM_arrow = true := by decide +kernel
set_option maxRecDepth 1000000 in
theorem ok_MM_put : xa_okT xa_ms m_MM_put = true := by decide +kernel
set_option maxRecDepth 1000000 in
theorem ok_MM_stricter : xa_okT xa_ms m_MM_stricter = true := by decide +kernel
set_option maxRecDepth 1000000 in
theorem ok_MM_stays : xa_okT xa_ms m_MM_stays = true := by decide +kernel
set_option maxRecDepth 1000000 in
theorem ok_MM_alike : xa_okT xa_ms m_MM_alike = true := by decide +kernel
set_option maxRecDepth 1000000 in
theorem ok_MM_make : xa_okT xa_ms m_MM_make = true := by decide +kernel
set_option maxRecDepth 1000000 in
theorem ok_MM_join : xa_okT xa_ms m_MM_join = true := by decide +kernel
set_option maxRecDepth 1000000 in
theorem ok_MM_value : xa_okT xa_ms m_MM_value = true := by decide +kernel
set_option maxRecDepth 1000000 in
theorem ok_MM_how : xa_okT xa_ms m_MM_how = true := by decide +kernel
set_option maxRecDepth 1000000 in
theorem ok_MM_begin : xa_okT xa_ms m_MM_begin = true := by decide +kernel
set_option maxRecDepth 1000000 in
theorem ok_MM_go : xa_okT xa_ms m_MM_go = true := by decide +kernel
set_option maxRecDepth 1000000 in
theorem ok_MM_walk : xa_okT xa_ms m_MM_walk = true := by decide +kernel
set_option maxRecDepth 1000000 in
theorem ok_MM_count : xa_okT xa_ms m_MM_count = true := by decide +kernel
set_option maxRecDepth 1000000 in
theorem ok_MM_noPlan : xa_okT xa_ms m_MM_noPlan = true := by decide +kernel
set_option maxRecDepth 1000000 in
theorem ok_MM_noLetter : xa_okT xa_ms m_MM_noLetter = true := by decide +kernel
set_option maxRecDepth 1000000 in
theorem ok_MM_noState : xa_okT xa_ms m_MM_noState = true := by decide +kernel
set_option maxRecDepth 1000000 in
theorem ok_MM_noArrow : xa_okT xa_ms m_MM_noArrow = true := by decide +kernel
set_option maxRecDepth 1000000 in
theorem ok_MM_statesOfAll : xa_okT xa_ms m_MM_statesOfAll = true := by decide +kernel
set_option maxRecDepth 1000000 in
theorem ok_MM_inSet : xa_okT xa_ms m_MM_inSet = true := by decide +kernel
set_option maxRecDepth 1000000 in
theorem ok_Mo_init : xa_okT xa_ms m_Mo_init = true := by decide +kernel
set_option maxRecDepth 1000000 in
theorem ok_Mo_in : xa_okT xa_ms m_Mo_in = true := by decide +kernel
set_option maxRecDepth 1000000 in
theorem ok_Mo_isPlan : xa_okT xa_ms m_Mo_isPlan = true := by decide +kernel
set_option maxRecDepth 1000000 in
theorem ok_Mo_isState : xa_okT xa_ms m_Mo_isState = true := by decide +kernel
set_option maxRecDepth 1000000 in
theorem ok_Mo_at : xa_okT xa_ms m_Mo_at = true := by decide +kernel
set_option maxRecDepth 1000000 in
theorem ok_Mo_of : xa_okT xa_ms m_Mo_of = true := by decide +kernel
set_option maxRecDepth 1000000 in
theorem ok_Mo_empties : xa_okT xa_ms m_Mo_empties = true := by decide +kernel
set_option maxRecDepth 1000000 in
theorem ok_Mo_copies : xa_okT xa_ms m_Mo_copies = true := by decide +kernel
set_option maxRecDepth 1000000 in
theorem ok_Mo_type : xa_okT xa_ms m_Mo_type = true := by decide +kernel
set_option maxRecDepth 1000000 in
theorem ok_Mo_clear : xa_okT xa_ms m_Mo_clear = true := by decide +kernel
set_option maxRecDepth 1000000 in
theorem ok_Mo_byteAt : xa_okT xa_ms m_Mo_byteAt = true := by decide +kernel
set_option maxRecDepth 1000000 in
theorem ok_Mo_isWord : xa_okT xa_ms m_Mo_isWord = true := by decide +kernel
set_option maxRecDepth 1000000 in
theorem ok_Mo_words : xa_okT xa_ms m_Mo_words = true := by decide +kernel
set_option maxRecDepth 1000000 in
theorem ok_Mo_advances : xa_okT xa_ms m_Mo_advances = true := by decide +kernel
set_option maxRecDepth 1000000 in
theorem ok_Mo_isWell : xa_okT xa_ms m_Mo_isWell = true := by decide +kernel
set_option maxRecDepth 1000000 in
theorem ok_Mo_takes : xa_okT xa_ms m_Mo_takes = true := by decide +kernel
set_option maxRecDepth 1000000 in
theorem ok_Mo_isSign : xa_okT xa_ms m_Mo_isSign = true := by decide +kernel
set_option maxRecDepth 1000000 in
theorem ok_Mo_begins : xa_okT xa_ms m_Mo_begins = true := by decide +kernel
set_option maxRecDepth 1000000 in
theorem ok_Mo_plan : xa_okT xa_ms m_Mo_plan = true := by decide +kernel
end
section
set_option maxRecDepth 1000000 in
theorem ok_Mo_puts : xa_okT xa_ms m_Mo_puts = true := by decide +kernel
set_option maxRecDepth 1000000 in
theorem ok_Mo_settles : xa_okT xa_ms m_Mo_settles = true := by decide +kernel
set_option maxRecDepth 1000000 in
theorem ok_Mo_bracket : xa_okT xa_ms m_Mo_bracket = true := by decide +kernel
set_option maxRecDepth 1000000 in
theorem ok_Mo_unit : xa_okT xa_ms m_Mo_unit = true := by decide +kernel
set_option maxRecDepth 1000000 in
theorem ok_Mo_wantsUnit : xa_okT xa_ms m_Mo_wantsUnit = true := by decide +kernel
set_option maxRecDepth 1000000 in
theorem ok_Mo_say : xa_okT xa_ms m_Mo_say = true := by decide +kernel
set_option maxRecDepth 1000000 in
theorem ok_Mo_many : xa_okT xa_ms m_Mo_many = true := by decide +kernel
set_option maxRecDepth 1000000 in
theorem ok_Mo_states : xa_okT xa_ms m_Mo_states = true := by decide +kernel
set_option maxRecDepth 1000000 in
theorem ok_Mo_arrow : xa_okT xa_ms m_Mo_arrow = true := by decide +kernel
set_option maxRecDepth 1000000 in
theorem ok_Mo_put : xa_okT xa_ms m_Mo_put = true := by decide +kernel
set_option maxRecDepth 1000000 in
theorem ok_Mo_isThere : xa_okT xa_ms m_Mo_isThere = true := by decide +kernel
set_option maxRecDepth 1000000 in
theorem ok_Mo_why : xa_okT xa_ms m_Mo_why = true := by decide +kernel
set_option maxRecDepth 1000000 in
theorem ok_Mo_goes : xa_okT xa_ms m_Mo_goes = true := by decide +kernel
set_option maxRecDepth 1000000 in
theorem ok_Mo_stricter : xa_okT xa_ms m_Mo_stricter = true := by decide +kernel
set_option maxRecDepth 1000000 in
theorem ok_Mo_stays : xa_okT xa_ms m_Mo_stays = true := by decide +kernel
set_option maxRecDepth 1000000 in
theorem ok_Mo_alike : xa_okT xa_ms m_Mo_alike = true := by decide +kernel
set_option maxRecDepth 1000000 in
theorem ok_Mo_smalls : xa_okT xa_ms m_Mo_smalls = true := by decide +kernel
set_option maxRecDepth 1000000 in
theorem ok_Mo_make : xa_okT xa_ms m_Mo_make = true := by decide +kernel
set_option maxRecDepth 1000000 in
theorem ok_Mo_isClash : xa_okT xa_ms m_Mo_isClash = true := by decide +kernel
set_option maxRecDepth 1000000 in
theorem ok_Mo_clash : xa_okT xa_ms m_Mo_clash = true := by decide +kernel
set_option maxRecDepth 1000000 in
theorem ok_Mo_join : xa_okT xa_ms m_Mo_join = true := by decide +kernel
set_option maxRecDepth 1000000 in
theorem ok_Mo_goingTo : xa_okT xa_ms m_Mo_goingTo = true := by decide +kernel
set_option maxRecDepth 1000000 in
theorem ok_Mo_values : xa_okT xa_ms m_Mo_values = true := by decide +kernel
set_option maxRecDepth 1000000 in
theorem ok_Mo_value : xa_okT xa_ms m_Mo_value = true := by decide +kernel
set_option maxRecDepth 1000000 in
theorem ok_Mo_how : xa_okT xa_ms m_Mo_how = true := by decide +kernel
set_option maxRecDepth 1000000 in
theorem ok_Mo_begin : xa_okT xa_ms m_Mo_begin = true := by decide +kernel
set_option maxRecDepth 1000000 in
theorem ok_Mo_onward : xa_okT xa_ms m_Mo_onward = true := by decide +kernel
set_option maxRecDepth 1000000 in
theorem ok_Mo_ones : xa_okT xa_ms m_Mo_ones = true := by decide +kernel
set_option maxRecDepth 1000000 in
theorem ok_Mo_go : xa_okT xa_ms m_Mo_go = true := by decide +kernel
set_option maxRecDepth 1000000 in
theorem ok_Mo_isSure : xa_okT xa_ms m_Mo_isSure = true := by decide +kernel
set_option maxRecDepth 1000000 in
theorem ok_Mo_walk : xa_okT xa_ms m_Mo_walk = true := by decide +kernel
set_option maxRecDepth 1000000 in
theorem ok_Mo_count : xa_okT xa_ms m_Mo_count = true := by decide +kernel
set_option maxRecDepth 1000000 in
theorem ok_Int_bitCount : xa_okT xa_ms m_Int_bitCount = true := by decide +kernel
set_option maxRecDepth 1000000 in
theorem ok_Str_length : xa_okT xa_ms m_Str_length = true := by decide +kernel
set_option maxRecDepth 1000000 in
theorem ok_Str_charAt : xa_okT xa_ms m_Str_charAt = true := by decide +kernel
set_option maxRecDepth 1000000 in
theorem ok_Str_indexOf : xa_okT xa_ms m_Str_indexOf = true := by decide +kernel
set_option maxRecDepth 1000000 in
theorem ok_Str_indexOf2 : xa_okT xa_ms m_Str_indexOf2 = true := by decide +kernel
set_option maxRecDepth 1000000 in
theorem ok_Str_coder : xa_okT xa_ms m_Str_coder = true := by decide +kernel
set_option maxRecDepth 1000000 in
theorem ok_Str_isLatin1 : xa_okT xa_ms m_Str_isLatin1 = true := by decide +kernel
set_option maxRecDepth 1000000 in
theorem ok_Str_checkIndex : xa_okT xa_ms m_Str_checkIndex = true := by decide +kernel
set_option maxRecDepth 1000000 in
theorem ok_Lat_charAt : xa_okT xa_ms m_Lat_charAt = true := by decide +kernel
set_option maxRecDepth 1000000 in
theorem ok_Lat_canEncode : xa_okT xa_ms m_Lat_canEncode = true := by decide +kernel
set_option maxRecDepth 1000000 in
theorem ok_Lat_indexOf : xa_okT xa_ms m_Lat_indexOf = true := by decide +kernel
set_option maxRecDepth 1000000 in
theorem ok_Lat_indexOfChar : xa_okT xa_ms m_Lat_indexOfChar = true := by decide +kernel
set_option maxRecDepth 1000000 in
theorem ok_Arr_fill : xa_okT xa_ms m_Arr_fill = true := by decide +kernel
set_option maxRecDepth 1000000 in
theorem ok_Pre_checkIndex : xa_okT xa_ms m_Pre_checkIndex = true := by decide +kernel
end
section
set_option maxRecDepth 100000 in
theorem xa_oks : ∀ M ∈ xa_ms, xa_okT xa_ms M = true := List.forall_mem_cons.mpr ⟨ok_Joiner_init, List.forall_mem_cons.mpr ⟨ok_Joiner_combine, List.forall_mem_cons.mpr ⟨ok_Joiner_dropClashes, List.forall_mem_cons.mpr ⟨ok_Joiner_dropSome, List.forall_mem_cons.mpr ⟨ok_Joiner_clashes, List.forall_mem_cons.mpr ⟨ok_Joiner_spread, List.forall_mem_cons.mpr ⟨ok_Joiner_arrowOf, List.forall_mem_cons.mpr ⟨ok_Joiner_numberOf, List.forall_mem_cons.mpr ⟨ok_Pairs_init, List.forall_mem_cons.mpr ⟨ok_Pairs_fill, List.forall_mem_cons.mpr ⟨ok_Pairs_has, List.forall_mem_cons.mpr ⟨ok_Pairs_drop, List.forall_mem_cons.mpr ⟨ok_Pairs_leftLacks, List.forall_mem_cons.mpr ⟨ok_Pairs_rightLacks, List.forall_mem_cons.mpr ⟨ok_Pairs_lacks, List.forall_mem_cons.mpr ⟨ok_Pairs_isPair, List.forall_mem_cons.mpr ⟨ok_Plan_init, List.forall_mem_cons.mpr ⟨ok_Plan_size, List.forall_mem_cons.mpr ⟨ok_Plan_reset, List.forall_mem_cons.mpr ⟨ok_Plan_resize, List.forall_mem_cons.mpr ⟨ok_Plan_become, List.forall_mem_cons.mpr ⟨ok_Plan_anyFrom, List.forall_mem_cons.mpr ⟨ok_Plan_mustFrom, List.forall_mem_cons.mpr ⟨ok_Plan_at, List.forall_mem_cons.mpr ⟨ok_Plan_lay, List.forall_mem_cons.mpr ⟨ok_Plan_raise, List.forall_mem_cons.mpr ⟨ok_Plan_settle, List.forall_mem_cons.mpr ⟨ok_Plan_musts, List.forall_mem_cons.mpr ⟨ok_Plan_choices, List.forall_mem_cons.mpr ⟨ok_Plan_bitsOf, List.forall_mem_cons.mpr ⟨ok_Plan_isSpot, List.forall_mem_cons.mpr ⟨ok_Reader_init, List.forall_mem_cons.mpr ⟨ok_Reader_readPlan, List.forall_mem_cons.mpr ⟨ok_Reader_readHead, List.forall_mem_cons.mpr ⟨ok_Reader_readItem, List.forall_mem_cons.mpr ⟨ok_Reader_readSaying, List.forall_mem_cons.mpr ⟨ok_Reader_readBoths, List.forall_mem_cons.mpr ⟨ok_Reader_readBoth, List.forall_mem_cons.mpr ⟨ok_Reader_readUnit, List.forall_mem_cons.mpr ⟨ok_Reader_readBit, List.forall_mem_cons.mpr ⟨ok_Reader_readNot, List.forall_mem_cons.mpr ⟨ok_Reader_readArrow, List.forall_mem_cons.mpr ⟨ok_Rounds_init, List.forall_mem_cons.mpr ⟨ok_Rounds_play, List.forall_mem_cons.mpr ⟨ok_Rounds_roundOf, List.forall_mem_cons.mpr ⟨ok_Rounds_areOne, List.forall_mem_cons.mpr ⟨ok_Rounds_whyLetter, List.forall_mem_cons.mpr ⟨ok_Rounds_whySide, List.forall_mem_cons.mpr ⟨ok_Rounds_playOne, List.forall_mem_cons.mpr ⟨ok_Rounds_dropThoseOf, List.forall_mem_cons.mpr ⟨ok_Rounds_hasToGo, List.forall_mem_cons.mpr ⟨ok_Rounds_sideOf, List.forall_mem_cons.mpr ⟨ok_Saying_init, List.forall_mem_cons.mpr ⟨ok_Saying_bits, List.forall_mem_cons.mpr ⟨ok_Saying_reset, List.forall_mem_cons.mpr ⟨ok_Saying_become, List.forall_mem_cons.mpr ⟨ok_Saying_add, List.forall_mem_cons.mpr ⟨ok_Saying_valueOf, List.forall_mem_cons.mpr ⟨ok_Saying_valuesIn, List.forall_mem_cons.mpr ⟨ok_Saying_valuesOf, List.forall_mem_cons.mpr ⟨ok_Saying_overSome, List.forall_mem_cons.mpr ⟨ok_Saying_overEach, List.forall_mem_cons.mpr ⟨ok_Saying_valuesFrom, List.forall_mem_cons.mpr ⟨ok_Saying_someOf, List.forall_mem_cons.mpr ⟨ok_Saying_soOf, List.forall_mem_cons.mpr ⟨ok_Saying_push, List.forall_mem_cons.mpr ⟨ok_Saying_pop, List.forall_mem_cons.mpr ⟨ok_Shrinker_init, List.forall_mem_cons.mpr ⟨ok_Shrinker_shrink, List.forall_mem_cons.mpr ⟨ok_Shrinker_findLeast, List.forall_mem_cons.mpr ⟨ok_Shrinker_reachedIn, List.forall_mem_cons.mpr ⟨ok_Shrinker_nextOf, List.forall_mem_cons.mpr ⟨ok_Shrinker_carryArrows, List.forall_mem_cons.mpr ⟨ok_Shrinker_rankIn, List.forall_mem_cons.mpr ⟨ok_Text_init, List.forall_mem_cons.mpr ⟨ok_Text_size, List.forall_mem_cons.mpr ⟨ok_Text_drain, List.forall_mem_cons.mpr ⟨ok_Text_append, List.forall_mem_cons.mpr ⟨ok_Text_byteAt, List.forall_mem_cons.mpr ⟨ok_Text_spells, List.forall_mem_cons.mpr ⟨ok_Tokens_init, List.forall_mem_cons.mpr ⟨ok_Tokens_split, List.forall_mem_cons.mpr ⟨ok_Tokens_kind, List.forall_mem_cons.mpr ⟨ok_Tokens_place, List.forall_mem_cons.mpr ⟨ok_Tokens_advance, List.forall_mem_cons.mpr ⟨ok_Tokens_take, List.forall_mem_cons.mpr ⟨ok_Tokens_takeWorth, List.forall_mem_cons.mpr ⟨ok_Tokens_cut, List.forall_mem_cons.mpr ⟨ok_Tokens_cutNumber, List.forall_mem_cons.mpr ⟨ok_Tokens_cutWord, List.forall_mem_cons.mpr ⟨ok_Tokens_kindOfWord, List.forall_mem_cons.mpr ⟨ok_Tokens_keep, List.forall_mem_cons.mpr ⟨ok_Tokens_isDigit, List.forall_mem_cons.mpr ⟨ok_Tokens_isWordLetter, List.forall_mem_cons.mpr ⟨ok_Walker_init, List.forall_mem_cons.mpr ⟨ok_Walker_restart, List.forall_mem_cons.mpr ⟨ok_Walker_where, List.forall_mem_cons.mpr ⟨ok_Walker_gone, List.forall_mem_cons.mpr ⟨ok_Walker_step, List.forall_mem_cons.mpr ⟨ok_Walker_mayCome, List.forall_mem_cons.mpr ⟨ok_Walker_mustBeThere, List.forall_mem_cons.mpr ⟨ok_Walker_nextBy, List.forall_mem_cons.mpr ⟨ok_Walker_isInAll, List.forall_mem_cons.mpr ⟨ok_MM_init, List.forall_mem_cons.mpr ⟨ok_MM_type, List.forall_mem_cons.mpr ⟨ok_MM_clear, List.forall_mem_cons.mpr ⟨ok_MM_plan, List.forall_mem_cons.mpr ⟨ok_MM_say, List.forall_mem_cons.mpr ⟨ok_MM_states, List.forall_mem_cons.mpr ⟨ok_MM_arrow, List.forall_mem_cons.mpr ⟨ok_MM_put, List.forall_mem_cons.mpr ⟨ok_MM_stricter, List.forall_mem_cons.mpr ⟨ok_MM_stays, List.forall_mem_cons.mpr ⟨ok_MM_alike, List.forall_mem_cons.mpr ⟨ok_MM_make, List.forall_mem_cons.mpr ⟨ok_MM_join, List.forall_mem_cons.mpr ⟨ok_MM_value, List.forall_mem_cons.mpr ⟨ok_MM_how, List.forall_mem_cons.mpr ⟨ok_MM_begin, List.forall_mem_cons.mpr ⟨ok_MM_go, List.forall_mem_cons.mpr ⟨ok_MM_walk, List.forall_mem_cons.mpr ⟨ok_MM_count, List.forall_mem_cons.mpr ⟨ok_MM_noPlan, List.forall_mem_cons.mpr ⟨ok_MM_noLetter, List.forall_mem_cons.mpr ⟨ok_MM_noState, List.forall_mem_cons.mpr ⟨ok_MM_noArrow, List.forall_mem_cons.mpr ⟨ok_MM_statesOfAll, List.forall_mem_cons.mpr ⟨ok_MM_inSet, List.forall_mem_cons.mpr ⟨ok_Mo_init, List.forall_mem_cons.mpr ⟨ok_Mo_in, List.forall_mem_cons.mpr ⟨ok_Mo_isPlan, List.forall_mem_cons.mpr ⟨ok_Mo_isState, List.forall_mem_cons.mpr ⟨ok_Mo_at, List.forall_mem_cons.mpr ⟨ok_Mo_of, List.forall_mem_cons.mpr ⟨ok_Mo_empties, List.forall_mem_cons.mpr ⟨ok_Mo_copies, List.forall_mem_cons.mpr ⟨ok_Mo_type, List.forall_mem_cons.mpr ⟨ok_Mo_clear, List.forall_mem_cons.mpr ⟨ok_Mo_byteAt, List.forall_mem_cons.mpr ⟨ok_Mo_isWord, List.forall_mem_cons.mpr ⟨ok_Mo_words, List.forall_mem_cons.mpr ⟨ok_Mo_advances, List.forall_mem_cons.mpr ⟨ok_Mo_isWell, List.forall_mem_cons.mpr ⟨ok_Mo_takes, List.forall_mem_cons.mpr ⟨ok_Mo_isSign, List.forall_mem_cons.mpr ⟨ok_Mo_begins, List.forall_mem_cons.mpr ⟨ok_Mo_plan, List.forall_mem_cons.mpr ⟨ok_Mo_puts, List.forall_mem_cons.mpr ⟨ok_Mo_settles, List.forall_mem_cons.mpr ⟨ok_Mo_bracket, List.forall_mem_cons.mpr ⟨ok_Mo_unit, List.forall_mem_cons.mpr ⟨ok_Mo_wantsUnit, List.forall_mem_cons.mpr ⟨ok_Mo_say, List.forall_mem_cons.mpr ⟨ok_Mo_many, List.forall_mem_cons.mpr ⟨ok_Mo_states, List.forall_mem_cons.mpr ⟨ok_Mo_arrow, List.forall_mem_cons.mpr ⟨ok_Mo_put, List.forall_mem_cons.mpr ⟨ok_Mo_isThere, List.forall_mem_cons.mpr ⟨ok_Mo_why, List.forall_mem_cons.mpr ⟨ok_Mo_goes, List.forall_mem_cons.mpr ⟨ok_Mo_stricter, List.forall_mem_cons.mpr ⟨ok_Mo_stays, List.forall_mem_cons.mpr ⟨ok_Mo_alike, List.forall_mem_cons.mpr ⟨ok_Mo_smalls, List.forall_mem_cons.mpr ⟨ok_Mo_make, List.forall_mem_cons.mpr ⟨ok_Mo_isClash, List.forall_mem_cons.mpr ⟨ok_Mo_clash, List.forall_mem_cons.mpr ⟨ok_Mo_join, List.forall_mem_cons.mpr ⟨ok_Mo_goingTo, List.forall_mem_cons.mpr ⟨ok_Mo_values, List.forall_mem_cons.mpr ⟨ok_Mo_value, List.forall_mem_cons.mpr ⟨ok_Mo_how, List.forall_mem_cons.mpr ⟨ok_Mo_begin, List.forall_mem_cons.mpr ⟨ok_Mo_onward, List.forall_mem_cons.mpr ⟨ok_Mo_ones, List.forall_mem_cons.mpr ⟨ok_Mo_go, List.forall_mem_cons.mpr ⟨ok_Mo_isSure, List.forall_mem_cons.mpr ⟨ok_Mo_walk, List.forall_mem_cons.mpr ⟨ok_Mo_count, List.forall_mem_cons.mpr ⟨ok_Int_bitCount, List.forall_mem_cons.mpr ⟨ok_Str_length, List.forall_mem_cons.mpr ⟨ok_Str_charAt, List.forall_mem_cons.mpr ⟨ok_Str_indexOf, List.forall_mem_cons.mpr ⟨ok_Str_indexOf2, List.forall_mem_cons.mpr ⟨ok_Str_coder, List.forall_mem_cons.mpr ⟨ok_Str_isLatin1, List.forall_mem_cons.mpr ⟨ok_Str_checkIndex, List.forall_mem_cons.mpr ⟨ok_Lat_charAt, List.forall_mem_cons.mpr ⟨ok_Lat_canEncode, List.forall_mem_cons.mpr ⟨ok_Lat_indexOf, List.forall_mem_cons.mpr ⟨ok_Lat_indexOfChar, List.forall_mem_cons.mpr ⟨ok_Arr_fill, List.forall_mem_cons.mpr ⟨ok_Pre_checkIndex, fun _ h => absurd h List.not_mem_nil⟩⟩⟩⟩⟩⟩⟩⟩⟩⟩⟩⟩⟩⟩⟩⟩⟩⟩⟩⟩⟩⟩⟩⟩⟩⟩⟩⟩⟩⟩⟩⟩⟩⟩⟩⟩⟩⟩⟩⟩⟩⟩⟩⟩⟩⟩⟩⟩⟩⟩⟩⟩⟩⟩⟩⟩⟩⟩⟩⟩⟩⟩⟩⟩⟩⟩⟩⟩⟩⟩⟩⟩⟩⟩⟩⟩⟩⟩⟩⟩⟩⟩⟩⟩⟩⟩⟩⟩⟩⟩⟩⟩⟩⟩⟩⟩⟩⟩⟩⟩⟩⟩⟩⟩⟩⟩⟩⟩⟩⟩⟩⟩⟩⟩⟩⟩⟩⟩⟩⟩⟩⟩⟩⟩⟩⟩⟩⟩⟩⟩⟩⟩⟩⟩⟩⟩⟩⟩⟩⟩⟩⟩⟩⟩⟩⟩⟩⟩⟩⟩⟩⟩⟩⟩⟩⟩⟩⟩⟩⟩⟩⟩⟩⟩⟩⟩⟩⟩⟩⟩⟩⟩⟩⟩⟩⟩⟩⟩⟩⟩⟩⟩⟩⟩⟩⟩⟩⟩⟩⟩⟩⟩⟩
end
section
/-! ===== runs by rows; the made cells by a fixed layout ===== -/
def ev (d : Nat) (tb : List xa_I) (pc : Nat) (ls st : List Value) (h : xa_H) (q : xa_R) : Prop := ∃ n, xa_ev (xa_rn xa_ms d) tb n (pc, ls, st, h) q
def xa_one (tb : List xa_I) (pc : Nat) (ls st : List Value) (h : xa_H) : xa_O := match xa_lk tb pc with
  | some (i, len, a, cv) => xa_step i len a cv pc ls st h
  | none => none
section EV
variable {d : Nat} {tb : List xa_I} {pc : Nat} {ls st : List Value} {h : xa_H} {q : xa_R}
theorem ev_nx {pc' : Nat} {ls' st' : List Value} {h' : xa_H} (h1 : xa_one tb pc ls st h = some (.inl (pc', ls', st', h'))) (k : ev d tb pc' ls' st' h' q) : ev d tb pc ls st h q := by
  obtain ⟨n, k⟩ := k
  refine ⟨n + 1, ?_⟩
  unfold xa_one at h1
  unfold xa_ev
  split at h1
  · rename_i i len a cv hl
    rw [hl]
    dsimp only
    rw [h1]
    exact k
  · cases h1
/-- one more, but not at these places -/
theorem ev_ns (stop : List Nat) {pc' : Nat} {ls' st' : List Value} {h' : xa_H} (_ : stop.any (Nat.beq pc) = false) (h1 : xa_one tb pc ls st h = some (.inl (pc', ls', st', h'))) (k : ev d tb pc' ls' st' h' q) : ev d tb pc ls st h q := ev_nx h1 k
theorem ev_ca {mi : Nat} {as : List Value} {pc' : Nat} {ls' st' : List Value} {r : Option Value} {h' : xa_H} (h1 : xa_one tb pc ls st h = some (.inr (.inr (mi, as, (pc', ls', st'))))) (hc : xa_rn xa_ms d mi as h r h') (k : ev d tb pc' ls' (r.toList ++ st') h' q) : ev d tb pc ls st h q := by
  obtain ⟨n, k⟩ := k
  refine ⟨n + 1, ?_⟩
  unfold xa_one at h1
  unfold xa_ev
  split at h1
  · rename_i i len a cv hl
    rw [hl]
    dsimp only
    rw [h1]
    exact ⟨r, h', hc, k⟩
  · cases h1
theorem ev_re {i : Jvm.ClassFile.Instr} {len : Nat} {a : List Nat} {cv : Int32} {r : xa_R} (hi : xa_lk tb pc = some (i, len, a, cv)) (h1 : xa_step i len a cv pc ls st h = some (.inr (.inl r))) (hf : xa_fine i a r.1) : ev d tb pc ls st h r := by
  refine ⟨1, ?_⟩
  unfold xa_ev
  rw [hi]
  dsimp only
  rw [h1]
  exact ⟨hf, rfl⟩
/-- an int is answered -/
theorem ev_ri {len : Nat} {l : List Nat} {cv v w : Int32} (hi : xa_lk tb pc = some (.ireturn, len, 0 :: l, cv)) (he : v = w) : ev d tb pc ls [.int v] h (some (.int w), h) := by
  subst he
  exact ev_re hi rfl trivial
/-- a boolean is answered -/
theorem ev_rz {len : Nat} {l : List Nat} {cv v w : Int32} (hi : xa_lk tb pc = some (.ireturn, len, 1 :: l, cv)) (he : v = w) (hv : w = 0 ∨ w = 1) : ev d tb pc ls [.int v] h (some (.int w), h) := by
  subst he
  exact ev_re hi rfl hv
theorem ev_rv {len : Nat} {a : List Nat} {cv : Int32} (hi : xa_lk tb pc = some (.return_, len, a, cv)) : ev d tb pc ls [] h (none, h) := ev_re hi rfl trivial
def xa_cp (c : Jvm.ClassFile.Cond) (x y : Int32) : Prop := match c with
  | .eq => x = y
  | .ne => ¬ x = y
  | .lt => x < y
  | .ge => y ≤ x
  | .gt => y < x
  | .le => x ≤ y
theorem xa_cp_iff {c : Jvm.ClassFile.Cond} {x y : Int32} : xa_cmp c x y = true ↔ xa_cp c x y := by
  cases c <;> simp [xa_cmp, xa_cp]
theorem ev_if {c : Jvm.ClassFile.Cond} {x y : Int32} {t f : Nat} (h1 : xa_cp c x y → ev d tb t ls st h q) (h2 : ¬ xa_cp c x y → ev d tb f ls st h q) : ev d tb (if xa_cmp c x y = true then t else f) ls st h q := by
  by_cases hc : xa_cmp c x y = true
  · rw [if_pos hc]; exact h1 (xa_cp_iff.mp hc)
  · rw [if_neg hc]; exact h2 (fun z => hc (xa_cp_iff.mpr z))
theorem ev_it {c : Jvm.ClassFile.Cond} {x y : Int32} {t f : Nat} (hc : xa_cp c x y) (h1 : ev d tb t ls st h q) : ev d tb (if xa_cmp c x y = true then t else f) ls st h q := by
  rw [if_pos (xa_cp_iff.mpr hc)]; exact h1
theorem ev_ie {c : Jvm.ClassFile.Cond} {x y : Int32} {t f : Nat} (hc : ¬ xa_cp c x y) (h1 : ev d tb f ls st h q) : ev d tb (if xa_cmp c x y = true then t else f) ls st h q := by
  rw [if_neg (fun z => hc (xa_cp_iff.mp z))]; exact h1
end EV
theorem rn_in {d mi : Nat} {as : List Value} {h : xa_H} {r : Option Value} {h' : xa_H} (M : xa_M) (hM : xa_ms[mi]? = some M) (hl : (xa_en as M.2.2.1).length = M.2.2.1 ∧ as.all xa_kn = true) (k : ev d M.2.2.2.2 0 (xa_en as M.2.2.1) [] h (r, h')) : xa_rn xa_ms (d + 1) mi as h r h' := by
  obtain ⟨n, k⟩ := k
  exact ⟨M, n, hM, hl, k⟩
/-- a made cell: an int array of a length; or an object: its class, its fields (an int by its number, or a reference) -/
abbrev lo_E : Type := Nat ⊕ (Nat × List (Nat ⊕ Nat))
def lo_v (f : Nat → Int32) (x : Nat ⊕ Nat) : Value := match x with
  | .inl k => .int (f k)
  | .inr a => .ref a
def lo_cell (F A : Nat → Nat → Int32) (o : Nat) (e : lo_E) : xa_C := match e with
  | .inl n => .inl (0, n, A o)
  | .inr (ci, sp) => .inr (ci, sp.map (lo_v (F o)))
def lo_mk (F A : Nat → Nat → Int32) : Nat → List lo_E → xa_H
  | _, [] => []
  | o, e :: es => lo_cell F A o e :: lo_mk F A (o + 1) es
theorem lo_mk_get {F A : Nat → Nat → Int32} : ∀ (es : List lo_E) (o j : Nat), (lo_mk F A o es)[j]? = (es[j]?).map (lo_cell F A (o + j)) := by
  intro es
  induction es with
  | nil => intro o j; simp [lo_mk]
  | cons e es ih =>
    intro o j
    cases j with
    | zero => simp [lo_mk]
    | succ j =>
      simp only [lo_mk, List.getElem?_cons_succ]
      rw [ih, show o + 1 + j = o + (j + 1) by omega]
theorem lo_mk_len {F A : Nat → Nat → Int32} : ∀ (es : List lo_E) (o : Nat), (lo_mk F A o es).length = es.length := by
  intro es
  induction es with
  | nil => intro o; rfl
  | cons e es ih => intro o; simp [lo_mk, ih]
/-- the bytes of the String constants -/
def lo_by (k : Nat) : Nat → Int32 := fun j => match k with
  | 0 => ([115, 116, 97, 116, 101, 115] : List Int32).getD j 0
  | 1 => ([109, 97, 121] : List Int32).getD j 0
  | 2 => ([109, 117, 115, 116] : List Int32).getD j 0
  | _ => ([59, 124, 38, 33, 40, 41, 60, 62, 91, 93] : List Int32).getD j 0
def lo_old (Y : Nat × (Nat → Int32)) : xa_H := [.inl (2, Y.1, Y.2), .inr (60, [.ref 5, .int 0]), .inr (60, [.ref 6, .int 0]), .inr (60, [.ref 7, .int 0]), .inr (60, [.ref 8, .int 0]), .inl (1, 6, lo_by 0), .inl (1, 3, lo_by 1), .inl (1, 4, lo_by 2), .inl (1, 10, lo_by 3)]
def lo_plan (o : Nat) : List lo_E := [.inr (2, [.inl 0, .inr (o + 1), .inr (o + 2)]), .inl 18, .inl 18]
def lo_lay : List lo_E := [
  .inr (10, [.inr 10, .inr 29, .inr 32, .inr 34, .inr 39, .inr 42, .inr 45, .inr 50, .inr 52, .inr 58]),
  .inr (50, [.inr 11, .inr 14, .inr 17, .inr 20, .inr 23, .inr 26]),
  .inr (2, [.inl 0, .inr 12, .inr 13]), .inl 18, .inl 18,
  .inr (2, [.inl 0, .inr 15, .inr 16]), .inl 18, .inl 18,
  .inr (2, [.inl 0, .inr 18, .inr 19]), .inl 18, .inl 18,
  .inr (2, [.inl 0, .inr 21, .inr 22]), .inl 18, .inl 18,
  .inr (2, [.inl 0, .inr 24, .inr 25]), .inl 18, .inl 18,
  .inr (2, [.inl 0, .inr 27, .inr 28]), .inl 18, .inl 18,
  .inr (2, [.inl 0, .inr 30, .inr 31]), .inl 18, .inl 18,
  .inr (7, [.inr 33, .inl 1]), .inl 300,
  .inr (3, [.inr 35]),
  .inr (8, [.inr 36, .inr 37, .inr 38, .inl 3, .inl 4]), .inl 301, .inl 301, .inl 301,
  .inr (5, [.inr 40, .inl 1, .inl 2, .inr 41, .inl 4]), .inl 300, .inl 24,
  .inr (5, [.inr 43, .inl 1, .inl 2, .inr 44, .inl 4]), .inl 300, .inl 24,
  .inr (4, [.inr 46, .inr 49, .inl 2, .inl 3]), .inr (1, [.inr 47, .inr 48]), .inl 6, .inl 6, .inl 36,
  .inr (6, [.inr 51]), .inl 6,
  .inr (0, [.inr 53, .inr 56, .inr 57, .inl 3]), .inr (1, [.inr 54, .inr 55]), .inl 6, .inl 6, .inl 36, .inl 6,
  .inr (9, [.inr 59, .inl 1, .inl 2]), .inr (2, [.inl 0, .inr 60, .inr 61]), .inl 18, .inl 18,
  .inr (11, [.inl 0, .inr 63, .inr 64, .inr 65, .inl 4, .inl 5, .inl 6, .inl 7, .inl 8, .inl 9, .inr 66, .inr 67, .inl 12, .inl 13, .inl 14, .inl 15, .inr 68, .inl 17, .inl 18, .inr 69, .inr 70, .inr 71, .inr 72, .inl 23, .inl 24]),
  .inl 864, .inl 8, .inl 300, .inl 320, .inl 320, .inl 64, .inl 180, .inl 36, .inl 36, .inl 36]
def lo_at (o : Nat) : Option lo_E := match o with
  | 0 | 1 | 2 | 3 | 4 | 5 | 6 | 7 | 8 => none
  | k + 9 => lo_lay[k]?
/-- the heap: the old cells, the made ones with their ints -/
def hp (Y : Nat × (Nat → Int32)) (F A : Nat → Nat → Int32) : xa_H := lo_old Y ++ lo_mk F A 9 lo_lay
theorem lo_at_ge {o : Nat} {e : lo_E} (h : lo_at o = some e) : ∃ k, o = k + 9 ∧ lo_lay[k]? = some e := by
  match o, h with
  | 0, h => cases h
  | 1, h => cases h
  | 2, h => cases h
  | 3, h => cases h
  | 4, h => cases h
  | 5, h => cases h
  | 6, h => cases h
  | 7, h => cases h
  | 8, h => cases h
  | k + 9, h => exact ⟨k, rfl, h⟩
section HP
variable {Y : Nat × (Nat → Int32)} {F A : Nat → Nat → Int32} {o : Nat}
theorem hp_get {e : lo_E} (h : lo_at o = some e) : (hp Y F A)[o]? = some (lo_cell F A o e) := by
  obtain ⟨k, rfl, hk⟩ := lo_at_ge h
  unfold hp
  rw [List.getElem?_append_right (show (lo_old Y).length ≤ k + 9 from Nat.le_add_left 9 k), show k + 9 - (lo_old Y).length = k from rfl, lo_mk_get, hk, Nat.add_comm 9 k]
  rfl
theorem hp_lo {F' A' : Nat → Nat → Int32} {k : Nat} (h : k < 9) : (hp Y F A)[k]? = (hp Y F' A')[k]? := by
  unfold hp
  rw [List.getElem?_append_left (show k < (lo_old Y).length from h), List.getElem?_append_left (show k < (lo_old Y).length from h)]
theorem hp_len : (hp Y F A).length = 73 := by
  unfold hp
  rw [List.length_append, lo_mk_len]
  rfl
theorem hp_ext {F' A' : Nat → Nat → Int32} {c : xa_C} (ho : 9 ≤ o) (hlt : o < 73) (hc : ∀ e, lo_at o = some e → c = lo_cell F' A' o e) (hk : ∀ j e, j ≠ o → lo_at j = some e → lo_cell F A j e = lo_cell F' A' j e) : (hp Y F A).set o c = hp Y F' A' := by
  apply List.ext_getElem?
  intro j
  by_cases hj : j = o
  · subst hj
    rw [List.getElem?_set_self (by rw [hp_len]; exact hlt)]
    obtain ⟨k, rfl⟩ : ∃ k, j = k + 9 := ⟨j - 9, by omega⟩
    have hk : k < lo_lay.length := by show k < 64; omega
    have h1 : lo_at (k + 9) = some lo_lay[k] := List.getElem?_eq_getElem hk
    rw [hp_get h1, hc _ h1]
  · rw [List.getElem?_set_ne (fun e => hj e.symm)]
    by_cases hj9 : j < 9
    · exact hp_lo hj9
    · obtain ⟨k, rfl⟩ : ∃ k, j = k + 9 := ⟨j - 9, by omega⟩
      cases hl : lo_lay[k]? with
      | none =>
        have : 64 ≤ k := by simpa [lo_lay] using hl
        rw [List.getElem?_eq_none (by rw [hp_len]; omega), List.getElem?_eq_none (by rw [hp_len]; omega)]
      | some e =>
        have h1 : lo_at (k + 9) = some e := hl
        rw [hp_get h1, hp_get h1, hk _ _ hj h1]
theorem lo_at_lt {e : lo_E} (h : lo_at o = some e) : 9 ≤ o ∧ o < 73 := by
  obtain ⟨k, rfl, hk⟩ := lo_at_ge h
  have : k < 64 := (List.getElem?_eq_some_iff.mp hk).1
  omega
theorem hp_setA {n : Nat} {g : Nat → Int32} (h : lo_at o = some (.inl n)) : (hp Y F A).set o (.inl (0, n, g)) = hp Y F (va_up A o g) := by
  refine hp_ext (lo_at_lt h).1 (lo_at_lt h).2 (fun e he => ?_) (fun j e hj he => ?_)
  · cases h.symm.trans he
    simp [lo_cell, va_up]
  · unfold lo_cell
    split
    · simp [va_up, hj]
    · rfl
/-- a field becomes a number -/
def uF (F : Nat → Nat → Int32) (o k : Nat) (v : Int32) : Nat → Nat → Int32 := va_up F o (upd (F o) k v)
theorem hp_setF {ci k : Nat} {sp : List (Nat ⊕ Nat)} {v : Int32} (h : lo_at o = some (.inr (ci, sp))) (hk : sp[k]? = some (.inl k)) (hu : ∀ j x, sp[j]? = some x → x = .inl k → j = k) : (hp Y F A).set o (.inr (ci, (sp.map (lo_v (F o))).set k (.int v))) = hp Y (uF F o k v) A := by
  refine hp_ext (lo_at_lt h).1 (lo_at_lt h).2 (fun e he => ?_) (fun j e hj he => ?_)
  · cases h.symm.trans he
    simp only [lo_cell]
    congr 2
    apply List.ext_getElem?
    intro j
    by_cases hj : j = k
    · subst hj
      have hlt : j < sp.length := (List.getElem?_eq_some_iff.mp hk).1
      rw [List.getElem?_set_self (by simpa using hlt), List.getElem?_map, hk]
      simp [lo_v, uF, va_up, upd]
    · rw [List.getElem?_set_ne (fun e => hj e.symm), List.getElem?_map, List.getElem?_map]
      cases hs : sp[j]? with
      | none => rfl
      | some x =>
        simp only [Option.map_some]
        congr 1
        unfold lo_v
        split
        · rename_i k'
          have hkk : k' ≠ k := fun e => hj (hu j _ hs (by rw [e]))
          simp [uF, va_up, upd, hkk]
        · rfl
  · unfold lo_cell
    split
    · rfl
    · simp [uF, va_up, hj]
end HP
section EW
variable {d : Nat} {tb : List xa_I} {pc : Nat} {ls r : List Value} {q : xa_R} {Y : Nat × (Nat → Int32)} {F A : Nat → Nat → Int32} {o : Nat}
theorem ev_gf {idx len ci k : Nat} {l : List Nat} {cv : Int32} {sp : List (Nat ⊕ Nat)} {x : Nat ⊕ Nat} (hi : xa_lk tb pc = some (.getfield idx, len, ci :: k :: l, cv)) (ho : lo_at o = some (.inr (ci, sp))) (hx : sp[k]? = some x) (kk : ev d tb (pc + len) ls (lo_v (F o) x :: r) (hp Y F A) q) : ev d tb pc ls (.ref o :: r) (hp Y F A) q := by
  refine ev_nx (?_ : xa_one tb pc ls (.ref o :: r) (hp Y F A) = some (.inl (pc + len, ls, lo_v (F o) x :: r, hp Y F A))) kk
  unfold xa_one
  rw [hi]
  show xa_getf (pc + len) ci k ls (.ref o :: r) (hp Y F A) = _
  unfold xa_getf
  simp only [hp_get ho, lo_cell]
  rw [if_pos trivial, List.getElem?_map, hx]
  rfl
/-- an int field is read -/
theorem ev_gi {idx len ci k j : Nat} {l : List Nat} {cv : Int32} {sp : List (Nat ⊕ Nat)} (hi : xa_lk tb pc = some (.getfield idx, len, ci :: k :: l, cv)) (ho : lo_at o = some (.inr (ci, sp))) (hx : sp[k]? = some (.inl j)) (kk : ev d tb (pc + len) ls (.int (F o j) :: r) (hp Y F A) q) : ev d tb pc ls (.ref o :: r) (hp Y F A) q := ev_gf hi ho hx kk
/-- a reference is read -/
theorem ev_gr {idx len ci k j : Nat} {l : List Nat} {cv : Int32} {sp : List (Nat ⊕ Nat)} (hi : xa_lk tb pc = some (.getfield idx, len, ci :: k :: l, cv)) (ho : lo_at o = some (.inr (ci, sp))) (hx : sp[k]? = some (.inr j)) (kk : ev d tb (pc + len) ls (.ref j :: r) (hp Y F A) q) : ev d tb pc ls (.ref o :: r) (hp Y F A) q := ev_gf hi ho hx kk
theorem ev_pf {idx len ci k : Nat} {l : List Nat} {cv v : Int32} {sp : List (Nat ⊕ Nat)} (hi : xa_lk tb pc = some (.putfield idx, len, ci :: k :: 0 :: l, cv)) (ho : lo_at o = some (.inr (ci, sp))) (hx : sp[k]? = some (.inl k) ∧ (List.range sp.length).all (fun j => !(decide (sp[j]? = some (.inl k))) || Nat.beq j k) = true) (kk : ev d tb (pc + len) ls r (hp Y (uF F o k v) A) q) : ev d tb pc ls (.int v :: .ref o :: r) (hp Y F A) q := by
  have hu : ∀ j x, sp[j]? = some x → x = .inl k → j = k := by
    intro j x hj e
    subst e
    have h2 := List.all_eq_true.mp hx.2 j (List.mem_range.mpr (List.getElem?_eq_some_iff.mp hj).1)
    rw [hj] at h2
    simp at h2
    exact h2
  refine ev_nx (?_ : xa_one tb pc ls (.int v :: .ref o :: r) (hp Y F A) = some (.inl (pc + len, ls, r, hp Y (uF F o k v) A))) kk
  unfold xa_one
  rw [hi]
  show xa_putf (pc + len) ci k 0 ls (.int v :: .ref o :: r) (hp Y F A) = _
  unfold xa_putf
  simp only [hp_get ho, lo_cell]
  rw [if_pos ⟨trivial, by rw [List.length_map]; exact (List.getElem?_eq_some_iff.mp hx.1).1, rfl⟩, hp_setF ho hx.1 hu]
  rfl
theorem ev_al {len n : Nat} {l : List Nat} {cv i : Int32} (hi : xa_lk tb pc = some (.iaload, len, l, cv)) (ho : lo_at o = some (.inl n)) (hin : ¬ (i < 0 ∨ n ≤ i.toNatClampNeg)) (kk : ev d tb (pc + len) ls (.int (A o i.toNatClampNeg) :: r) (hp Y F A) q) : ev d tb pc ls (.int i :: .ref o :: r) (hp Y F A) q := by
  refine ev_nx (?_ : xa_one tb pc ls (.int i :: .ref o :: r) (hp Y F A) = some (.inl (pc + len, ls, .int (A o i.toNatClampNeg) :: r, hp Y F A))) kk
  unfold xa_one
  rw [hi]
  show xa_iald (pc + len) ls (.int i :: .ref o :: r) (hp Y F A) = _
  unfold xa_iald
  simp only [hp_get ho, lo_cell]
  rw [if_pos ⟨Or.inl trivial, hin⟩]
  rfl
/-- by a number -/
theorem ev_an {len n j : Nat} {l : List Nat} {cv i : Int32} (hi : xa_lk tb pc = some (.iaload, len, l, cv)) (ho : lo_at o = some (.inl n)) (hj : i = nI j) (hlt : j < n) (hn : Nat.blt n 100000 = true) (kk : ev d tb (pc + len) ls (.int (A o j) :: r) (hp Y F A) q) : ev d tb pc ls (.int i :: .ref o :: r) (hp Y F A) q := by
  have hn' : n < 100000 := Nat.le_of_ble_eq_true hn
  have hc : i.toNatClampNeg = j := by rw [hj]; exact nI_clamp (by omega)
  refine ev_al hi ho (by rw [hj]; exact nI_in hlt (by omega)) ?_
  rw [hc]
  exact kk
theorem ev_as {len n : Nat} {l : List Nat} {cv i x : Int32} (hi : xa_lk tb pc = some (.iastore, len, l, cv)) (ho : lo_at o = some (.inl n)) (hin : ¬ (i < 0 ∨ n ≤ i.toNatClampNeg)) (kk : ev d tb (pc + len) ls r (hp Y F (va_up A o (upd (A o) i.toNatClampNeg x))) q) : ev d tb pc ls (.int x :: .int i :: .ref o :: r) (hp Y F A) q := by
  refine ev_nx (?_ : xa_one tb pc ls (.int x :: .int i :: .ref o :: r) (hp Y F A) = some (.inl (pc + len, ls, r, hp Y F (va_up A o (upd (A o) i.toNatClampNeg x))))) kk
  unfold xa_one
  rw [hi]
  show xa_iast (pc + len) ls (.int x :: .int i :: .ref o :: r) (hp Y F A) = _
  unfold xa_iast
  simp only [hp_get ho, lo_cell]
  rw [if_pos ⟨trivial, hin⟩, hp_setA ho]
  rfl
theorem ev_am {len n j : Nat} {l : List Nat} {cv i x : Int32} (hi : xa_lk tb pc = some (.iastore, len, l, cv)) (ho : lo_at o = some (.inl n)) (hj : i = nI j) (hlt : j < n) (hn : Nat.blt n 100000 = true) (kk : ev d tb (pc + len) ls r (hp Y F (va_up A o (upd (A o) j x))) q) : ev d tb pc ls (.int x :: .int i :: .ref o :: r) (hp Y F A) q := by
  have hn' : n < 100000 := Nat.le_of_ble_eq_true hn
  have hc : i.toNatClampNeg = j := by rw [hj]; exact nI_clamp (by omega)
  refine ev_as hi ho (by rw [hj]; exact nI_in hlt (by omega)) ?_
  rw [hc]
  exact kk
theorem ev_ln {len n : Nat} {l : List Nat} {cv : Int32} (hi : xa_lk tb pc = some (.arraylength, len, l, cv)) (ho : lo_at o = some (.inl n)) (kk : ev d tb (pc + len) ls (.int (nI n) :: r) (hp Y F A) q) : ev d tb pc ls (.ref o :: r) (hp Y F A) q := by
  refine ev_nx (?_ : xa_one tb pc ls (.ref o :: r) (hp Y F A) = some (.inl (pc + len, ls, .int (nI n) :: r, hp Y F A))) kk
  unfold xa_one
  rw [hi]
  show xa_alen (pc + len) ls (.ref o :: r) (hp Y F A) = _
  unfold xa_alen
  simp only [hp_get ho, lo_cell]
  rfl
/-- a call of an object's method -/
theorem ev_vc {idx len z mi n ci : Nat} {l : List Nat} {cv : Int32} {sp : List (Nat ⊕ Nat)} {st : List Value} {rv : Option Value} {h' : xa_H} (hi : xa_lk tb pc = some (.invokevirtual idx, len, z :: mi :: n :: ci :: l, cv)) (hr : st[n]? = some (.ref o)) (ho : lo_at o = some (.inr (ci, sp))) (hm : xa_room (st.drop (n + 1)) = true) (hc : xa_rn xa_ms d mi (st.take (n + 1)).reverse (hp Y F A) rv h') (kk : ev d tb (pc + len) ls (rv.toList ++ st.drop (n + 1)) h' q) : ev d tb pc ls st (hp Y F A) q := by
  refine ev_ca (?_ : xa_one tb pc ls st (hp Y F A) = some (.inr (.inr (mi, (st.take (n + 1)).reverse, (pc + len, ls, st.drop (n + 1)))))) hc kk
  unfold xa_one
  rw [hi]
  show xa_vcall (pc + len) mi n ci ls st (hp Y F A) = _
  unfold xa_vcall
  simp only [hr, hp_get ho, lo_cell]
  rw [if_pos trivial]
  unfold xa_call
  rw [if_pos ⟨Nat.ble_eq_true_of_le (List.getElem?_eq_some_iff.mp hr).1, hm⟩]
end EW
end
section
/-! ===== the law's table ===== -/
def lawf (w : xa_I) : Bool := (match w.2.1 with
  | .nop => true
  | _ => false) || xa_okI xa_ms x code ret w
set_option maxRecDepth 1000000 in
theorem ok_Law0 : ((t_Law_law.drop 0).take 30).all lawf = true := by decide +kernel
set_option maxRecDepth 1000000 in
theorem ok_Law1 : ((t_Law_law.drop 30).take 30).all lawf = true := by decide +kernel
set_option maxRecDepth 1000000 in
theorem ok_Law2 : ((t_Law_law.drop 60).take 30).all lawf = true := by decide +kernel
set_option maxRecDepth 1000000 in
theorem ok_Law3 : ((t_Law_law.drop 90).take 30).all lawf = true := by decide +kernel
set_option maxRecDepth 1000000 in
theorem ok_Law4 : ((t_Law_law.drop 120).take 30).all lawf = true := by decide +kernel
set_option maxRecDepth 1000000 in
theorem ok_Law5 : ((t_Law_law.drop 150).take 30).all lawf = true := by decide +kernel
set_option maxRecDepth 1000000 in
theorem ok_Law6 : ((t_Law_law.drop 180).take 30).all lawf = true := by decide +kernel
set_option maxRecDepth 1000000 in
theorem ok_Law7 : ((t_Law_law.drop 210).take 30).all lawf = true := by decide +kernel
set_option maxRecDepth 1000000 in
theorem ok_Law8 : ((t_Law_law.drop 240).take 30).all lawf = true := by decide +kernel
set_option maxRecDepth 1000000 in
theorem ok_Law9 : ((t_Law_law.drop 270).take 30).all lawf = true := by decide +kernel
set_option maxRecDepth 1000000 in
theorem ok_Law10 : ((t_Law_law.drop 300).take 30).all lawf = true := by decide +kernel
set_option maxRecDepth 1000000 in
theorem ok_Law11 : ((t_Law_law.drop 330).take 30).all lawf = true := by decide +kernel
set_option maxRecDepth 1000000 in
theorem ok_Law12 : ((t_Law_law.drop 360).take 30).all lawf = true := by decide +kernel
set_option maxRecDepth 1000000 in
theorem ok_Law13 : ((t_Law_law.drop 390).take 30).all lawf = true := by decide +kernel
set_option maxRecDepth 1000000 in
theorem ok_Law14 : ((t_Law_law.drop 420).take 30).all lawf = true := by decide +kernel
set_option maxRecDepth 1000000 in
theorem ok_Law15 : ((t_Law_law.drop 450).take 30).all lawf = true := by decide +kernel
set_option maxRecDepth 1000000 in
theorem ok_Law16 : ((t_Law_law.drop 480).take 30).all lawf = true := by decide +kernel
set_option maxRecDepth 1000000 in
theorem ok_Law17 : ((t_Law_law.drop 510).take 30).all lawf = true := by decide +kernel
set_option maxRecDepth 1000000 in
theorem ok_Law18 : ((t_Law_law.drop 540).take 30).all lawf = true := by decide +kernel
theorem all_ch {α : Type} {f : α → Bool} {l : List α} {c m : Nat} (hc : 0 < c) (hl : l.length ≤ c * m) (h : ∀ j, j < m → ((l.drop (c * j)).take c).all f = true) : l.all f = true := by
  rw [List.all_eq_true]
  intro w hw
  obtain ⟨i, hi, rfl⟩ := List.getElem_of_mem hw
  have hj : i / c < m := by
    rw [Nat.div_lt_iff_lt_mul hc, Nat.mul_comm]
    omega
  refine List.all_eq_true.mp (h (i / c) hj) _ ?_
  refine List.mem_of_getElem? (i := i % c) ?_
  rw [List.getElem?_take_of_lt (Nat.mod_lt i hc), List.getElem?_drop, Nat.div_add_mod, List.getElem?_eq_getElem hi]
theorem ok_Law : t_Law_law.all lawf = true := by
  refine all_ch (c := 30) (m := 19) (by decide) (by decide +kernel) (fun j hj => ?_)
  match j, hj with
  | 0, _ => exact ok_Law0
  | 1, _ => exact ok_Law1
  | 2, _ => exact ok_Law2
  | 3, _ => exact ok_Law3
  | 4, _ => exact ok_Law4
  | 5, _ => exact ok_Law5
  | 6, _ => exact ok_Law6
  | 7, _ => exact ok_Law7
  | 8, _ => exact ok_Law8
  | 9, _ => exact ok_Law9
  | 10, _ => exact ok_Law10
  | 11, _ => exact ok_Law11
  | 12, _ => exact ok_Law12
  | 13, _ => exact ok_Law13
  | 14, _ => exact ok_Law14
  | 15, _ => exact ok_Law15
  | 16, _ => exact ok_Law16
  | 17, _ => exact ok_Law17
  | 18, _ => exact ok_Law18
  | j + 19, hj => omega
end
section
/-! ===== the law: the skeleton's rows ===== -/
-- ===== end of PART A; then your names; then what follows =====
/-! THE CLAIM OUT OF ONE WALK OF THE LAW'S BODY. Your part is whole_start (and what it stands on); all else here is the same for every law, but numbers. -/
def R_law : String := "MayMustLaw"
def lw_P (b : Addr) (xs : List Int32) (args : Array Value) (s : State) : Prop := args = #[.ref b] ∧ s.IntsAt b xs ∧ xs.length ≤ 3072 ∧ (Jvm.Cond.and given_1 narrow_1).before args s = true
def lw_Q (_ : Array Value) (s : State) (o : Outcome) (t : State) : Prop := o = .returned (some (.int 1)) ∧ Framed s o t [] 600000 7302250
def lw_Z (below : List Frame) (a : Array Value) (s : State) : State → Prop := fun t => ∃ o, t.status = .running ∧ Ended t below o ∧ lw_Q a s o t
/-- the law's own end, with 1 on the stack, nothing written that was there before, its room as the claim has it -/
theorem lw_ret {p : Program} {l : Launch} {e : Env} {s : State} {m : MethodId} {below : List Frame} {meth : Method} {c : Code} {b : Nat} (hx : p.tables.exec = Jvm.exec) (hb : c.code = code) (hr : meth.sig.returnType = ret) (hlocks : meth.locks = false) {pc : Nat} {H : Heap} {ls : Array Slot} (hdg : decode code pc = .ok (.ireturn, 1)) : W p l e room_1 s m #[Value.ref b] below meth c H [] 600000 7302250 (lw_Z below #[Value.ref b] s) (F0 m pc ls [.int 1]) := by
  intro T hT X
  obtain ⟨fs, hret, hrun, hended, hW, hframe⟩ := X.leave (v := some (.int 1)) (hlocks := hlocks) (fun h => by rw [hr] at h; cases h)
  have hmeth' : T.vm.method? m = some meth := X.method'
  refine ⟨T.setFrames fs, ?_, .returned (some (.int 1)), hrun, hended, rfl, ⟨_, rfl⟩, hW, hframe⟩
  jvm_step X.here [X.here.top, hx, hb, hdg, hmeth', hr, ret, narrow_b1]
  (try refine ⟨rfl, ?_⟩); (try refine ⟨rfl, ?_⟩)
  first | (intro acts; rw [hret _ acts rfl rfl rfl]) | rw [hret _ _ rfl rfl rfl]
  exact Steps.refl _
/-- what holds at the law's entry: the machine, the code, the tables' words (any of lw_tbl by 'hts w (by decide +kernel)'), the script of L ints xs at the cell b, what the Statement gives of the start (any of its parts by flat_of_before) -/
def lw_At (p : Program) (s : State) (m : MethodId) (meth : Method) (c : Code) (b L : Nat) (xs : Nat → Int32) : Prop :=
  p.tables.exec = Jvm.exec ∧ c.code = code ∧ meth.sig.returnType = ret ∧ c.maxLocals = 4 ∧ s.vm.findClass R_law = some m.cls ∧ (∀ w ∈ lw_tbl, w.before #[Value.ref b] s = true) ∧ va_X b L xs s s.heap ∧ b < s.heap.size ∧ meth.locks = false ∧ (Jvm.Cond.and given_1 narrow_1).before #[Value.ref b] s = true
end
section
/-! ===== the law's start: what the Statement gives, as the small machine has it ===== -/
def st_inst : List Nat := [223, 187, 93, 123, 181, 155, 213, 110, 129, 244, 84, 911]
set_option maxRecDepth 1000000 in
theorem st_inst_ok : (vwCl.zip st_inst).all (fun q => decide (lw_tbl[q.2]? = some (Cond.instantiable q.1.1 q.1.2.2))) = true := by decide +kernel
theorem xa_gw_sub {w : Cond} (h : w ∈ xa_gw) : w ∈ lw_tbl := (List.mem_filter.mp h).1
theorem st_inst_of {ci : Nat} {q : vw_C} (h : vwCl[ci]? = some q) : Cond.instantiable q.1 q.2.2 ∈ lw_tbl := by
  have hlt : ci < 12 := (List.getElem?_eq_some_iff.mp h).1
  obtain ⟨k, hk⟩ : ∃ k, st_inst[ci]? = some k := ⟨_, List.getElem?_eq_getElem (show ci < st_inst.length from hlt)⟩
  have h1 := List.all_eq_true.mp st_inst_ok (q, k) (List.mem_of_getElem? (i := ci) (by rw [List.getElem?_zip_eq_some]; exact ⟨h, hk⟩))
  exact List.mem_of_getElem? (of_decide_eq_true h1)
def st_k (i : Nat) : Nat := match i with
  | 0 => 81
  | 1 => 87
  | 2 => 89
  | _ => 64
def st_tm (i : Nat) : Term := .string "MayMust$Tokens" (st_k i)
def st_len : List Nat := [6, 3, 4, 10]
def st_byt : List (List Int32) := [[115, 116, 97, 116, 101, 115], [109, 97, 121], [109, 117, 115, 116], [59, 124, 38, 33, 40, 41, 60, 62, 91, 93]]
def st_tr (b b0 : Nat) (adK adV : Nat → Nat) (k : Nat) : Nat := match k with
  | 0 => b
  | 1 => adK 0
  | 2 => adK 1
  | 3 => adK 2
  | 4 => adK 3
  | 5 => adV 0
  | 6 => adV 1
  | 7 => adV 2
  | 8 => adV 3
  | k + 9 => b0 + k
theorem st_4 {P : Nat → Prop} (h0 : P 0) (h1 : P 1) (h2 : P 2) (h3 : P 3) : ∀ i, i < 4 → P i := by
  intro i hi
  match i, hi with
  | 0, _ => exact h0
  | 1, _ => exact h1
  | 2, _ => exact h2
  | 3, _ => exact h3
  | k + 4, hi => omega
set_option maxHeartbeats 4000000 in
set_option maxRecDepth 100000 in
theorem whole_of (hpure : ∀ (L : Nat) (xs : Nat → Int32), L ≤ 3072 → ∃ (d : Nat) (h' : xa_H), 64 * (d + 1) ≤ 84000 ∧ d + 1 ≤ 2048 ∧ ev d t_Law_law 0 [.ref 0, .float 0, .float 0, .float 0] [] (lo_old (L, xs)) (some (.int 1), h') ∧ h'.length ≤ 600000 ∧ xa_sl h' ≤ 7302250)
    {p : Program} {e : Env} {s : State} {m : MethodId} {below : List Frame} {meth : Method} {c : Code} (l : Launch) {b L : Nat} {xs : Nat → Int32} (hL : L ≤ 3072) (C0 : lw_At p s m meth c b L xs) : W p l e room_1 s m #[Value.ref b] below meth c s.heap [] 0 0 (lw_Z below #[Value.ref b] s) (entryFrame m ([Value.ref b] : List Value).toArray 4) := by
  obtain ⟨hx, hb, hr, hml, hown, hts, hX, hbl, hlocks, hgv⟩ := C0
  have hA : ∀ a : Nat, a < s.heap.size → ¬ (fun q : Nat => s.heap.size ≤ q) a := fun a h => Nat.not_le.mpr h
  have hg := flat_of_before _ hgv
  -- classes
  have hKn : ∀ k : Nat, ∃ z : ClassId × (Nat → Nat), ∀ q : vw_C, vwCl[k]? = some q → u_Kn s q.1 q.2.1 q.2.2 z.1 z.2 := by
    intro k
    cases hq : vwCl[k]? with
    | none => exact ⟨(0, fun _ => 0), fun q h => by cases h⟩
    | some q =>
      obtain ⟨cC, iS, h⟩ := u_known (C := q.1) (T := q.2.1) (N := q.2.2) (n := q.2.2) hts (fun w hw => xa_gw_sub ((xa_cls hq).1 w hw)) (hts _ (st_inst_of hq))
      exact ⟨(cC, iS), fun q' h' => by cases h'; exact h⟩
  obtain ⟨DD, hDD⟩ := Classical.axiomOfChoice hKn
  obtain ⟨D, hDe⟩ : ∃ D : va_G, D = (fun k => (DD k).1, fun k => (DD k).2) := ⟨_, rfl⟩
  -- arrays
  obtain ⟨cI, kI, compI, i1, i2, i3⟩ := Cond.arrayClass_spec (hts (Cond.arrayClass .int) (List.mem_of_getElem? (i := 108) (by decide +kernel)))
  have hAO : va_AO "MayMust$Plan" s := va_AO.of (hts (Cond.arrayOver (.object "MayMust$Plan")) (List.mem_of_getElem? (i := 92) (by decide +kernel)))
  obtain ⟨compP, cP, kP, p1, p2, p3, p4, p5⟩ := Cond.arrayOver_spec hAO
  have hK : va_K D vwCl [(cI, .int), (cP, .object "MayMust$Plan")] s := by
    refine ⟨fun k q hq => by rw [hDe]; exact hDD k q hq, fun k q hk => ?_⟩
    match k, hk with
    | 0, hk =>
      cases hk
      exact ⟨fun n z => ⟨fun k h => (by cases h), kI, i2, compI, i3⟩, i1⟩
    | 1, hk =>
      cases hk
      exact ⟨fun n z => ⟨fun k h => (by cases h), kP, p3, compP, p4⟩, kP, compP, p3, p4, p1, p5⟩
    | k + 2, hk => simp at hk
  -- Strings
  obtain ⟨adK, adV, hSS, hSe⟩ := vk_Sof (args := #[Value.ref b]) (s := s) (N := 4) (tm := st_tm) (len := st_len) (byt := st_byt) (A := fun q => s.heap.size ≤ q)
    (st_4 (by decide) (by decide) (by decide) (by decide))
    (st_4 (hg _ (by decide +kernel)) (hg _ (by decide +kernel)) (hg _ (by decide +kernel)) (hg _ (by decide +kernel)))
    (st_4 (hg _ (by decide +kernel)) (hg _ (by decide +kernel)) (hg _ (by decide +kernel)) (hg _ (by decide +kernel)))
    (st_4 (hg _ (by decide +kernel)) (hg _ (by decide +kernel)) (hg _ (by decide +kernel)) (hg _ (by decide +kernel)))
    (st_4 (hg _ (by decide +kernel)) (hg _ (by decide +kernel)) (hg _ (by decide +kernel)) (hg _ (by decide +kernel)))
    (fun i hi j hj => hg _ (by
      have key : (List.range 4).all (fun i => (List.range (st_len.getD i 0)).all fun j => decide (Cond.eq (.elem (.field (st_tm i) "java/lang/String" "value" "[B") (.int (Int32.ofNat j))) (.int ((st_byt.getD i []).getD j 0)) ∈ flatC (Jvm.Cond.and given_1 narrow_1))) = true := by decide +kernel
      have k1 := List.all_eq_true.mp key i (List.mem_range.mpr hi)
      exact of_decide_eq_true (List.all_eq_true.mp k1 j (List.mem_range.mpr hj))))
    (fun i j hi hj hij => by
      have key : (List.range 4).all (fun i => (List.range 4).all fun j => decide (i = j) || decide (Cond.not (Cond.eq (st_tm i) (st_tm j)) ∈ flatC (Jvm.Cond.and given_1 narrow_1)) || decide (Cond.not (Cond.eq (st_tm j) (st_tm i)) ∈ flatC (Jvm.Cond.and given_1 narrow_1))) = true := by decide +kernel
      have k1 := List.all_eq_true.mp key i (List.mem_range.mpr hi)
      have k2 := List.all_eq_true.mp k1 j (List.mem_range.mpr hj)
      simp only [Bool.or_eq_true, decide_eq_true_eq] at k2
      rcases k2 with (k2 | k2) | k2
      · exact absurd k2 hij
      · exact Or.inl (hg _ k2)
      · exact Or.inr (hg _ k2))
    hA
  -- statics
  have hZ1 : va_Z "java/lang/String" "COMPACT_STRINGS" "Z" (.int 1) (fun q => s.heap.size ≤ q) s s.heap := va_Zof (hts (Cond.laysStatic "java/lang/String" "COMPACT_STRINGS" "Z") (List.mem_of_getElem? (i := 374) (by decide +kernel))) (hts (Cond.initialized "java/lang/String") (List.mem_of_getElem? (i := 75) (by decide +kernel))) (va_eqi (hg _ (by decide +kernel))) hA
  have hZ2 := va_Zqof (hts (Cond.laysStatic "jdk/internal/util/Preconditions" "SIOOBE_FORMATTER" "Ljava/util/function/BiFunction;") (List.mem_of_getElem? (i := 391) (by decide +kernel))) (hts (Cond.initialized "jdk/internal/util/Preconditions") (List.mem_of_getElem? (i := 77) (by decide +kernel))) (hg _ (by decide +kernel)) hA
  obtain ⟨fmt, hf, hZ2⟩ : ∃ fmt : Value, fmt.category = 1 ∧ va_Z "jdk/internal/util/Preconditions" "SIOOBE_FORMATTER" "Ljava/util/function/BiFunction;" fmt (fun q => s.heap.size ≤ q) s s.heap := by
    rcases hZ2 with h | ⟨t, h⟩
    · exact ⟨.null, rfl, h⟩
    · exact ⟨.ref t, rfl, h⟩
  obtain ⟨tr, htr⟩ : ∃ tr : Nat → Nat, tr = st_tr b s.heap.size adK adV := ⟨_, rfl⟩
  have hT : xa_tr tr s.heap.size := by
    have hkl : ∀ i, i < 4 → adK i < s.heap.size := fun i hi => by
      obtain ⟨cell, h, -⟩ := (hSS.1 i hi).1
      exact (Array.getElem?_eq_some_iff.mp h).1
    have hvl : ∀ i, i < 4 → adV i < s.heap.size := fun i hi => by
      obtain ⟨cell, h, -⟩ := (hSS.1 i hi).2.2.2
      exact (Array.getElem?_eq_some_iff.mp h).1
    subst htr
    refine ⟨fun k hk => ?_, fun k hk => ?_⟩
    · match k, hk with
      | k + 9, _ => show s.heap.size + k = s.heap.size + (k + 9 - 9); omega
    · match k, hk with
      | 0, _ => exact hbl
      | 1, _ => exact hkl 0 (by decide)
      | 2, _ => exact hkl 1 (by decide)
      | 3, _ => exact hkl 2 (by decide)
      | 4, _ => exact hkl 3 (by decide)
      | 5, _ => exact hvl 0 (by decide)
      | 6, _ => exact hvl 1 (by decide)
      | 7, _ => exact hvl 2 (by decide)
      | 8, _ => exact hvl 3 (by decide)
      | k + 9, hk => omega
  have hI : xa_Inv D cI cP tr fmt (fun q => s.heap.size ≤ q) s := by
    refine ⟨hK, fun w hw => ?_, hAO, hZ1, hZ2, fun q hq => ?_⟩
    · obtain ⟨a, i, x, b, rfl⟩ := xa_nest_form hw
      exact va_Nw.of rfl (hts _ (List.mem_filter.mp hw).1)
    · subst htr
      have hq' : q = (st_k 0, "states", 1) ∨ q = (st_k 1, "may", 2) ∨ q = (st_k 2, "must", 3) ∨ q = (st_k 3, ";|&!()<>[]", 4) := by
        simpa [xa_strs, st_k] using hq
      rcases hq' with rfl | rfl | rfl | rfl
      · exact vk_R.of (A := #[Value.ref b]) (hts (Cond.stringRef "MayMust$Tokens" (st_k 0) "states") (List.mem_of_getElem? (i := 360) (by decide +kernel))) (hSe 0 (by decide))
      · exact vk_R.of (A := #[Value.ref b]) (hts (Cond.stringRef "MayMust$Tokens" (st_k 1) "may") (List.mem_of_getElem? (i := 414) (by decide +kernel))) (hSe 1 (by decide))
      · exact vk_R.of (A := #[Value.ref b]) (hts (Cond.stringRef "MayMust$Tokens" (st_k 2) "must") (List.mem_of_getElem? (i := 415) (by decide +kernel))) (hSe 2 (by decide))
      · exact vk_R.of (A := #[Value.ref b]) (hts (Cond.stringRef "MayMust$Tokens" (st_k 3) ";|&!()<>[]") (List.mem_of_getElem? (i := 416) (by decide +kernel))) (hSe 3 (by decide))
  have hscr : va_T .int b L (fun j => .int (xs j)) (fun q => s.heap.size ≤ q) s s.heap := by
    obtain ⟨scr, h1, h2, h3, h4, h5⟩ := hX
    exact ⟨scr, h1, h2, h3, Nat.le_of_eq h4.symm, by rw [h4], h5, hA b hbl⟩
  have hstr : ∀ i j k : Nat, i < 4 → tr j = adK i → tr k = adV i → xa_cell D cI cP tr fmt (fun q => s.heap.size ≤ q) s s.heap j (.inr (60, [.ref k, .int 0])) := by
    intro i j k hi hj hk
    obtain ⟨h1, h2, h3, h4⟩ := hSS.1 i hi
    refine Or.inr (Or.inl ⟨rfl, by rw [hj]; exact h1, fun v hv => ?_, fun v hv => ?_⟩)
    · cases hv
      rw [hj]
      show va_OF _ _ _ (.ref (tr k)) _ _ _ _
      rw [hk]
      exact h3
    · cases hv
      rw [hj]
      exact h2
  have hbyt : ∀ i j n : Nat, i < 4 → tr j = adV i → st_len.getD i 0 = n → (∀ z, lo_by i z = (st_byt.getD i []).getD z 0) → xa_cell D cI cP tr fmt (fun q => s.heap.size ≤ q) s s.heap j (.inl (1, n, lo_by i)) := by
    intro i j n hi hj hn hz
    obtain ⟨h1, h2, h3, h4⟩ := hSS.1 i hi
    refine Or.inr (Or.inl ⟨rfl, ?_⟩)
    rw [hj, ← hn]
    have e9 : (fun j => Value.int (lo_by i j)) = fun j => .int ((st_byt.getD i []).getD j 0) := by funext z; rw [hz]
    rw [e9]
    exact h4
  have hHR : xa_HR D cI cP tr fmt (fun q => s.heap.size ≤ q) s (lo_old (L, xs)) s.heap := by
    refine ⟨by rw [htr]; rfl, Nat.le_refl 9, fun k c hk => ?_⟩
    match k, hk with
    | 0, hk => cases hk; exact Or.inr (Or.inr ⟨rfl, by rw [htr]; exact hscr⟩)
    | 1, hk => cases hk; exact hstr 0 1 5 (by decide) (by rw [htr]; rfl) (by rw [htr]; rfl)
    | 2, hk => cases hk; exact hstr 1 2 6 (by decide) (by rw [htr]; rfl) (by rw [htr]; rfl)
    | 3, hk => cases hk; exact hstr 2 3 7 (by decide) (by rw [htr]; rfl) (by rw [htr]; rfl)
    | 4, hk => cases hk; exact hstr 3 4 8 (by decide) (by rw [htr]; rfl) (by rw [htr]; rfl)
    | 5, hk => cases hk; exact hbyt 0 5 6 (by decide) (by rw [htr]; rfl) rfl (fun z => rfl)
    | 6, hk => cases hk; exact hbyt 1 6 3 (by decide) (by rw [htr]; rfl) rfl (fun z => rfl)
    | 7, hk => cases hk; exact hbyt 2 7 4 (by decide) (by rw [htr]; rfl) rfl (fun z => rfl)
    | 8, hk => cases hk; exact hbyt 3 8 10 (by decide) (by rw [htr]; rfl) rfl (fun z => rfl)
    | k + 9, hk => simp [lo_old] at hk
  -- the run
  obtain ⟨d, h', hd1, hd2, ⟨n, hev⟩, hn1, hn2⟩ := hpure L xs hL
  have htb : ∀ w ∈ t_Law_law, w.2.1 = .nop ∨ xa_okI xa_ms x code ret w = true := xa_okT_tb (ms := xa_ms) (M := (x, code, maxLocals, ret, t_Law_law)) ok_Law
  have main := xs_main (p := p) (l := l) (e := e) (R := room_1) (s := s) (m := m) (args := #[Value.ref b]) (below := below) (meth := meth) (c := c) (Q := lw_Z below #[Value.ref b] s) (n0 := 9) (s0 := xa_sl (lo_old (L, xs))) (d := d) (q := (some (.int 1), h')) (ret := ret) (y := x) hx hb hml hf hown (fun z => absurd z (by decide)) (fun w hw => hts w (xa_gw_sub hw)) hI hT hd2 hd1 (fun M hM => xa_okT_c (xa_oks M hM)) htb (xa_sound xa_oks hf hT d)
    (by show h'.length ≤ 9 + 600000; omega) (by show xa_sl h' ≤ _ + 7302250; omega)
    (by
      intro pc rl H locs cells slots v ty hdg hR hS hc1 hc2 hq hty hn
      dsimp only at hc1 hc2 hq
      cases hq
      refine va_forget (fun q hq => hS.2.2 q hq) ?_
      refine W.widen (k := 600000) (n := 7302250) (by omega) (by omega) ?_
      exact lw_ret hx hb hr hlocks hdg)
    (by
      intro pc rl H locs cells slots hdg hR hS hc1 hc2 hq hty
      cases hq)
    n _ hev
  rw [lg_entry_eq]
  have hLe := xa_entry (tr := tr) (fmt := fmt) hf (as := [.ref 0]) (n := 4) rfl rfl
  have htr0 : [Value.ref b] = ([Value.ref 0] : List Value).map (xa_v tr fmt) := by rw [htr]; rfl
  have hfin := main.2 _ s.heap [] 0 0 hLe hHR va_S.rf rfl rfl
  rw [← htr0] at hfin
  exact hfin
end
section
/-! ===== rows that stop at cells ===== -/
/-- the instruction sees no cell -/
def xa_nh (tb : List xa_I) (pc : Nat) : Bool := match xa_lk tb pc with
  | some (i, _) => (match i with
    | .getfield _ => false
    | .putfield _ => false
    | .iaload => false
    | .iastore => false
    | .aaload => false
    | .arraylength => false
    | .baload => false
    | _ => true)
  | none => false
theorem ev_np (stop : List Nat) {d : Nat} {tb : List xa_I} {pc : Nat} {ls st : List Value} {h : xa_H} {q : xa_R} {pc' : Nat} {ls' st' : List Value} {h' : xa_H} (_ : stop.any (Nat.beq pc) = false) (_ : xa_nh tb pc = true) (h1 : xa_one tb pc ls st h = some (.inl (pc', ls', st', h'))) (k : ev d tb pc' ls' st' h' q) : ev d tb pc ls st h q := ev_nx h1 k
/-! ===== class Plan: reads ===== -/
/-- a plan stands at p -/
def PL (p : Nat) : Prop := lo_at p = some (.inr (2, [.inl 0, .inr (p + 1), .inr (p + 2)])) ∧ lo_at (p + 1) = some (.inl 18) ∧ lo_at (p + 2) = some (.inl 18)
section PLAN
variable {Y : Nat × (Nat → Int32)} {F A : Nat → Nat → Int32} {p : Nat} (d : Nat)
theorem c_Plan_size (hp0 : PL p) : xa_rn xa_ms (d + 1) n_Plan_size [.ref p] (hp Y F A) (some (.int (F p 0))) (hp Y F A) := by
  refine rn_in m_Plan_size rfl ⟨rfl, rfl⟩ ?_
  show ev _ t_Plan_size 0 [.ref p] [] _ _
  repeat (refine ev_np [] rfl rfl rfl ?_)
  refine ev_gi rfl hp0.1 rfl ?_
  exact ev_ri rfl rfl
theorem c_Plan_isSpot {s l : Nat} (hs : s < 6) (hl : l < 3) {h : xa_H} : xa_rn xa_ms (d + 1) n_Plan_isSpot [.int (nI s), .int (nI l)] h (some (.int 1)) h := by
  refine rn_in m_Plan_isSpot rfl ⟨rfl, rfl⟩ ?_
  show ev _ t_Plan_isSpot 0 [.int (nI s), .int (nI l)] [] _ _
  repeat (refine ev_np [] rfl rfl rfl ?_)
  refine ev_ie (nI_pos (by omega)) ?_
  repeat (refine ev_np [] rfl rfl rfl ?_)
  refine ev_ie (nI_ge (b := 6) hs (by omega)) ?_
  repeat (refine ev_np [] rfl rfl rfl ?_)
  refine ev_ie (nI_pos (by omega)) ?_
  repeat (refine ev_np [] rfl rfl rfl ?_)
  refine ev_ie (nI_ge (b := 3) hl (by omega)) ?_
  repeat (refine ev_np [] rfl rfl rfl ?_)
  exact ev_rz rfl rfl (Or.inr rfl)
theorem nI_3 (s l : Nat) : nI s * 3 + nI l = nI (3 * s + l) := by
  rw [show (3 : Int32) = nI 3 from rfl, pk_mul, nI_add, Nat.mul_comm]
theorem c_Plan_anyFrom (hp0 : PL p) {s l : Nat} (hs : s < 6) (hl : l < 3) : xa_rn xa_ms (d + 2) n_Plan_anyFrom [.ref p, .int (nI s), .int (nI l)] (hp Y F A) (some (.int (A (p + 1) (3 * s + l)))) (hp Y F A) := by
  refine rn_in m_Plan_anyFrom rfl ⟨rfl, rfl⟩ ?_
  show ev _ t_Plan_anyFrom 0 [.ref p, .int (nI s), .int (nI l)] [] _ _
  repeat (refine ev_np [] rfl rfl rfl ?_)
  refine ev_ca rfl (c_Plan_isSpot d hs hl) ?_
  repeat (refine ev_np [] rfl rfl rfl ?_)
  refine ev_gr rfl hp0.1 rfl ?_
  repeat (refine ev_np [] rfl rfl rfl ?_)
  refine ev_an rfl hp0.2.1 (nI_3 s l) (by omega) rfl ?_
  repeat (refine ev_np [] rfl rfl rfl ?_)
  exact ev_ri rfl rfl
theorem c_Plan_mustFrom (hp0 : PL p) {s l : Nat} (hs : s < 6) (hl : l < 3) : xa_rn xa_ms (d + 2) n_Plan_mustFrom [.ref p, .int (nI s), .int (nI l)] (hp Y F A) (some (.int (A (p + 2) (3 * s + l)))) (hp Y F A) := by
  refine rn_in m_Plan_mustFrom rfl ⟨rfl, rfl⟩ ?_
  show ev _ t_Plan_mustFrom 0 [.ref p, .int (nI s), .int (nI l)] [] _ _
  repeat (refine ev_np [] rfl rfl rfl ?_)
  refine ev_ca rfl (c_Plan_isSpot d hs hl) ?_
  repeat (refine ev_np [] rfl rfl rfl ?_)
  refine ev_gr rfl hp0.1 rfl ?_
  repeat (refine ev_np [] rfl rfl rfl ?_)
  refine ev_an rfl hp0.2.2 (nI_3 s l) (by omega) rfl ?_
  repeat (refine ev_np [] rfl rfl rfl ?_)
  exact ev_ri rfl rfl
/-- the bit of a set -/
def bi (x : Int32) (t : Nat) : Bool := decide (¬ (x >>> (nI t &&& 31)) &&& 1 = 0)
def z01 (b : Bool) : Int32 := bif b then 1 else 0
theorem c_MM_inSet {x : Int32} {t : Nat} {h : xa_H} : xa_rn xa_ms (d + 1) n_MM_inSet [.int x, .int (nI t)] h (some (.int (z01 (bi x t)))) h := by
  refine rn_in m_MM_inSet rfl ⟨rfl, rfl⟩ ?_
  show ev _ t_MM_inSet 0 [.int x, .int (nI t)] [] _ _
  repeat (refine ev_np [] rfl rfl rfl ?_)
  refine ev_if (fun c => ?_) (fun c => ?_)
  · have e : bi x t = false := by simpa [bi, xa_cp] using c
    rw [e]
    repeat (refine ev_np [] rfl rfl rfl ?_)
    exact ev_rz rfl rfl (Or.inl rfl)
  · have e : bi x t = true := by simpa [bi, xa_cp] using c
    rw [e]
    repeat (refine ev_np [] rfl rfl rfl ?_)
    exact ev_rz rfl rfl (Or.inr rfl)
end PLAN
end
section
/-! ===== frames, loops, sets of six as numbers ===== -/
def sA (L : List Nat) (A A' : Nat → Nat → Int32) : Prop := ∀ o, o ∉ L → A' o = A o
def sF (L : List Nat) (F F' : Nat → Nat → Int32) : Prop := ∀ o k, o * 100 + k ∉ L → F' o k = F o k
theorem sA.rf {L : List Nat} {A : Nat → Nat → Int32} : sA L A A := fun _ _ => rfl
theorem sF.rf {L : List Nat} {F : Nat → Nat → Int32} : sF L F F := fun _ _ _ => rfl
theorem sA.tr {L : List Nat} {A B C : Nat → Nat → Int32} (h : sA L A B) (g : sA L B C) : sA L A C := fun o ho => (g o ho).trans (h o ho)
theorem sF.tr {L : List Nat} {A B C : Nat → Nat → Int32} (h : sF L A B) (g : sF L B C) : sF L A C := fun o k ho => (g o k ho).trans (h o k ho)
theorem sA.mono {L L' : List Nat} {A B : Nat → Nat → Int32} (h : sA L A B) (hs : ∀ x ∈ L, x ∈ L') : sA L' A B := fun o ho => h o (fun z => ho (hs o z))
theorem sF.mono {L L' : List Nat} {A B : Nat → Nat → Int32} (h : sF L A B) (hs : ∀ x ∈ L, x ∈ L') : sF L' A B := fun o k ho => h o k (fun z => ho (hs _ z))
theorem sA.up {L : List Nat} {A : Nat → Nat → Int32} {o : Nat} {g : Nat → Int32} (h : o ∈ L) : sA L A (va_up A o g) := fun x hx => by
  unfold va_up
  rw [if_neg (fun e : x = o => hx (by rw [e]; exact h))]
theorem sF.up {L : List Nat} {F : Nat → Nat → Int32} {o k : Nat} {v : Int32} (h : o * 100 + k ∈ L) : sF L F (uF F o k v) := fun x j hx => by
  unfold uF va_up upd
  by_cases e : x = o
  · subst e
    rw [if_pos rfl]
    by_cases e2 : j = k
    · subst e2; exact absurd h hx
    · rw [if_neg e2]
  · rw [if_neg e]
theorem uF_s (F : Nat → Nat → Int32) (o k : Nat) (v : Int32) : uF F o k v o k = v := by simp [uF, va_up, upd]
theorem uF_n (F : Nat → Nat → Int32) {o k o' k' : Nat} (v : Int32) (h : ¬ (o' = o ∧ k' = k)) : uF F o k v o' k' = F o' k' := by
  unfold uF va_up upd
  by_cases e : o' = o
  · subst e
    rw [if_pos rfl, if_neg (fun e2 => h ⟨rfl, e2⟩)]
  · rw [if_neg e]
theorem va_up_s {α : Type} (A : Nat → α) (o : Nat) (g : α) : va_up A o g o = g := va_up_self A o g
theorem va_up_n {α : Type} (A : Nat → α) {o o' : Nat} (g : α) (h : o' ≠ o) : va_up A o g o' = A o' := by simp [va_up, h]
theorem va_up_id {α : Type} (A : Nat → α) (o : Nat) : va_up A o (A o) = A := by
  funext x
  unfold va_up
  by_cases h : x = o
  · rw [if_pos h, h]
  · rw [if_neg h]
/-- a loop that counts up: what it comes to -/
theorem lp_ex {α : Type} (I : Nat → α → Prop) (E : Nat → α → xa_R → Prop) (N : Nat) (step : ∀ k a, k < N → I k a → ∃ a', I (k + 1) a' ∧ ∀ q, E (k + 1) a' q → E k a q) : ∀ m k a, k + m = N → I k a → ∃ a', I N a' ∧ ∀ q, E N a' q → E k a q := by
  intro m
  induction m with
  | zero =>
    intro k a hk hI
    have : k = N := by omega
    subst this
    exact ⟨a, hI, fun q h => h⟩
  | succ m ih =>
    intro k a hk hI
    obtain ⟨a1, h1, g1⟩ := step k a (by omega) hI
    obtain ⟨a2, h2, g2⟩ := ih (k + 1) a1 (by omega) h1
    exact ⟨a2, h2, fun q h => g1 q (g2 q h)⟩
/-- a loop whose states are known beforehand -/
theorem lp_to {E : Nat → xa_R → Prop} (N : Nat) (step : ∀ k, k < N → ∀ q, E (k + 1) q → E k q) : ∀ q, E N q → E 0 q := by
  intro q h
  have key : ∀ m k, k + m = N → E k q := by
    intro m
    induction m with
    | zero => intro k hk; rw [show k = N by omega]; exact h
    | succ m ih => intro k hk; exact step k (by omega) q (ih (k + 1) (by omega))
  exact key N 0 (Nat.zero_add N)
/-- a set of the first n numbers as a number -/
def bmn (f : Nat → Bool) : Nat → Nat
  | 0 => 0
  | k + 1 => bmn f k + (bif f k then 2 ^ k else 0)
abbrev bm (f : Nat → Bool) : Nat := bmn f 6
theorem bmn_lt (f : Nat → Bool) : ∀ n, bmn f n < 2 ^ n := by
  intro n
  induction n with
  | zero => simp [bmn]
  | succ n ih =>
    simp only [bmn, Nat.pow_succ]
    cases f n <;> simp <;> omega
theorem bm_lt (f : Nat → Bool) : bm f < 64 := bmn_lt f 6
theorem bmn_bit (f : Nat → Bool) : ∀ n t, (bmn f n).testBit t = (decide (t < n) && f t) := by
  intro n
  induction n with
  | zero => intro t; simp [bmn]
  | succ n ih =>
    intro t
    simp only [bmn]
    have hlt := bmn_lt f n
    cases hf : f n with
    | false =>
      simp only [cond_false, Nat.add_zero, ih]
      by_cases h : t < n
      · simp [h, Nat.lt_succ_of_lt h]
      · by_cases h2 : t = n
        · subst h2; simp [hf]
        · have h3 : ¬ t < n + 1 := by omega
          simp [h, h3]
    | true =>
      simp only [cond_true]
      rw [Nat.add_comm]
      by_cases h : t < n
      · rw [Nat.testBit_two_pow_add_gt h, ih]
        simp [h, Nat.lt_succ_of_lt h]
      · by_cases h2 : t = n
        · subst h2
          rw [Nat.testBit_two_pow_add_eq, ih]
          simp [hf]
        · have h3 : ¬ t < n + 1 := by omega
          rw [Nat.testBit_lt_two_pow (Nat.lt_of_lt_of_le (show 2 ^ n + bmn f n < 2 ^ (n + 1) by rw [Nat.pow_succ]; omega) (Nat.pow_le_pow_right (by decide) (by omega)))]
          simp [h3]
theorem bm_bit (f : Nat → Bool) {t : Nat} (ht : t < 6) : (bm f).testBit t = f t := by
  rw [bmn_bit]; simp [ht]
theorem bm_ext {a b : Nat} (ha : a < 64) (hb : b < 64) (h : ∀ t, t < 6 → a.testBit t = b.testBit t) : a = b := by
  apply Nat.eq_of_testBit_eq
  intro t
  by_cases ht : t < 6
  · exact h t ht
  · have h1 : a < 2 ^ t := Nat.lt_of_lt_of_le ha (by have : 2 ^ 6 ≤ 2 ^ t := Nat.pow_le_pow_right (by decide) (by omega); omega)
    have h2 : b < 2 ^ t := Nat.lt_of_lt_of_le hb (by have : 2 ^ 6 ≤ 2 ^ t := Nat.pow_le_pow_right (by decide) (by omega); omega)
    rw [Nat.testBit_lt_two_pow h1, Nat.testBit_lt_two_pow h2]
theorem bm_of {a : Nat} (ha : a < 64) : bm (fun t => a.testBit t) = a := bm_ext (bm_lt _) ha (fun t ht => by rw [bm_bit _ ht])
theorem bm_congr {f g : Nat → Bool} (h : ∀ t, t < 6 → f t = g t) : bm f = bm g := bm_ext (bm_lt _) (bm_lt _) (fun t ht => by rw [bm_bit _ ht, bm_bit _ ht, h t ht])
theorem tab2 {P : Nat → Nat → Prop} {N M : Nat} {dc : ∀ i j, Decidable (P i j)} (h : (List.range N).all (fun i => (List.range M).all fun j => @decide (P i j) (dc i j)) = true) {i j : Nat} (hi : i < N) (hj : j < M) : P i j := by
  have h1 := List.all_eq_true.mp h i (List.mem_range.mpr hi)
  exact @of_decide_eq_true _ (dc i j) (List.all_eq_true.mp h1 j (List.mem_range.mpr hj))
end
section
/-! ===== sets on ints ===== -/
set_option maxRecDepth 100000 in
theorem bi_tab : (List.range 64).all (fun m => (List.range 6).all fun t => decide (bi (nI m) t = m.testBit t)) = true := by decide +kernel
theorem bi_nI {m t : Nat} (hm : m < 64) (ht : t < 6) : bi (nI m) t = m.testBit t := tab2 bi_tab hm ht
set_option maxRecDepth 100000 in
theorem orb_tab : (List.range 64).all (fun m => (List.range 6).all fun t => decide (nI m ||| ((1 : Int32) <<< (nI t &&& 31)) = nI (m ||| 2 ^ t))) = true := by decide +kernel
theorem orb_nI {m t : Nat} (hm : m < 64) (ht : t < 6) : nI m ||| ((1 : Int32) <<< (nI t &&& 31)) = nI (m ||| 2 ^ t) := tab2 orb_tab hm ht
set_option maxRecDepth 100000 in
theorem clb_tab : (List.range 64).all (fun m => (List.range 6).all fun t => decide (nI m &&& (((1 : Int32) <<< (nI t &&& 31)) ^^^ (-1)) = nI (m &&& (63 ^^^ 2 ^ t)))) = true := by decide +kernel
theorem clb_nI {m t : Nat} (hm : m < 64) (ht : t < 6) : nI m &&& (((1 : Int32) <<< (nI t &&& 31)) ^^^ (-1)) = nI (m &&& (63 ^^^ 2 ^ t)) := tab2 clb_tab hm ht
set_option maxRecDepth 100000 in
theorem or_tab : (List.range 64).all (fun m => (List.range 64).all fun t => decide (nI m ||| nI t = nI (m ||| t))) = true := by decide +kernel
theorem or_nI {m t : Nat} (hm : m < 64) (ht : t < 64) : nI m ||| nI t = nI (m ||| t) := tab2 or_tab hm ht
set_option maxRecDepth 100000 in
theorem and_tab : (List.range 64).all (fun m => (List.range 64).all fun t => decide (nI m &&& nI t = nI (m &&& t))) = true := by decide +kernel
theorem and_nI {m t : Nat} (hm : m < 64) (ht : t < 64) : nI m &&& nI t = nI (m &&& t) := tab2 and_tab hm ht
theorem two_pow_lt {t : Nat} (ht : t < 6) : 2 ^ t < 64 := Nat.pow_lt_pow_right (by decide) ht
theorem bm_or (f g : Nat → Bool) : bm f ||| bm g = bm (fun t => f t || g t) := bm_ext (Nat.or_lt_two_pow (n := 6) (bm_lt f) (bm_lt g)) (bm_lt _) (fun t ht => by rw [Nat.testBit_or, bm_bit _ ht, bm_bit _ ht, bm_bit _ ht])
theorem bm_and (f g : Nat → Bool) : bm f &&& bm g = bm (fun t => f t && g t) := bm_ext (Nat.and_lt_two_pow (n := 6) _ (bm_lt g)) (bm_lt _) (fun t ht => by rw [Nat.testBit_and, bm_bit _ ht, bm_bit _ ht, bm_bit _ ht])
theorem bm_one {k : Nat} (hk : k < 6) : 2 ^ k = bm (fun t => t == k) := bm_ext (two_pow_lt hk) (bm_lt _) (fun t ht => by
  rw [Nat.testBit_two_pow, bm_bit _ ht]
  by_cases e : k = t
  · subst e; simp
  · have e2 : ¬ t = k := fun z => e z.symm
    simp [e, e2])
theorem bm_orb (f : Nat → Bool) {k : Nat} (hk : k < 6) : bm f ||| 2 ^ k = bm (fun t => f t || t == k) := by rw [bm_one hk, bm_or]
theorem bm_clb (f : Nat → Bool) {k : Nat} (hk : k < 6) : bm f &&& (63 ^^^ 2 ^ k) = bm (fun t => f t && !(t == k)) := bm_ext (Nat.and_lt_two_pow (n := 6) _ (Nat.xor_lt_two_pow (n := 6) (by decide) (two_pow_lt hk))) (bm_lt _) (fun t ht => by
  rw [Nat.testBit_and, Nat.testBit_xor, bm_bit _ ht, bm_bit _ ht, Nat.testBit_two_pow]
  have h63 : (63 : Nat).testBit t = true := by
    have := Nat.testBit_two_pow_sub_one 6 t
    simpa [ht] using this
  rw [h63]
  by_cases e : k = t
  · subst e; simp
  · have e2 : ¬ t = k := fun z => e z.symm
    simp [e, e2])
theorem bi_bm (f : Nat → Bool) {t : Nat} (ht : t < 6) : bi (nI (bm f)) t = f t := by rw [bi_nI (bm_lt f) ht, bm_bit _ ht]
theorem or_bm (f g : Nat → Bool) : nI (bm f) ||| nI (bm g) = nI (bm (fun t => f t || g t)) := by rw [or_nI (bm_lt f) (bm_lt g), bm_or]
theorem and_bm (f g : Nat → Bool) : nI (bm f) &&& nI (bm g) = nI (bm (fun t => f t && g t)) := by rw [and_nI (bm_lt f) (bm_lt g), bm_and]
theorem orb_bm (f : Nat → Bool) {t : Nat} (ht : t < 6) : nI (bm f) ||| ((1 : Int32) <<< (nI t &&& 31)) = nI (bm (fun k => f k || k == t)) := by rw [orb_nI (bm_lt f) ht, bm_orb f ht]
theorem clb_bm (f : Nat → Bool) {t : Nat} (ht : t < 6) : nI (bm f) &&& (((1 : Int32) <<< (nI t &&& 31)) ^^^ (-1)) = nI (bm (fun k => f k && !(k == t))) := by rw [clb_nI (bm_lt f) ht, bm_clb f ht]
theorem bm_zero : bm (fun _ => false) = 0 := rfl
theorem bm_eq0 {f : Nat → Bool} : bm f = 0 ↔ ∀ t, t < 6 → f t = false := by
  constructor
  · intro h t ht
    rw [← bm_bit f ht, h, Nat.zero_testBit]
  · intro h
    rw [← bm_zero]
    exact bm_congr h
theorem nI_bm0 {f : Nat → Bool} : nI (bm f) = 0 ↔ ∀ t, t < 6 → f t = false := by
  rw [← bm_eq0, ← nI_0]
  exact nI_eq (by have := bm_lt f; omega) (by decide)
/-- how many -/
def cnt (f : Nat → Bool) : Nat → Nat
  | 0 => 0
  | k + 1 => cnt f k + (bif f k then 1 else 0)
theorem cnt_le (f : Nat → Bool) : ∀ n, cnt f n ≤ n := by
  intro n
  induction n with
  | zero => exact Nat.le_refl 0
  | succ n ih => simp only [cnt]; cases f n <;> simp <;> omega
theorem cnt_congr {f g : Nat → Bool} : ∀ n, (∀ t, t < n → f t = g t) → cnt f n = cnt g n := by
  intro n
  induction n with
  | zero => intro _; rfl
  | succ n ih => intro h; simp only [cnt]; rw [ih (fun t ht => h t (by omega)), h n (by omega)]
end
section
/-! ===== class Plan: what it holds, its writes ===== -/
/-- the plan at p has n states and the arrows g -/
def CP (F A : Nat → Nat → Int32) (p n : Nat) (g : Nat → Nat → Nat → Nat) : Prop := F p 0 = nI n ∧ ∀ s l, s < 6 → l < 3 → A (p + 1) (3 * s + l) = nI (bm (fun t => decide (1 ≤ g s l t))) ∧ A (p + 2) (3 * s + l) = nI (bm (fun t => decide (2 ≤ g s l t)))
/-- a plan: its states, its arrows -/
def GW (n : Nat) (g : Nat → Nat → Nat → Nat) : Prop := (1 ≤ n ∧ n ≤ 6) ∧ ∀ s l t, g s l t ≤ 2 ∧ (g s l t ≠ 0 → s < n ∧ l < 3 ∧ t < n)
def gset (g : Nat → Nat → Nat → Nat) (s l t v : Nat) : Nat → Nat → Nat → Nat := fun a b c => if a = s ∧ b = l ∧ c = t then v else g a b c
def lo_is2 (e : Option lo_E) : Bool := match e with
  | some (.inr (2, _)) => true
  | _ => false
theorem PL_in {p : Nat} (h : PL p) : p = 11 ∨ p = 14 ∨ p = 17 ∨ p = 20 ∨ p = 23 ∨ p = 26 ∨ p = 29 ∨ p = 59 := by
  have h1 := lo_at_lt h.1
  have key : ∀ q, q < 73 → lo_is2 (lo_at q) = true → q = 11 ∨ q = 14 ∨ q = 17 ∨ q = 20 ∨ q = 23 ∨ q = 26 ∨ q = 29 ∨ q = 59 := by decide +kernel
  exact key p h1.2 (by rw [h.1]; rfl)
theorem PL_mk {p : Nat} (h : p = 11 ∨ p = 14 ∨ p = 17 ∨ p = 20 ∨ p = 23 ∨ p = 26 ∨ p = 29 ∨ p = 59) : PL p := by
  rcases h with rfl | rfl | rfl | rfl | rfl | rfl | rfl | rfl <;> exact ⟨rfl, rfl, rfl⟩
theorem CP.frame {F A F' A' : Nat → Nat → Int32} {p n : Nat} {g : Nat → Nat → Nat → Nat} (h : CP F A p n g) (h0 : F' p 0 = F p 0) (h1 : A' (p + 1) = A (p + 1)) (h2 : A' (p + 2) = A (p + 2)) : CP F' A' p n g := ⟨h0.trans h.1, fun s l hs hl => by rw [h1, h2]; exact h.2 s l hs hl⟩
theorem CP.congr {F A : Nat → Nat → Int32} {p n : Nat} {g g' : Nat → Nat → Nat → Nat} (h : CP F A p n g) (he : ∀ s l t, s < 6 → l < 3 → t < 6 → g s l t = g' s l t) : CP F A p n g' := ⟨h.1, fun s l hs hl => by
  obtain ⟨a, b⟩ := h.2 s l hs hl
  refine ⟨a.trans ?_, b.trans ?_⟩
  · rw [bm_congr (fun t ht => by rw [he s l t hs hl ht])]
  · rw [bm_congr (fun t ht => by rw [he s l t hs hl ht])]⟩
section PLAN2
variable {Y : Nat × (Nat → Int32)} {F A : Nat → Nat → Int32} {p : Nat} (d : Nat)
theorem c_Plan_at (hp0 : PL p) {n : Nat} {g : Nat → Nat → Nat → Nat} (hc : CP F A p n g) {s l t : Nat} (hs : s < 6) (hl : l < 3) (ht : t < 6) (hg : g s l t ≤ 2) : xa_rn xa_ms (d + 3) n_Plan_at [.ref p, .int (nI s), .int (nI l), .int (nI t)] (hp Y F A) (some (.int (nI (g s l t)))) (hp Y F A) := by
  obtain ⟨h1, h2⟩ := hc.2 s l hs hl
  refine rn_in m_Plan_at rfl ⟨rfl, rfl⟩ ?_
  show ev _ t_Plan_at 0 [.ref p, .int (nI s), .int (nI l), .int (nI t)] [] _ _
  repeat (refine ev_np [] rfl rfl rfl ?_)
  refine ev_vc rfl rfl hp0.1 rfl (c_Plan_mustFrom d hp0 hs hl) ?_
  repeat (refine ev_np [] rfl rfl rfl ?_)
  refine ev_ca rfl (c_MM_inSet (d + 1)) ?_
  rw [h2, bi_bm _ ht]
  by_cases hg2 : 2 ≤ g s l t
  · rw [decide_eq_true hg2]
    repeat (refine ev_np [] rfl rfl rfl ?_)
    exact ev_ri rfl (by rw [show g s l t = 2 by omega]; rfl)
  · rw [decide_eq_false hg2]
    repeat (refine ev_np [] rfl rfl rfl ?_)
    refine ev_vc rfl rfl hp0.1 rfl (c_Plan_anyFrom d hp0 hs hl) ?_
    repeat (refine ev_np [] rfl rfl rfl ?_)
    refine ev_ca rfl (c_MM_inSet (d + 1)) ?_
    rw [h1, bi_bm _ ht]
    by_cases hg1 : 1 ≤ g s l t
    · rw [decide_eq_true hg1]
      repeat (refine ev_np [] rfl rfl rfl ?_)
      exact ev_ri rfl (by rw [show g s l t = 1 by omega]; rfl)
    · rw [decide_eq_false hg1]
      repeat (refine ev_np [] rfl rfl rfl ?_)
      exact ev_ri rfl (by rw [show g s l t = 0 by omega]; rfl)
theorem pl_ix {s l s' l' : Nat} (hl : l < 3) (hl' : l' < 3) : 3 * s' + l' = 3 * s + l ↔ s' = s ∧ l' = l := by omega
/-- an arrow becomes v where v is more -/
theorem c_Plan_raise (hp0 : PL p) {n : Nat} {g : Nat → Nat → Nat → Nat} (hc : CP F A p n g) {s l t v : Nat} (hs : s < 6) (hl : l < 3) (ht : t < 6) (hv : v ≤ 2) : ∃ A', xa_rn xa_ms (d + 2) n_Plan_raise [.ref p, .int (nI s), .int (nI l), .int (nI t), .int (nI v)] (hp Y F A) none (hp Y F A') ∧ sA [p + 1, p + 2] A A' ∧ CP F A' p n (gset g s l t (max (g s l t) v)) := by
  obtain ⟨h1, h2⟩ := hc.2 s l hs hl
  have hp12 : ¬ p + 2 = p + 1 := by omega
  have hp21 : ¬ p + 1 = p + 2 := by omega
  have key : ∀ (A' : Nat → Nat → Int32), (∀ j, A' (p + 1) j = if j = 3 * s + l ∧ 1 ≤ v then nI (bm (fun k => decide (1 ≤ g s l k) || k == t)) else A (p + 1) j) → (∀ j, A' (p + 2) j = if j = 3 * s + l ∧ 2 ≤ v then nI (bm (fun k => decide (2 ≤ g s l k) || k == t)) else A (p + 2) j) → CP F A' p n (gset g s l t (max (g s l t) v)) := by
    intro A' e1 e2
    refine ⟨hc.1, fun s' l' hs' hl' => ?_⟩
    obtain ⟨q1, q2⟩ := hc.2 s' l' hs' hl'
    rw [e1, e2, q1, q2]
    by_cases he : s' = s ∧ l' = l
    · obtain ⟨rfl, rfl⟩ := he
      simp only [true_and]
      constructor
      · split <;> refine congrArg nI (bm_congr fun k _ => ?_) <;> unfold gset <;> by_cases hk : k = t <;> simp [hk] <;> first | omega | (rw [hk] at *; omega)
      · split <;> refine congrArg nI (bm_congr fun k _ => ?_) <;> unfold gset <;> by_cases hk : k = t <;> simp [hk] <;> first | omega | (rw [hk] at *; omega)
    · have hne : ¬ 3 * s' + l' = 3 * s + l := fun z => he ((pl_ix hl hl').mp z)
      have hgs : ∀ k, gset g s l t (max (g s l t) v) s' l' k = g s' l' k := fun k => by
        unfold gset
        rw [if_neg (fun z => he ⟨z.1, z.2.1⟩)]
      rw [if_neg (fun z => hne z.1), if_neg (fun z => hne z.1)]
      simp only [hgs]
      exact ⟨trivial, trivial⟩
  by_cases hv1 : 1 ≤ v
  · by_cases hv2 : 2 ≤ v
    · refine ⟨va_up (va_up A (p + 1) (upd (A (p + 1)) (3 * s + l) (A (p + 1) (3 * s + l) ||| ((1 : Int32) <<< (nI t &&& 31))))) (p + 2) (upd (A (p + 2)) (3 * s + l) (A (p + 2) (3 * s + l) ||| ((1 : Int32) <<< (nI t &&& 31)))), ?_, (sA.up (by simp)).tr (sA.up (by simp)), key _ (fun j => ?_) (fun j => ?_)⟩
      · refine rn_in m_Plan_raise rfl ⟨rfl, rfl⟩ ?_
        show ev _ t_Plan_raise 0 [.ref p, .int (nI s), .int (nI l), .int (nI t), .int (nI v)] [] _ _
        repeat (refine ev_np [] rfl rfl rfl ?_)
        refine ev_ca rfl (c_Plan_isSpot d hs hl) ?_
        repeat (refine ev_np [] rfl rfl rfl ?_)
        refine ev_ie (nI_nlt (a := v) (b := 1) hv1 (by omega)) ?_
        repeat (refine ev_np [] rfl rfl rfl ?_)
        refine ev_gr rfl hp0.1 rfl ?_
        repeat (refine ev_np [] rfl rfl rfl ?_)
        refine ev_an rfl hp0.2.1 (nI_3 s l) (by omega) rfl ?_
        repeat (refine ev_np [] rfl rfl rfl ?_)
        refine ev_am rfl hp0.2.1 (nI_3 s l) (by omega) rfl ?_
        repeat (refine ev_np [] rfl rfl rfl ?_)
        refine ev_ie (nI_nlt (a := v) (b := 2) hv2 (by omega)) ?_
        repeat (refine ev_np [] rfl rfl rfl ?_)
        refine ev_gr rfl hp0.1 rfl ?_
        repeat (refine ev_np [] rfl rfl rfl ?_)
        refine ev_an rfl hp0.2.2 (nI_3 s l) (by omega) rfl ?_
        repeat (refine ev_np [] rfl rfl rfl ?_)
        refine ev_am rfl hp0.2.2 (nI_3 s l) (by omega) rfl ?_
        rw [va_up_n _ _ hp12]
        exact ev_rv rfl
      · rw [va_up_n _ _ hp21, va_up_s, h1, orb_bm _ ht]
        simp [upd, hv1]
      · rw [va_up_s, h2, orb_bm _ ht]
        simp [upd, hv2]
    · refine ⟨va_up A (p + 1) (upd (A (p + 1)) (3 * s + l) (A (p + 1) (3 * s + l) ||| ((1 : Int32) <<< (nI t &&& 31)))), ?_, sA.up (by simp), key _ (fun j => ?_) (fun j => ?_)⟩
      · refine rn_in m_Plan_raise rfl ⟨rfl, rfl⟩ ?_
        show ev _ t_Plan_raise 0 [.ref p, .int (nI s), .int (nI l), .int (nI t), .int (nI v)] [] _ _
        repeat (refine ev_np [] rfl rfl rfl ?_)
        refine ev_ca rfl (c_Plan_isSpot d hs hl) ?_
        repeat (refine ev_np [] rfl rfl rfl ?_)
        refine ev_ie (nI_nlt (a := v) (b := 1) hv1 (by omega)) ?_
        repeat (refine ev_np [] rfl rfl rfl ?_)
        refine ev_gr rfl hp0.1 rfl ?_
        repeat (refine ev_np [] rfl rfl rfl ?_)
        refine ev_an rfl hp0.2.1 (nI_3 s l) (by omega) rfl ?_
        repeat (refine ev_np [] rfl rfl rfl ?_)
        refine ev_am rfl hp0.2.1 (nI_3 s l) (by omega) rfl ?_
        repeat (refine ev_np [] rfl rfl rfl ?_)
        refine ev_it (nI_lt (a := v) (b := 2) (by omega) (by omega)) ?_
        exact ev_rv rfl
      · rw [va_up_s, h1, orb_bm _ ht]
        simp [upd, hv1]
      · rw [va_up_n _ _ hp12]
        simp [hv2]
  · refine ⟨A, ?_, sA.rf, key _ (fun j => by simp [hv1]) (fun j => by simp [show ¬ 2 ≤ v by omega])⟩
    refine rn_in m_Plan_raise rfl ⟨rfl, rfl⟩ ?_
    show ev _ t_Plan_raise 0 [.ref p, .int (nI s), .int (nI l), .int (nI t), .int (nI v)] [] _ _
    repeat (refine ev_np [] rfl rfl rfl ?_)
    refine ev_ca rfl (c_Plan_isSpot d hs hl) ?_
    repeat (refine ev_np [] rfl rfl rfl ?_)
    refine ev_it (nI_lt (a := v) (b := 1) (by omega) (by omega)) ?_
    repeat (refine ev_np [] rfl rfl rfl ?_)
    refine ev_it (nI_lt (a := v) (b := 2) (by omega) (by omega)) ?_
    exact ev_rv rfl
end PLAN2
end
section
/-! ===== class Pairs (at 46 and 53) ===== -/
/-- a Pairs object at o: its sets by a relation -/
def PR (o : Nat) : Prop := (o = 46 ∨ o = 53) ∧ lo_at o = some (.inr (1, [.inr (o + 1), .inr (o + 2)])) ∧ lo_at (o + 1) = some (.inl 6) ∧ lo_at (o + 2) = some (.inl 6)
theorem PR46 : PR 46 := ⟨Or.inl rfl, rfl, rfl, rfl⟩
theorem PR53 : PR 53 := ⟨Or.inr rfl, rfl, rfl, rfl⟩
def CR (A : Nat → Nat → Int32) (o : Nat) (r : Nat → Nat → Bool) : Prop := ∀ k, k < 6 → A (o + 1) k = nI (bm (fun t => r k t)) ∧ A (o + 2) k = nI (bm (fun s => r s k))
theorem CR.frame {A A' : Nat → Nat → Int32} {o : Nat} {r : Nat → Nat → Bool} (h : CR A o r) (h1 : A' (o + 1) = A (o + 1)) (h2 : A' (o + 2) = A (o + 2)) : CR A' o r := fun k hk => by rw [h1, h2]; exact h k hk
theorem CR.congr {A : Nat → Nat → Int32} {o : Nat} {r r' : Nat → Nat → Bool} (h : CR A o r) (he : ∀ s t, s < 6 → t < 6 → r s t = r' s t) : CR A o r' := fun k hk => by
  obtain ⟨a, b⟩ := h k hk
  exact ⟨a.trans (congrArg nI (bm_congr fun t ht => he k t hk ht)), b.trans (congrArg nI (bm_congr fun t ht => he t k ht hk))⟩
section PAIRS
variable {Y : Nat × (Nat → Int32)} {F A : Nat → Nat → Int32} {o : Nat} (d : Nat)
theorem c_Pairs_isPair {s t : Nat} (hs : s < 6) (ht : t < 6) {h : xa_H} : xa_rn xa_ms (d + 1) n_Pairs_isPair [.int (nI s), .int (nI t)] h (some (.int 1)) h := by
  refine rn_in m_Pairs_isPair rfl ⟨rfl, rfl⟩ ?_
  show ev _ t_Pairs_isPair 0 [.int (nI s), .int (nI t)] [] _ _
  repeat (refine ev_np [] rfl rfl rfl ?_)
  refine ev_ie (nI_pos (by omega)) ?_
  repeat (refine ev_np [] rfl rfl rfl ?_)
  refine ev_ie (nI_ge (b := 6) hs (by omega)) ?_
  repeat (refine ev_np [] rfl rfl rfl ?_)
  refine ev_ie (nI_pos (by omega)) ?_
  repeat (refine ev_np [] rfl rfl rfl ?_)
  refine ev_ie (nI_ge (b := 6) ht (by omega)) ?_
  repeat (refine ev_np [] rfl rfl rfl ?_)
  exact ev_rz rfl rfl (Or.inr rfl)
theorem c_Pairs_has (hp0 : PR o) {r : Nat → Nat → Bool} (hc : CR A o r) {s t : Nat} (hs : s < 6) (ht : t < 6) : xa_rn xa_ms (d + 2) n_Pairs_has [.ref o, .int (nI s), .int (nI t)] (hp Y F A) (some (.int (z01 (r s t)))) (hp Y F A) := by
  refine rn_in m_Pairs_has rfl ⟨rfl, rfl⟩ ?_
  show ev _ t_Pairs_has 0 [.ref o, .int (nI s), .int (nI t)] [] _ _
  repeat (refine ev_np [] rfl rfl rfl ?_)
  refine ev_ca rfl (c_Pairs_isPair d hs ht) ?_
  repeat (refine ev_np [] rfl rfl rfl ?_)
  refine ev_gr rfl hp0.2.1 rfl ?_
  repeat (refine ev_np [] rfl rfl rfl ?_)
  refine ev_an rfl hp0.2.2.1 rfl hs rfl ?_
  repeat (refine ev_np [] rfl rfl rfl ?_)
  refine ev_ca rfl (c_MM_inSet d) ?_
  rw [(hc s hs).1, bi_bm _ ht]
  cases r s t with
  | true =>
    repeat (refine ev_np [] rfl rfl rfl ?_)
    exact ev_rz rfl rfl (Or.inr rfl)
  | false =>
    repeat (refine ev_np [] rfl rfl rfl ?_)
    exact ev_rz rfl rfl (Or.inl rfl)
theorem c_Pairs_drop (hp0 : PR o) {r : Nat → Nat → Bool} (hc : CR A o r) {s t : Nat} (hs : s < 6) (ht : t < 6) : ∃ A', xa_rn xa_ms (d + 2) n_Pairs_drop [.ref o, .int (nI s), .int (nI t)] (hp Y F A) none (hp Y F A') ∧ sA [o + 1, o + 2] A A' ∧ CR A' o (fun a b => r a b && !(a == s && b == t)) := by
  have n12 : ¬ o + 1 = o + 2 := by omega
  have n21 : ¬ o + 2 = o + 1 := by omega
  refine ⟨va_up (va_up A (o + 1) (upd (A (o + 1)) s (A (o + 1) s &&& (((1 : Int32) <<< (nI t &&& 31)) ^^^ (-1))))) (o + 2) (upd (A (o + 2)) t (A (o + 2) t &&& (((1 : Int32) <<< (nI s &&& 31)) ^^^ (-1)))), ?_, (sA.up (by simp)).tr (sA.up (by simp)), fun k hk => ⟨?_, ?_⟩⟩
  · refine rn_in m_Pairs_drop rfl ⟨rfl, rfl⟩ ?_
    show ev _ t_Pairs_drop 0 [.ref o, .int (nI s), .int (nI t)] [] _ _
    repeat (refine ev_np [] rfl rfl rfl ?_)
    refine ev_ca rfl (c_Pairs_isPair d hs ht) ?_
    repeat (refine ev_np [] rfl rfl rfl ?_)
    refine ev_gr rfl hp0.2.1 rfl ?_
    repeat (refine ev_np [] rfl rfl rfl ?_)
    refine ev_an rfl hp0.2.2.1 rfl hs rfl ?_
    repeat (refine ev_np [] rfl rfl rfl ?_)
    refine ev_am rfl hp0.2.2.1 rfl hs rfl ?_
    repeat (refine ev_np [] rfl rfl rfl ?_)
    refine ev_gr rfl hp0.2.1 rfl ?_
    repeat (refine ev_np [] rfl rfl rfl ?_)
    refine ev_an rfl hp0.2.2.2 rfl ht rfl ?_
    repeat (refine ev_np [] rfl rfl rfl ?_)
    refine ev_am rfl hp0.2.2.2 rfl ht rfl ?_
    rw [va_up_n _ _ n21]
    exact ev_rv rfl
  · rw [va_up_n _ _ n12, va_up_s]
    unfold upd
    by_cases e : k = s
    · subst e
      rw [if_pos rfl, (hc k hk).1, clb_bm _ ht]
      refine congrArg nI (bm_congr fun b _ => ?_)
      simp
    · rw [if_neg e, (hc k hk).1]
      refine congrArg nI (bm_congr fun b _ => ?_)
      simp [e]
  · rw [va_up_s]
    unfold upd
    by_cases e : k = t
    · subst e
      rw [if_pos rfl, (hc k hk).2, clb_bm _ hs]
      refine congrArg nI (bm_congr fun b _ => ?_)
      simp
    · rw [if_neg e, (hc k hk).2]
      refine congrArg nI (bm_congr fun b _ => ?_)
      simp [e]
/-- some k below n of the first set is met with none of the second -/
def lack (r : Nat → Nat → Bool) (f g : Nat → Bool) : Nat → Bool
  | 0 => false
  | n + 1 => lack r f g n || (f n && !((List.range 6).any fun t => g t && r n t))
theorem any6 (f : Nat → Bool) : bm f = 0 ↔ (List.range 6).any f = false := by
  rw [bm_eq0]
  simp [List.any_eq_false, List.mem_range]
theorem c_Pairs_lacks {v : Nat} (hv : lo_at v = some (.inl 6)) {r : Nat → Nat → Bool} (hc : ∀ k, k < 6 → A v k = nI (bm (fun t => r k t))) (f g : Nat → Bool) : xa_rn xa_ms (d + 1) n_Pairs_lacks [.ref v, .int (nI (bm f)), .int (nI (bm g))] (hp Y F A) (some (.int (z01 (lack r f g 6)))) (hp Y F A) := by
  refine rn_in m_Pairs_lacks rfl ⟨rfl, rfl⟩ ?_
  show ev _ t_Pairs_lacks 0 [.ref v, .int (nI (bm f)), .int (nI (bm g)), .float 0] [] _ _
  repeat (refine ev_np [2] rfl rfl rfl ?_)
  have key : ∀ m k, k + m = 6 → (lack r f g k = true → False) → ev d t_Pairs_lacks 2 [.ref v, .int (nI (bm f)), .int (nI (bm g)), .int (nI k)] [] (hp Y F A) (some (.int (z01 (lack r f g 6))), hp Y F A) := by
    intro m
    induction m with
    | zero =>
      intro k hk hno
      have hk6 : k = 6 := by omega
      subst hk6
      repeat (refine ev_np [] rfl rfl rfl ?_)
      refine ev_ln rfl hv ?_
      repeat (refine ev_np [] rfl rfl rfl ?_)
      exact ev_rz rfl (by cases hz : lack r f g 6 with | true => exact (hno hz).elim | false => rfl) (by cases hz : lack r f g 6 with | true => exact (hno hz).elim | false => exact Or.inl rfl)
    | succ m ih =>
      intro k hk hno
      have hk6 : k < 6 := by omega
      have hmono : ∀ j, k < j → lack r f g (k + 1) = true → lack r f g j = true := by
        intro j hj ht
        induction j with
        | zero => omega
        | succ j ihj =>
          by_cases e : k = j
          · subst e; exact ht
          · simp only [lack]; rw [ihj (by omega)]; rfl
      repeat (refine ev_np [] rfl rfl rfl ?_)
      refine ev_ln rfl hv ?_
      repeat (refine ev_np [] rfl rfl rfl ?_)
      refine ev_ie (nI_ge (b := 6) hk6 (by omega)) ?_
      repeat (refine ev_np [] rfl rfl rfl ?_)
      refine ev_an rfl hv rfl hk6 rfl ?_
      rw [hc k hk6]
      repeat (refine ev_np [] rfl rfl rfl ?_)
      rw [and_bm]
      have hb : bi (nI (bm f)) k = f k := bi_bm f hk6
      have hnext : ev d t_Pairs_lacks 26 [.ref v, .int (nI (bm f)), .int (nI (bm g)), .int (nI k)] [] (hp Y F A) (some (.int (z01 (lack r f g 6))), hp Y F A) ∨ lack r f g (k + 1) = true := by
        cases hz : lack r f g (k + 1) with
        | true => exact Or.inr rfl
        | false =>
          left
          repeat (refine ev_np [2] rfl rfl rfl ?_)
          have h9 := ih (k + 1) (by omega) (fun z => by rw [hz] at z; cases z)
          rw [nI_succ] at h9
          exact h9
      have hand : bm (fun t => r k t && g t) = 0 ↔ ((List.range 6).any fun t => g t && r k t) = false := by
        rw [any6]
        simp only [Bool.and_comm]
      have hfn : lack r f g k = false := by cases hz : lack r f g k with | true => exact (hno hz).elim | false => rfl
      refine ev_if (fun c => ?_) (fun c => ?_)
      · rcases hnext with h | h
        · exact h
        · exfalso
          simp only [lack, hfn, Bool.false_or, Bool.and_eq_true, Bool.not_eq_true'] at h
          exact c (by rw [hand.mpr h.2]; rfl)
      · have c' : bm (fun t => r k t && g t) = 0 := by
          have c2 : nI (bm fun t => r k t && g t) = 0 := Classical.not_not.mp c
          exact bm_eq0.mpr (nI_bm0.mp c2)
        repeat (refine ev_np [] rfl rfl rfl ?_)
        refine ev_if (fun c2 => ?_) (fun c2 => ?_)
        · rcases hnext with h | h
          · exact h
          · exfalso
            simp only [lack, hfn, Bool.false_or, Bool.and_eq_true, Bool.not_eq_true'] at h
            rw [← hb] at h
            exact (of_decide_eq_true h.1) c2
        · have hf : f k = true := by rw [← hb]; exact decide_eq_true c2
          have hl : lack r f g 6 = true := hmono 6 hk6 (by simp only [lack, hfn, hf, hand.mp c']; rfl)
          rw [hl]
          repeat (refine ev_np [] rfl rfl rfl ?_)
          exact ev_rz rfl rfl (Or.inr rfl)
  exact key 6 0 rfl (fun z => by cases z)
theorem c_Pairs_leftLacks (hp0 : PR o) {r : Nat → Nat → Bool} (hc : CR A o r) (f g : Nat → Bool) : xa_rn xa_ms (d + 2) n_Pairs_leftLacks [.ref o, .int (nI (bm f)), .int (nI (bm g))] (hp Y F A) (some (.int (z01 (lack r f g 6)))) (hp Y F A) := by
  refine rn_in m_Pairs_leftLacks rfl ⟨rfl, rfl⟩ ?_
  show ev _ t_Pairs_leftLacks 0 [.ref o, .int (nI (bm f)), .int (nI (bm g))] [] _ _
  repeat (refine ev_np [] rfl rfl rfl ?_)
  refine ev_gr rfl hp0.2.1 rfl ?_
  repeat (refine ev_np [] rfl rfl rfl ?_)
  refine ev_ca rfl (c_Pairs_lacks d hp0.2.2.1 (fun k hk => (hc k hk).1) f g) ?_
  exact ev_rz rfl rfl (by cases lack r f g 6 <;> simp [z01])
theorem c_Pairs_rightLacks (hp0 : PR o) {r : Nat → Nat → Bool} (hc : CR A o r) (f g : Nat → Bool) : xa_rn xa_ms (d + 2) n_Pairs_rightLacks [.ref o, .int (nI (bm f)), .int (nI (bm g))] (hp Y F A) (some (.int (z01 (lack (fun a b => r b a) f g 6)))) (hp Y F A) := by
  refine rn_in m_Pairs_rightLacks rfl ⟨rfl, rfl⟩ ?_
  show ev _ t_Pairs_rightLacks 0 [.ref o, .int (nI (bm f)), .int (nI (bm g))] [] _ _
  repeat (refine ev_np [] rfl rfl rfl ?_)
  refine ev_gr rfl hp0.2.1 rfl ?_
  repeat (refine ev_np [] rfl rfl rfl ?_)
  refine ev_ca rfl (c_Pairs_lacks d hp0.2.2.2 (r := fun a b => r b a) (fun k hk => (hc k hk).2) f g) ?_
  exact ev_rz rfl rfl (by cases lack (fun a b => r b a) f g 6 <;> simp [z01])
end PAIRS
end
section
/-! ===== what the rounds are ===== -/
/-- which pairs stand: of states, and not gone -/
def rs (n1 n2 : Nat) (w : Nat → Nat) (s t : Nat) : Bool := decide (s < n1) && decide (t < n2) && decide (w (6 * s + t) = 0)
/-- by which side a pair has to go at a letter -/
def sd (g1 g2 : Nat → Nat → Nat → Nat) (r : Nat → Nat → Bool) (s t l : Nat) : Nat :=
  bif lack r (fun x => decide (1 ≤ g1 s l x)) (fun y => decide (1 ≤ g2 t l y)) 6 then 1 else bif lack (fun a b => r b a) (fun y => decide (2 ≤ g2 t l y)) (fun x => decide (2 ≤ g1 s l x)) 6 then 2 else 0
/-- the first letter with a side, of the letters from l on -/
def fl (f : Nat → Nat) : Nat := if f 0 ≠ 0 then 0 else if f 1 ≠ 0 then 1 else 2
def hg (f : Nat → Nat) : Bool := decide (f 0 ≠ 0) || decide (f 1 ≠ 0) || decide (f 2 ≠ 0)
def gok (n1 n2 : Nat) (g1 g2 : Nat → Nat → Nat → Nat) (w : Nat → Nat) (k : Nat) : Bool := rs n1 n2 w (k / 6) (k % 6) && hg (sd g1 g2 (rs n1 n2 w) (k / 6) (k % 6))
/-- one round -/
def w1 (n1 n2 : Nat) (g1 g2 : Nat → Nat → Nat → Nat) (R : Nat) (w : Nat → Nat) (k : Nat) : Nat := bif gok n1 n2 g1 g2 w k then R else w k
def wR (n1 n2 : Nat) (g1 g2 : Nat → Nat → Nat → Nat) : Nat → Nat → Nat
  | 0 => fun _ => 0
  | R + 1 => w1 n1 n2 g1 g2 (R + 1) (wR n1 n2 g1 g2 R)
theorem sd_le (g1 g2 : Nat → Nat → Nat → Nat) (r : Nat → Nat → Bool) (s t l : Nat) : sd g1 g2 r s t l ≤ 2 := by
  unfold sd
  cases lack r (fun x => decide (1 ≤ g1 s l x)) (fun y => decide (1 ≤ g2 t l y)) 6 <;> cases lack (fun a b => r b a) (fun y => decide (2 ≤ g2 t l y)) (fun x => decide (2 ≤ g1 s l x)) 6 <;> simp
section RS
variable {n1 n2 : Nat} {g1 g2 : Nat → Nat → Nat → Nat}
theorem wR_le : ∀ R k, wR n1 n2 g1 g2 R k ≤ R := by
  intro R
  induction R with
  | zero => intro k; exact Nat.le_refl 0
  | succ R ih =>
    intro k
    show w1 n1 n2 g1 g2 (R + 1) _ k ≤ _
    unfold w1
    have := ih k
    cases gok n1 n2 g1 g2 (wR n1 n2 g1 g2 R) k <;> simp <;> omega
theorem lack_congr {r r' : Nat → Nat → Bool} {f g f' g' : Nat → Bool} : ∀ n, n ≤ 6 → (∀ a b, a < 6 → b < 6 → r a b = r' a b) → (∀ a, a < 6 → f a = f' a) → (∀ a, a < 6 → g a = g' a) → lack r f g n = lack r' f' g' n := by
  intro n
  induction n with
  | zero => intros; rfl
  | succ n ih =>
    intro hn hr hf hg
    simp only [lack]
    rw [ih (by omega) hr hf hg, hf n (by omega)]
    congr 3
    rw [Bool.eq_iff_iff, List.any_eq_true, List.any_eq_true]
    constructor
    · rintro ⟨x, hx, h⟩
      exact ⟨x, hx, by rw [← hg x (List.mem_range.mp hx), ← hr n x (by omega) (List.mem_range.mp hx)]; exact h⟩
    · rintro ⟨x, hx, h⟩
      exact ⟨x, hx, by rw [hg x (List.mem_range.mp hx), hr n x (by omega) (List.mem_range.mp hx)]; exact h⟩
theorem sd_congr {r r' : Nat → Nat → Bool} (h : ∀ a b, a < 6 → b < 6 → r a b = r' a b) (s t l : Nat) : sd g1 g2 r s t l = sd g1 g2 r' s t l := by
  unfold sd
  rw [lack_congr 6 (Nat.le_refl 6) h (fun _ _ => rfl) (fun _ _ => rfl), lack_congr (r := fun a b => r b a) (r' := fun a b => r' b a) 6 (Nat.le_refl 6) (fun a b ha hb => h b a hb ha) (fun _ _ => rfl) (fun _ _ => rfl)]
theorem rs_congr {w w' : Nat → Nat} (h : ∀ k, k < 36 → (w k = 0 ↔ w' k = 0)) : ∀ a b, a < 6 → b < 6 → rs n1 n2 w a b = rs n1 n2 w' a b := by
  intro a b ha hb
  unfold rs
  rw [decide_eq_decide.mpr (h (6 * a + b) (by omega))]
theorem gok_congr {w w' : Nat → Nat} (h : ∀ k, k < 36 → (w k = 0 ↔ w' k = 0)) {k : Nat} (hk : k < 36) : gok n1 n2 g1 g2 w k = gok n1 n2 g1 g2 w' k := by
  have hr := rs_congr (n1 := n1) (n2 := n2) h
  unfold gok
  rw [hr _ _ (by omega) (by omega)]
  congr 1
  unfold hg
  rw [sd_congr hr, sd_congr hr, sd_congr hr]
/-- none goes: nothing changes any more -/
theorem wR_fix {R : Nat} (h : ∀ k, k < 36 → gok n1 n2 g1 g2 (wR n1 n2 g1 g2 R) k = false) : ∀ m k, k < 36 → wR n1 n2 g1 g2 (R + m) k = wR n1 n2 g1 g2 R k := by
  intro m
  induction m with
  | zero => intro k _; rfl
  | succ m ih =>
    intro k hk
    show w1 n1 n2 g1 g2 (R + m + 1) (wR n1 n2 g1 g2 (R + m)) k = _
    unfold w1
    rw [gok_congr (w' := wR n1 n2 g1 g2 R) (fun j hj => by rw [ih j hj]) hk, h k hk, cond_false, ih k hk]
/-- once gone, gone in that round -/
theorem wR_keep {R k : Nat} (h : wR n1 n2 g1 g2 R k ≠ 0) : ∀ m, wR n1 n2 g1 g2 (R + m) k = wR n1 n2 g1 g2 R k := by
  intro m
  induction m with
  | zero => rfl
  | succ m ih =>
    show w1 n1 n2 g1 g2 (R + m + 1) (wR n1 n2 g1 g2 (R + m)) k = _
    unfold w1 gok rs
    rw [show 6 * (k / 6) + k % 6 = k by omega, ih]
    simp [h]
/-- how many pairs stand -/
theorem cnt_lt {f g : Nat → Bool} : ∀ n, (∀ k, k < n → f k = true → g k = true) → (∃ k, k < n ∧ f k = false ∧ g k = true) → cnt f n < cnt g n := by
  intro n
  induction n with
  | zero => rintro - ⟨k, hk, -⟩; omega
  | succ n ih =>
    intro h hx
    simp only [cnt]
    have hle : ∀ n, (∀ k, k < n → f k = true → g k = true) → cnt f n ≤ cnt g n := by
      intro n
      induction n with
      | zero => intro _; exact Nat.le_refl 0
      | succ n ih2 =>
        intro h
        simp only [cnt]
        have h1 := ih2 (fun k hk => h k (by omega))
        cases hf : f n with
        | true => rw [h n (by omega) hf]; simp; exact h1
        | false => cases g n <;> simp <;> omega
    have h1 := hle n (fun k hk => h k (by omega))
    obtain ⟨k, hk, hf, hg⟩ := hx
    by_cases e : k = n
    · subst e
      rw [hf, hg]
      simp
      omega
    · have h2 := ih (fun k hk => h k (by omega)) ⟨k, by omega, hf, hg⟩
      cases hf2 : f n with
      | true => rw [h n (by omega) hf2]; simp; exact h2
      | false => cases g n <;> simp <;> omega
theorem wR_cnt : ∀ R, (∃ R0, R0 < R ∧ ∀ k, k < 36 → gok n1 n2 g1 g2 (wR n1 n2 g1 g2 R0) k = false) ∨ cnt (fun k => decide (wR n1 n2 g1 g2 R k = 0)) 36 + R ≤ 36 := by
  intro R
  induction R with
  | zero => right; have := cnt_le (fun k => decide (wR n1 n2 g1 g2 0 k = 0)) 36; omega
  | succ R ih =>
    rcases ih with ⟨R0, h1, h2⟩ | ih
    · exact Or.inl ⟨R0, by omega, h2⟩
    · by_cases hn : ∀ k, k < 36 → gok n1 n2 g1 g2 (wR n1 n2 g1 g2 R) k = false
      · exact Or.inl ⟨R, by omega, hn⟩
      · right
        obtain ⟨k, hk⟩ := Classical.not_forall.mp hn
        obtain ⟨hk36, hk⟩ := Classical.not_imp.mp hk
        have hk' : gok n1 n2 g1 g2 (wR n1 n2 g1 g2 R) k = true := by simpa using hk
        have h3 := cnt_lt (f := fun k => decide (wR n1 n2 g1 g2 (R + 1) k = 0)) (g := fun k => decide (wR n1 n2 g1 g2 R k = 0)) 36 (fun j _ hj => by
            have hj' : w1 n1 n2 g1 g2 (R + 1) (wR n1 n2 g1 g2 R) j = 0 := of_decide_eq_true hj
            unfold w1 at hj'
            cases hgj : gok n1 n2 g1 g2 (wR n1 n2 g1 g2 R) j with
            | true => rw [hgj] at hj'; simp at hj'
            | false => rw [hgj] at hj'; exact decide_eq_true hj') ⟨k, hk36, by
            apply decide_eq_false
            show ¬ w1 n1 n2 g1 g2 (R + 1) (wR n1 n2 g1 g2 R) k = 0
            unfold w1
            rw [hk']
            simp, by
            unfold gok rs at hk'
            simp only [Bool.and_eq_true, decide_eq_true_eq] at hk'
            rw [show 6 * (k / 6) + k % 6 = k by omega] at hk'
            exact decide_eq_true hk'.1.2⟩
        omega
/-- after 36 rounds none goes -/
theorem wR_end : ∀ k, k < 36 → gok n1 n2 g1 g2 (wR n1 n2 g1 g2 36) k = false := by
  intro k hk
  rcases wR_cnt (n1 := n1) (n2 := n2) (g1 := g1) (g2 := g2) 37 with ⟨R0, h1, h2⟩ | h
  · have h3 := wR_fix h2 (36 - R0)
    rw [show R0 + (36 - R0) = 36 by omega] at h3
    rw [gok_congr (w' := wR n1 n2 g1 g2 R0) (fun j hj => by rw [h3 j hj]) hk]
    exact h2 k hk
  · omega
/-- the end of all rounds -/
abbrev wE (n1 n2 : Nat) (g1 g2 : Nat → Nat → Nat → Nat) : Nat → Nat := wR n1 n2 g1 g2 37
theorem wE_of {R : Nat} (hR : R ≤ 37) (h : ∀ k, k < 36 → gok n1 n2 g1 g2 (wR n1 n2 g1 g2 R) k = false) {k : Nat} (hk : k < 36) : wE n1 n2 g1 g2 k = wR n1 n2 g1 g2 R k := by
  have := wR_fix h (37 - R) k hk
  rwa [show R + (37 - R) = 37 by omega] at this
/-- the letter and the side by which the first pair went -/
def whyL (n1 n2 : Nat) (g1 g2 : Nat → Nat → Nat → Nat) : Nat := fl (sd g1 g2 (rs n1 n2 (wR n1 n2 g1 g2 (wE n1 n2 g1 g2 0 - 1))) 0 0)
def whyS (n1 n2 : Nat) (g1 g2 : Nat → Nat → Nat → Nat) : Nat := sd g1 g2 (rs n1 n2 (wR n1 n2 g1 g2 (wE n1 n2 g1 g2 0 - 1))) 0 0 (whyL n1 n2 g1 g2)
end RS
end
section
/-! ===== class Rounds (at 45; its pairs at 46, went at 49) ===== -/
theorem dv {k e : Nat} (hk : k < 1000) (h0 : 0 < e) (he : e < 1000) : nI k / nI e = nI (k / e) := pk_div (by omega) h0 (by omega)
theorem rm {k e : Nat} (hk : k < 1000) (h0 : 0 < e) (he : e < 1000) : nI k - nI k / nI e * nI e = nI (k % e) := pk_rem (by omega) h0 (by omega)
theorem dv6 {k : Nat} (hk : k < 1000) : nI k / 6 = nI (k / 6) := dv (e := 6) hk (by decide) (by decide)
theorem rm6 {k : Nat} (hk : k < 1000) : nI k - nI k / 6 * 6 = nI (k % 6) := rm (e := 6) hk (by decide) (by decide)
/-- the cells of plans aren't among these -/
def plF (LF LA : List Nat) : Bool := [11, 14, 17, 20, 23, 26, 29, 59].all fun p => !(LF.contains (p * 100)) && !(LA.contains (p + 1)) && !(LA.contains (p + 2))
theorem CP.keep {F A F' A' : Nat → Nat → Int32} {p n : Nat} {g : Nat → Nat → Nat → Nat} {LF LA : List Nat} (h : CP F A p n g) (hp0 : PL p) (hF : sF LF F F') (hA : sA LA A A') (hk : plF LF LA = true) : CP F' A' p n g := by
  have h1 : (!(LF.contains (p * 100)) && !(LA.contains (p + 1)) && !(LA.contains (p + 2))) = true := List.all_eq_true.mp hk p (by
    rcases PL_in hp0 with rfl | rfl | rfl | rfl | rfl | rfl | rfl | rfl <;> decide)
  simp only [Bool.and_eq_true, Bool.not_eq_true', List.contains_eq_mem, decide_eq_false_iff_not] at h1
  exact h.frame (hF p 0 h1.1.1) (hA _ h1.1.2) (hA _ h1.2)
section ROUNDS
variable {Y : Nat × (Nat → Int32)} {F A : Nat → Nat → Int32} {p q n1 n2 : Nat} {g1 g2 : Nat → Nat → Nat → Nat} (d : Nat)
theorem c_Rounds_sideOf (hp0 : PL p) (hq0 : PL q) (hcp : CP F A p n1 g1) (hcq : CP F A q n2 g2) {r : Nat → Nat → Bool} (hc : CR A 46 r) {s t l : Nat} (hs : s < 6) (ht : t < 6) (hl : l < 3) : xa_rn xa_ms (d + 3) n_Rounds_sideOf [.ref 45, .ref p, .ref q, .int (nI s), .int (nI t), .int (nI l)] (hp Y F A) (some (.int (nI (sd g1 g2 r s t l)))) (hp Y F A) := by
  refine rn_in m_Rounds_sideOf rfl ⟨rfl, rfl⟩ ?_
  show ev _ t_Rounds_sideOf 0 [.ref 45, .ref p, .ref q, .int (nI s), .int (nI t), .int (nI l)] [] _ _
  repeat (refine ev_np [] rfl rfl rfl ?_)
  refine ev_gr rfl (by rfl) (by rfl) ?_
  repeat (refine ev_np [] rfl rfl rfl ?_)
  refine ev_vc rfl rfl hp0.1 rfl (c_Plan_anyFrom d hp0 hs hl) ?_
  repeat (refine ev_np [] rfl rfl rfl ?_)
  refine ev_vc rfl rfl hq0.1 rfl (c_Plan_anyFrom d hq0 ht hl) ?_
  rw [(hcp.2 s l hs hl).1, (hcq.2 t l ht hl).1]
  refine ev_vc rfl rfl PR46.2.1 rfl (c_Pairs_leftLacks d PR46 hc _ _) ?_
  unfold sd
  cases lack r (fun x => decide (1 ≤ g1 s l x)) (fun y => decide (1 ≤ g2 t l y)) 6 with
  | true =>
    repeat (refine ev_np [] rfl rfl rfl ?_)
    exact ev_ri rfl rfl
  | false =>
    repeat (refine ev_np [] rfl rfl rfl ?_)
    refine ev_gr rfl (by rfl) (by rfl) ?_
    repeat (refine ev_np [] rfl rfl rfl ?_)
    refine ev_vc rfl rfl hq0.1 rfl (c_Plan_mustFrom d hq0 ht hl) ?_
    repeat (refine ev_np [] rfl rfl rfl ?_)
    refine ev_vc rfl rfl hp0.1 rfl (c_Plan_mustFrom d hp0 hs hl) ?_
    rw [(hcp.2 s l hs hl).2, (hcq.2 t l ht hl).2]
    refine ev_vc rfl rfl PR46.2.1 rfl (c_Pairs_rightLacks d PR46 hc _ _) ?_
    cases lack (fun a b => r b a) (fun y => decide (2 ≤ g2 t l y)) (fun x => decide (2 ≤ g1 s l x)) 6 with
    | true =>
      repeat (refine ev_np [] rfl rfl rfl ?_)
      exact ev_ri rfl rfl
    | false =>
      repeat (refine ev_np [] rfl rfl rfl ?_)
      exact ev_ri rfl rfl
theorem hg_iff {f : Nat → Nat} : hg f = true ↔ ∃ l, l < 3 ∧ f l ≠ 0 := by
  unfold hg
  simp only [Bool.or_eq_true, decide_eq_true_eq]
  constructor
  · rintro ((h | h) | h)
    · exact ⟨0, by omega, h⟩
    · exact ⟨1, by omega, h⟩
    · exact ⟨2, by omega, h⟩
  · rintro ⟨l, hl, h⟩
    rcases (show l = 0 ∨ l = 1 ∨ l = 2 by omega) with rfl | rfl | rfl
    · exact Or.inl (Or.inl h)
    · exact Or.inl (Or.inr h)
    · exact Or.inr h
theorem fl_eq {f : Nat → Nat} {l : Nat} (hl : l < 3) (h : f l ≠ 0) (h0 : ∀ j, j < l → f j = 0) : fl f = l := by
  unfold fl
  rcases (show l = 0 ∨ l = 1 ∨ l = 2 by omega) with rfl | rfl | rfl
  · rw [if_pos h]
  · rw [if_neg (by simp [h0 0 (by omega)]), if_pos h]
  · rw [if_neg (by simp [h0 0 (by omega)]), if_neg (by simp [h0 1 (by omega)])]
/-- what hasToGo leaves of the letter and the side -/
def gF (F : Nat → Nat → Int32) (s t : Nat) (f : Nat → Nat) : Nat → Nat → Int32 := if s = 0 ∧ t = 0 ∧ hg f = true then uF (uF F 45 2 (nI (fl f))) 45 3 (nI (f (fl f))) else F
theorem c_Rounds_hasToGo (hp0 : PL p) (hq0 : PL q) (hcp : CP F A p n1 g1) (hcq : CP F A q n2 g2) {r : Nat → Nat → Bool} (hc : CR A 46 r) {s t : Nat} (hs : s < 6) (ht : t < 6) : xa_rn xa_ms (d + 4) n_Rounds_hasToGo [.ref 45, .ref p, .ref q, .int (nI s), .int (nI t)] (hp Y F A) (some (.int (z01 (hg (sd g1 g2 r s t))))) (hp Y (gF F s t (sd g1 g2 r s t)) A) := by
  refine rn_in m_Rounds_hasToGo rfl ⟨rfl, rfl⟩ ?_
  show ev _ t_Rounds_hasToGo 0 [.ref 45, .ref p, .ref q, .int (nI s), .int (nI t), .float 0, .float 0] [] _ _
  repeat (refine ev_np [3] rfl rfl rfl ?_)
  have key : ∀ m l (v6 : Value), l + m = 3 → (∀ j, j < l → sd g1 g2 r s t j = 0) → ev (d + 3) t_Rounds_hasToGo 3 [.ref 45, .ref p, .ref q, .int (nI s), .int (nI t), .int (nI l), v6] [] (hp Y F A) (some (.int (z01 (hg (sd g1 g2 r s t)))), hp Y (gF F s t (sd g1 g2 r s t)) A) := by
    intro m
    induction m with
    | zero =>
      intro l v6 hl h0
      have hl3 : l = 3 := by omega
      subst hl3
      have hno : hg (sd g1 g2 r s t) = false := by
        cases hz : hg (sd g1 g2 r s t) with
        | false => rfl
        | true =>
          obtain ⟨l, hl, h⟩ := hg_iff.mp hz
          exact absurd (h0 l hl) h
      have hgF : gF F s t (sd g1 g2 r s t) = F := by unfold gF; rw [hno]; simp
      rw [hno, hgF]
      repeat (refine ev_np [] rfl rfl rfl ?_)
      exact ev_rz rfl rfl (Or.inl rfl)
    | succ m ih =>
      intro l v6 hl h0
      have hl3 : l < 3 := by omega
      repeat (refine ev_np [] rfl rfl rfl ?_)
      refine ev_ie (nI_ge (b := 3) hl3 (by omega)) ?_
      repeat (refine ev_np [] rfl rfl rfl ?_)
      refine ev_vc rfl (by rfl) (by rfl) rfl (c_Rounds_sideOf d hp0 hq0 hcp hcq hc hs ht hl3) ?_
      repeat (refine ev_np [] rfl rfl rfl ?_)
      have hle := sd_le g1 g2 r s t l
      by_cases hz : sd g1 g2 r s t l = 0
      · rw [hz]
        repeat (refine ev_np [3] rfl rfl rfl ?_)
        have h9 := ih (l + 1) (.int (nI 0)) (by omega) (fun j hj => by
          by_cases e : j = l
          · rw [e]; exact hz
          · exact h0 j (by omega))
        rw [nI_succ] at h9
        exact h9
      · have hyes : hg (sd g1 g2 r s t) = true := hg_iff.mpr ⟨l, hl3, hz⟩
        have hfl : fl (sd g1 g2 r s t) = l := fl_eq hl3 hz h0
        rw [hyes]
        refine ev_ie (nI_ne0 (by omega) (by omega)) ?_
        repeat (refine ev_np [] rfl rfl rfl ?_)
        by_cases hs0 : s = 0
        · subst hs0
          refine ev_ie (fun z => z rfl) ?_
          repeat (refine ev_np [] rfl rfl rfl ?_)
          by_cases ht0 : t = 0
          · subst ht0
            have hgF : gF F 0 0 (sd g1 g2 r 0 0) = uF (uF F 45 2 (nI l)) 45 3 (nI (sd g1 g2 r 0 0 l)) := by unfold gF; rw [hyes, hfl]; simp
            rw [hgF]
            refine ev_ie (fun z => z rfl) ?_
            repeat (refine ev_np [] rfl rfl rfl ?_)
            refine ev_pf rfl (by rfl) ⟨by rfl, by rfl⟩ ?_
            repeat (refine ev_np [] rfl rfl rfl ?_)
            refine ev_pf rfl (by rfl) ⟨by rfl, by rfl⟩ ?_
            repeat (refine ev_np [] rfl rfl rfl ?_)
            exact ev_rz rfl rfl (Or.inr rfl)
          · have hgF : gF F 0 t (sd g1 g2 r 0 t) = F := by unfold gF; simp [ht0]
            rw [hgF]
            refine ev_it (nI_ne0 (by omega) (by omega)) ?_
            repeat (refine ev_np [] rfl rfl rfl ?_)
            exact ev_rz rfl rfl (Or.inr rfl)
        · have hgF : gF F s t (sd g1 g2 r s t) = F := by unfold gF; simp [hs0]
          rw [hgF]
          refine ev_it (nI_ne0 (by omega) (by omega)) ?_
          repeat (refine ev_np [] rfl rfl rfl ?_)
          exact ev_rz rfl rfl (Or.inr rfl)
  exact key 3 0 (.float 0) rfl (fun j hj => by omega)
theorem c_Rounds_dropThoseOf {R : Nat} (hR : R < 1000) {w : Nat → Nat} (hw : ∀ k, k < 36 → A 49 k = nI (w k) ∧ w k < 1000) {r : Nat → Nat → Bool} (hc : CR A 46 r) : ∃ A', xa_rn xa_ms (d + 3) n_Rounds_dropThoseOf [.ref 45, .int (nI R)] (hp Y F A) none (hp Y F A') ∧ sA [47, 48] A A' ∧ CR A' 46 (fun s t => r s t && !(decide (w (6 * s + t) = R))) := by
  obtain ⟨A', ⟨h1, h2⟩, h3⟩ := lp_ex (α := Nat → Nat → Int32) (fun k B => sA [47, 48] A B ∧ CR B 46 (fun s t => r s t && !(decide (6 * s + t < k) && decide (w (6 * s + t) = R)))) (fun k B q => ev (d + 2) t_Rounds_dropThoseOf 2 [.ref 45, .int (nI R), .int (nI k)] [] (hp Y F B) q) 36 (fun k B hk hI => by
    obtain ⟨hs, hr⟩ := hI
    have hw49 : B 49 = A 49 := hs 49 (by decide)
    have hst : ∀ {x y : Bool}, (x && !(y && y)) = (x && !y) := by intro x y; cases x <;> cases y <;> rfl
    by_cases e : w k = R
    · obtain ⟨B', h1, h2, h3⟩ := c_Pairs_drop (Y := Y) (F := F) (A := B) (d := d) PR46 hr (s := k / 6) (t := k % 6) (by omega) (by omega)
      refine ⟨B', ⟨hs.tr h2, h3.congr (fun s t hs ht => ?_)⟩, fun q hq => ?_⟩
      · by_cases e2 : 6 * s + t = k
        · subst e2
          rw [show (6 * s + t) / 6 = s by omega, show (6 * s + t) % 6 = t by omega]
          simp [e]
        · have e3 : ¬ (s = k / 6 ∧ t = k % 6) := fun z => e2 (by omega)
          have e4 : (s == k / 6 && t == k % 6) = false := by
            cases hz : (s == k / 6 && t == k % 6) with
            | false => rfl
            | true => simp at hz; exact absurd hz e3
          rw [e4]
          have e5 : decide (6 * s + t < k + 1) = decide (6 * s + t < k) := decide_eq_decide.mpr (by omega)
          rw [e5]
          simp
      · repeat (refine ev_np [] rfl rfl rfl ?_)
        refine ev_gr rfl (by rfl) (by rfl) ?_
        repeat (refine ev_np [] rfl rfl rfl ?_)
        refine ev_ln rfl (by rfl) ?_
        repeat (refine ev_np [] rfl rfl rfl ?_)
        refine ev_ie (nI_ge (b := 36) hk (by omega)) ?_
        repeat (refine ev_np [] rfl rfl rfl ?_)
        refine ev_gr rfl (by rfl) (by rfl) ?_
        repeat (refine ev_np [] rfl rfl rfl ?_)
        refine ev_an rfl (by rfl) rfl hk rfl ?_
        rw [hw49, (hw k hk).1, e]
        repeat (refine ev_np [] rfl rfl rfl ?_)
        refine ev_ie (fun z => z rfl) ?_
        repeat (refine ev_np [] rfl rfl rfl ?_)
        refine ev_gr rfl (by rfl) (by rfl) ?_
        repeat (refine ev_np [] rfl rfl rfl ?_)
        rw [rm6 (by omega), dv6 (by omega)]
        refine ev_vc rfl (by rfl) (by rfl) rfl (h1) ?_
        repeat (refine ev_np [2] rfl rfl rfl ?_)
        rw [nI_succ] at hq
        exact hq
    · refine ⟨B, ⟨hs, hr.congr (fun s t hs ht => ?_)⟩, fun q hq => ?_⟩
      · by_cases e2 : 6 * s + t = k
        · have e6 : ¬ w (6 * s + t) = R := by rw [e2]; exact e
          simp [e6]
        · have e5 : decide (6 * s + t < k + 1) = decide (6 * s + t < k) := decide_eq_decide.mpr (by omega)
          rw [e5]
      · repeat (refine ev_np [] rfl rfl rfl ?_)
        refine ev_gr rfl (by rfl) (by rfl) ?_
        repeat (refine ev_np [] rfl rfl rfl ?_)
        refine ev_ln rfl (by rfl) ?_
        repeat (refine ev_np [] rfl rfl rfl ?_)
        refine ev_ie (nI_ge (b := 36) hk (by omega)) ?_
        repeat (refine ev_np [] rfl rfl rfl ?_)
        refine ev_gr rfl (by rfl) (by rfl) ?_
        repeat (refine ev_np [] rfl rfl rfl ?_)
        refine ev_an rfl (by rfl) rfl hk rfl ?_
        rw [hw49, (hw k hk).1]
        repeat (refine ev_np [] rfl rfl rfl ?_)
        refine ev_it (fun z => e ((nI_eq (by have := (hw k hk).2; omega) (by omega)).mp z)) ?_
        repeat (refine ev_np [2] rfl rfl rfl ?_)
        rw [nI_succ] at hq
        exact hq) 36 0 A rfl ⟨sA.rf, hc.congr (fun s t _ _ => by simp)⟩
  refine ⟨A', ?_, h1, h2.congr (fun s t hs ht => ?_)⟩
  · refine rn_in m_Rounds_dropThoseOf rfl ⟨rfl, rfl⟩ ?_
    show ev _ t_Rounds_dropThoseOf 0 [.ref 45, .int (nI R), .float 0] [] _ _
    repeat (refine ev_np [2] rfl rfl rfl ?_)
    refine h3 _ ?_
    repeat (refine ev_np [] rfl rfl rfl ?_)
    refine ev_gr rfl (by rfl) (by rfl) ?_
    repeat (refine ev_np [] rfl rfl rfl ?_)
    refine ev_ln rfl (by rfl) ?_
    repeat (refine ev_np [] rfl rfl rfl ?_)
    exact ev_rv rfl
  · have : 6 * s + t < 36 := by omega
    simp [this]
end ROUNDS
end
section
/-! ===== fills; a round; all rounds ===== -/
section FILL
variable {Y : Nat × (Nat → Int32)} {F A : Nat → Nat → Int32} (d : Nat)
theorem c_Arr_fill {v n : Nat} (hv : lo_at v = some (.inl n)) (hn : n < 1000) (x : Int32) : xa_rn xa_ms (d + 1) n_Arr_fill [.ref v, .int x] (hp Y F A) none (hp Y F (va_up A v (fun j => if j < n then x else A v j))) := by
  refine rn_in m_Arr_fill rfl ⟨rfl, rfl⟩ ?_
  show ev _ t_Arr_fill 0 [.ref v, .int x, .float 0, .float 0] [] _ _
  repeat (refine ev_np [] rfl rfl rfl ?_)
  refine ev_ln rfl hv ?_
  repeat (refine ev_np [5] rfl rfl rfl ?_)
  have h0 : A = va_up A v (fun j => if j < 0 then x else A v j) := by
    have : (fun j => if j < 0 then x else A v j) = A v := by funext j; simp
    rw [this, va_up_id]
  refine (congrArg (fun B => ev d t_Arr_fill 5 [.ref v, .int x, .int 0, .int (nI n)] [] (hp Y F B) _) h0).mpr ?_
  refine lp_to (E := fun k q => ev d t_Arr_fill 5 [.ref v, .int x, .int (nI k), .int (nI n)] [] (hp Y F (va_up A v (fun j => if j < k then x else A v j))) q) n (fun k hk q hq => ?_) _ ?_
  · repeat (refine ev_np [] rfl rfl rfl ?_)
    refine ev_ie (nI_ge hk (by omega)) ?_
    repeat (refine ev_np [] rfl rfl rfl ?_)
    refine ev_am rfl hv rfl hk (by simp [Nat.blt]; omega) ?_
    repeat (refine ev_np [5] rfl rfl rfl ?_)
    rw [bx_uu, va_up_s]
    have e1 : upd (fun j => if j < k then x else A v j) k x = fun j => if j < k + 1 then x else A v j := by
      funext j
      unfold upd
      by_cases e : j = k
      · simp [e]
      · by_cases e2 : j < k
        · simp [e, e2, show j < k + 1 by omega]
        · simp [e, e2, show ¬ j < k + 1 by omega]
    rw [e1]
    rw [nI_succ] at hq
    exact hq
  · repeat (refine ev_np [] rfl rfl rfl ?_)
    refine ev_it (nI_le (Nat.le_refl n) (by omega)) ?_
    exact ev_rv rfl
theorem low_tab : (List.range 7).all (fun n => (List.range 1).all fun _ => decide (((1 : Int32) <<< (nI n &&& 31)) - 1 = nI (bm (fun t => decide (t < n))))) = true := by decide +kernel
theorem low_bm {n : Nat} (h : n ≤ 6) : ((1 : Int32) <<< (nI n &&& 31)) - 1 = nI (bm (fun t => decide (t < n))) := tab2 (P := fun n _ => ((1 : Int32) <<< (nI n &&& 31)) - 1 = nI (bm (fun t => decide (t < n)))) low_tab (show n < 7 by omega) (show 0 < 1 by decide)
theorem c_Pairs_fill {o : Nat} (hp0 : PR o) {n1 n2 : Nat} (h1 : n1 ≤ 6) (h2 : n2 ≤ 6) : ∃ A', xa_rn xa_ms (d + 1) n_Pairs_fill [.ref o, .int (nI n1), .int (nI n2)] (hp Y F A) none (hp Y F A') ∧ sA [o + 1, o + 2] A A' ∧ CR A' o (fun s t => decide (s < n1) && decide (t < n2)) := by
  have n12 : ¬ o + 1 = o + 2 := by omega
  have n21 : ¬ o + 2 = o + 1 := by omega
  have hz : ∀ (b : Nat → Bool), (0 : Int32) = nI (bm (fun t => false && b t)) := fun b => rfl
  obtain ⟨A', ⟨g1, g2⟩, g3⟩ := lp_ex (α := Nat → Nat → Int32) (fun k B => sA [o + 1, o + 2] A B ∧ ∀ j, j < k → B (o + 1) j = nI (bm (fun t => decide (j < n1) && decide (t < n2))) ∧ B (o + 2) j = nI (bm (fun s => decide (s < n1) && decide (j < n2)))) (fun k B q => ev d t_Pairs_fill 2 [.ref o, .int (nI n1), .int (nI n2), .int (nI k)] [] (hp Y F B) q) 6 (fun k B hk hI => by
    obtain ⟨hs, hr⟩ := hI
    refine ⟨va_up (va_up B (o + 1) (upd (B (o + 1)) k (nI (bm (fun t => decide (k < n1) && decide (t < n2)))))) (o + 2) (upd (B (o + 2)) k (nI (bm (fun s => decide (s < n1) && decide (k < n2))))), ⟨hs.tr ((sA.up (by simp)).tr (sA.up (by simp))), fun j hj => ?_⟩, fun q hq => ?_⟩
    · rw [va_up_n _ _ n12, va_up_s, va_up_s]
      unfold upd
      by_cases e : j = k
      · subst e; simp
      · rw [if_neg e, if_neg e]; exact hr j (by omega)
    · repeat (refine ev_np [] rfl rfl rfl ?_)
      refine ev_ie (nI_ge (b := 6) hk (by omega)) ?_
      repeat (refine ev_np [] rfl rfl rfl ?_)
      refine ev_gr rfl hp0.2.1 rfl ?_
      repeat (refine ev_np [] rfl rfl rfl ?_)
      have hsecond : ∀ (v : Int32), v = nI (bm (fun t => decide (k < n1) && decide (t < n2))) → ev d t_Pairs_fill 27 [.ref o, .int (nI n1), .int (nI n2), .int (nI k)] [.int v, .int (nI k), .ref (o + 1)] (hp Y F B) q := by
        intro v hv
        subst hv
        refine ev_am rfl hp0.2.2.1 rfl hk rfl ?_
        repeat (refine ev_np [] rfl rfl rfl ?_)
        refine ev_gr rfl hp0.2.1 rfl ?_
        repeat (refine ev_np [] rfl rfl rfl ?_)
        have hthird : ∀ (v : Int32), v = nI (bm (fun s => decide (s < n1) && decide (k < n2))) → ev d t_Pairs_fill 47 [.ref o, .int (nI n1), .int (nI n2), .int (nI k)] [.int v, .int (nI k), .ref (o + 2)] (hp Y F (va_up B (o + 1) (upd (B (o + 1)) k (nI (bm (fun t => decide (k < n1) && decide (t < n2))))))) q := by
          intro v hv
          subst hv
          refine ev_am rfl hp0.2.2.2 rfl hk rfl ?_
          repeat (refine ev_np [2] rfl rfl rfl ?_)
          rw [va_up_n _ _ n21]
          rw [nI_succ] at hq
          exact hq
        by_cases hk2 : k < n2
        · refine ev_ie (nI_ge hk2 (by omega)) ?_
          repeat (refine ev_np [] rfl rfl rfl ?_)
          exact hthird _ (by rw [low_bm h1]; exact congrArg nI (bm_congr fun t _ => by simp [hk2]))
        · refine ev_it (nI_le (by omega) (by omega)) ?_
          repeat (refine ev_np [] rfl rfl rfl ?_)
          exact hthird _ (by rw [show (0 : Int32) = nI (bm (fun _ => false)) from rfl]; exact congrArg nI (bm_congr fun t _ => by simp [hk2]))
      by_cases hk1 : k < n1
      · refine ev_ie (nI_ge hk1 (by omega)) ?_
        repeat (refine ev_np [] rfl rfl rfl ?_)
        exact hsecond _ (by rw [low_bm h2]; exact congrArg nI (bm_congr fun t _ => by simp [hk1]))
      · refine ev_it (nI_le (by omega) (by omega)) ?_
        repeat (refine ev_np [] rfl rfl rfl ?_)
        exact hsecond _ (by rw [show (0 : Int32) = nI (bm (fun _ => false)) from rfl]; exact congrArg nI (bm_congr fun t _ => by simp [hk1]))) 6 0 A rfl ⟨sA.rf, fun j hj => by omega⟩
  refine ⟨A', ?_, g1, fun k hk => g2 k hk⟩
  refine rn_in m_Pairs_fill rfl ⟨rfl, rfl⟩ ?_
  show ev _ t_Pairs_fill 0 [.ref o, .int (nI n1), .int (nI n2), .float 0] [] _ _
  repeat (refine ev_np [2] rfl rfl rfl ?_)
  refine g3 _ ?_
  repeat (refine ev_np [] rfl rfl rfl ?_)
  exact ev_rv rfl
end FILL
section PLAY
variable {Y : Nat × (Nat → Int32)} {F A : Nat → Nat → Int32} {p q n1 n2 : Nat} {g1 g2 : Nat → Nat → Nat → Nat} (d : Nat)
/-- what the rounds hold -/
def WE (A : Nat → Nat → Int32) (o : Nat) (w : Nat → Nat) : Prop := ∀ k, k < 36 → A o k = nI (w k)
theorem anyB (f : Nat → Bool) (n : Nat) : (List.range (n + 1)).any f = ((List.range n).any f || f n) := by
  rw [List.range_succ, List.any_append]
  simp
theorem gF_sF (F : Nat → Nat → Int32) (s t : Nat) (f : Nat → Nat) : sF [4502, 4503] F (gF F s t f) := by
  unfold gF
  split
  · exact (sF.up (by decide)).tr (sF.up (by decide))
  · exact sF.rf
theorem c_Rounds_playOne (hp0 : PL p) (hq0 : PL q) (hcp : CP F A p n1 g1) (hcq : CP F A q n2 g2) {R : Nat} (hR : R < 900) {w : Nat → Nat} (hw : WE A 49 w) (hwl : ∀ k, w k < R) (hc : CR A 46 (rs n1 n2 w)) : ∃ F' A', xa_rn xa_ms (d + 5) n_Rounds_playOne [.ref 45, .ref p, .ref q, .int (nI R)] (hp Y F A) (some (.int (z01 ((List.range 36).any (gok n1 n2 g1 g2 w))))) (hp Y F' A') ∧ sA [47, 48, 49] A A' ∧ sF [4502, 4503] F F' ∧ WE A' 49 (w1 n1 n2 g1 g2 R w) ∧ CR A' 46 (rs n1 n2 (w1 n1 n2 g1 g2 R w)) ∧ F' = (if gok n1 n2 g1 g2 w 0 = true then gF F 0 0 (sd g1 g2 (rs n1 n2 w) 0 0) else F) := by
  obtain ⟨⟨F1, A1⟩, ⟨h1, h2, h3⟩, h4⟩ := lp_ex (α := (Nat → Nat → Int32) × (Nat → Nat → Int32)) (fun k X => sA [49] A X.2 ∧ X.1 = (if 0 < k ∧ gok n1 n2 g1 g2 w 0 = true then gF F 0 0 (sd g1 g2 (rs n1 n2 w) 0 0) else F) ∧ ∀ j, j < 36 → X.2 49 j = nI (if j < k then w1 n1 n2 g1 g2 R w j else w j)) (fun k X q0 => ∀ v6 v7 : Value, ev (d + 4) t_Rounds_playOne 6 [.ref 45, .ref p, .ref q, .int (nI R), .int (z01 ((List.range k).any (gok n1 n2 g1 g2 w))), .int (nI k), v6, v7] [] (hp Y X.1 X.2) q0) 36 (fun k X hk hI => by
    obtain ⟨B, C⟩ := X
    obtain ⟨hs, hF, hW⟩ := hI
    dsimp only at hs hF hW
    have hsF : sF [4502, 4503] F B := by
      rw [hF]
      split
      · exact gF_sF F 0 0 _
      · exact sF.rf
    have hcp' : CP B C p n1 g1 := hcp.keep hp0 hsF hs rfl
    have hcq' : CP B C q n2 g2 := hcq.keep hq0 hsF hs rfl
    have hc' : CR C 46 (rs n1 n2 w) := hc.frame (hs 47 (by decide)) (hs 48 (by decide))
    have hgk : gok n1 n2 g1 g2 w k = (rs n1 n2 w (k / 6) (k % 6) && hg (sd g1 g2 (rs n1 n2 w) (k / 6) (k % 6))) := rfl
    have hlen : ∀ (q0 : xa_R) (v6 v7 : Value) (a : Int32), (ev (d + 4) t_Rounds_playOne 44 [.ref 45, .ref p, .ref q, .int (nI R), .int a, .int (nI k), .int (nI (k / 6)), .int (nI (k % 6))] [] (hp Y B C) q0 ∨ rs n1 n2 w (k / 6) (k % 6) = false) → (ev (d + 4) t_Rounds_playOne 68 [.ref 45, .ref p, .ref q, .int (nI R), .int a, .int (nI k), .int (nI (k / 6)), .int (nI (k % 6))] [] (hp Y B C) q0 ∨ rs n1 n2 w (k / 6) (k % 6) = true) → ev (d + 4) t_Rounds_playOne 6 [.ref 45, .ref p, .ref q, .int (nI R), .int a, .int (nI k), v6, v7] [] (hp Y B C) q0 := by
      intro q0 v6 v7 a hA hB
      repeat (refine ev_np [] rfl rfl rfl ?_)
      refine ev_gr rfl (by rfl) (by rfl) ?_
      repeat (refine ev_np [] rfl rfl rfl ?_)
      refine ev_ln rfl (by rfl) ?_
      repeat (refine ev_np [] rfl rfl rfl ?_)
      refine ev_ie (nI_ge (b := 36) hk (by omega)) ?_
      repeat (refine ev_np [] rfl rfl rfl ?_)
      rw [rm6 (by omega), dv6 (by omega)]
      refine ev_gr rfl (by rfl) (by rfl) ?_
      repeat (refine ev_np [] rfl rfl rfl ?_)
      refine ev_vc rfl (by rfl) (by rfl) rfl (c_Pairs_has (d + 2) PR46 hc' (by omega) (by omega)) ?_
      cases hr : rs n1 n2 w (k / 6) (k % 6) with
      | true =>
        rcases hA with h | h
        · repeat (refine ev_np [44] rfl rfl rfl ?_)
          exact h
        · rw [hr] at h; cases h
      | false =>
        rcases hB with h | h
        · repeat (refine ev_np [68] rfl rfl rfl ?_)
          exact h
        · rw [hr] at h; cases h
    have hback : ∀ (q0 : xa_R) (a : Int32) (B C : Nat → Nat → Int32), (∀ v6 v7 : Value, ev (d + 4) t_Rounds_playOne 6 [.ref 45, .ref p, .ref q, .int (nI R), .int a, .int (nI (k + 1)), v6, v7] [] (hp Y B C) q0) → ev (d + 4) t_Rounds_playOne 68 [.ref 45, .ref p, .ref q, .int (nI R), .int a, .int (nI k), .int (nI (k / 6)), .int (nI (k % 6))] [] (hp Y B C) q0 := by
      intro q0 a B C h
      repeat (refine ev_np [6] rfl rfl rfl ?_)
      have h9 := h (.int (nI (k / 6))) (.int (nI (k % 6)))
      rw [nI_succ] at h9
      exact h9
    have hFn : ∀ (G : Nat → Nat → Int32), (k ≠ 0 → G = B) → (k = 0 → G = (if gok n1 n2 g1 g2 w 0 = true then gF F 0 0 (sd g1 g2 (rs n1 n2 w) 0 0) else F)) → G = (if 0 < k + 1 ∧ gok n1 n2 g1 g2 w 0 = true then gF F 0 0 (sd g1 g2 (rs n1 n2 w) 0 0) else F) := by
      intro G hG1 hG2
      by_cases e : k = 0
      · rw [hG2 e]; simp
      · rw [hG1 e, hF]; simp [show 0 < k by omega]
    cases hgo : gok n1 n2 g1 g2 w k with
    | false =>
      have hwk : w1 n1 n2 g1 g2 R w k = w k := by unfold w1; rw [hgo]; rfl
      have hWn : ∀ j, j < 36 → C 49 j = nI (if j < k + 1 then w1 n1 n2 g1 g2 R w j else w j) := by
        intro j hj
        rw [hW j hj]
        by_cases e : j = k
        · subst e; simp [hwk]
        · by_cases e2 : j < k
          · simp [e2, show j < k + 1 by omega]
          · simp [e2, show ¬ j < k + 1 by omega]
      have hany : (List.range (k + 1)).any (gok n1 n2 g1 g2 w) = (List.range k).any (gok n1 n2 g1 g2 w) := by rw [anyB, hgo]; simp
      cases hr : rs n1 n2 w (k / 6) (k % 6) with
      | false =>
        refine ⟨(B, C), ⟨hs, hFn B (fun _ => rfl) (fun e => by rw [hF]; subst e; rw [hgo]; simp), hWn⟩, fun q0 h v6 v7 => ?_⟩
        rw [hany] at h
        exact hlen q0 v6 v7 _ (Or.inr hr) (Or.inl (hback q0 _ B C h))
      | true =>
        rw [hgk, hr, Bool.true_and] at hgo
        have hgF0 : gF B (k / 6) (k % 6) (sd g1 g2 (rs n1 n2 w) (k / 6) (k % 6)) = B := by unfold gF; rw [hgo]; simp
        refine ⟨(B, C), ⟨hs, hFn B (fun _ => rfl) (fun e => by rw [hF]; subst e; simp [gok, hgo]), hWn⟩, fun q0 h v6 v7 => ?_⟩
        rw [hany] at h
        refine hlen q0 v6 v7 _ (Or.inl ?_) (Or.inr hr)
        repeat (refine ev_np [] rfl rfl rfl ?_)
        have hc9 := c_Rounds_hasToGo (Y := Y) d hp0 hq0 hcp' hcq' hc' (s := k / 6) (t := k % 6) (by omega) (by omega)
        rw [hgF0, hgo] at hc9
        refine ev_vc rfl (by rfl) (by rfl) rfl (hc9) ?_
        repeat (refine ev_np [68] rfl rfl rfl ?_)
        exact hback q0 _ B C h
    | true =>
      have hwk : w1 n1 n2 g1 g2 R w k = R := by unfold w1; rw [hgo]; rfl
      have hany : (List.range (k + 1)).any (gok n1 n2 g1 g2 w) = true := by rw [anyB, hgo]; simp
      rw [hgk, Bool.and_eq_true] at hgo
      refine ⟨(gF B (k / 6) (k % 6) (sd g1 g2 (rs n1 n2 w) (k / 6) (k % 6)), va_up C 49 (upd (C 49) k (nI R))), ⟨hs.tr (sA.up (by decide)), hFn _ (fun e => ?_) (fun e => ?_), fun j hj => ?_⟩, fun q0 h v6 v7 => ?_⟩
      · unfold gF
        rw [if_neg (fun z => e (by omega))]
      · subst e
        rw [hF]
        simp [gok, hgo.1, hgo.2]
      · have e9 : va_up C 49 (upd (C 49) k (nI R)) 49 = upd (C 49) k (nI R) := va_up_s _ _ _
        show va_up C 49 (upd (C 49) k (nI R)) 49 j = _
        rw [e9]
        unfold upd
        by_cases e : j = k
        · subst e; simp [hwk]
        · rw [if_neg e, hW j hj]
          by_cases e2 : j < k
          · simp [e2, show j < k + 1 by omega]
          · simp [e2, show ¬ j < k + 1 by omega]
      · rw [hany] at h
        refine hlen q0 v6 v7 _ (Or.inl ?_) (Or.inr hgo.1)
        repeat (refine ev_np [] rfl rfl rfl ?_)
        have hc9 := c_Rounds_hasToGo (Y := Y) d hp0 hq0 hcp' hcq' hc' (s := k / 6) (t := k % 6) (by omega) (by omega)
        rw [hgo.2] at hc9
        refine ev_vc rfl (by rfl) (by rfl) rfl (hc9) ?_
        repeat (refine ev_np [] rfl rfl rfl ?_)
        refine ev_gr rfl (by rfl) (by rfl) ?_
        repeat (refine ev_np [] rfl rfl rfl ?_)
        refine ev_am rfl (by rfl) rfl hk rfl ?_
        repeat (refine ev_np [68] rfl rfl rfl ?_)
        exact hback q0 1 _ _ h) 36 0 (F, A) rfl ⟨sA.rf, by simp, fun j hj => by show A 49 j = _; rw [hw j hj]; simp⟩
  dsimp only at h1 h2 h3 h4
  have hW1 : ∀ k, k < 36 → A1 49 k = nI (w1 n1 n2 g1 g2 R w k) := fun k hk => by rw [h3 k hk]; simp [hk]
  have hw1l : ∀ k, w1 n1 n2 g1 g2 R w k < 1000 := fun k => by
    unfold w1
    have := hwl k
    cases gok n1 n2 g1 g2 w k <;> simp <;> omega
  have hc1 : CR A1 46 (rs n1 n2 w) := hc.frame (h1 47 (by decide)) (h1 48 (by decide))
  obtain ⟨A2, k1, k2, k3⟩ := c_Rounds_dropThoseOf (Y := Y) (F := F1) (d := d + 1) (R := R) (by omega) (fun k hk => ⟨hW1 k hk, hw1l k⟩) hc1
  have hsF : sF [4502, 4503] F F1 := by
    rw [h2]
    split
    · exact gF_sF F 0 0 _
    · exact sF.rf
  refine ⟨F1, A2, ?_, (h1.mono (by decide)).tr (k2.mono (by decide)), hsF, fun k hk => by rw [k2 49 (by decide)]; exact hW1 k hk, k3.congr (fun s t hs ht => ?_), by rw [h2]; simp⟩
  · refine rn_in m_Rounds_playOne rfl ⟨rfl, rfl⟩ ?_
    show ev _ t_Rounds_playOne 0 [.ref 45, .ref p, .ref q, .int (nI R), .float 0, .float 0, .float 0, .float 0] [] _ _
    repeat (refine ev_np [6] rfl rfl rfl ?_)
    refine h4 _ ?_ (.float 0) (.float 0)
    intro v6 v7
    repeat (refine ev_np [] rfl rfl rfl ?_)
    refine ev_gr rfl (by rfl) (by rfl) ?_
    repeat (refine ev_np [] rfl rfl rfl ?_)
    refine ev_ln rfl (by rfl) ?_
    repeat (refine ev_np [] rfl rfl rfl ?_)
    refine ev_vc rfl (by rfl) (by rfl) rfl (k1) ?_
    repeat (refine ev_np [] rfl rfl rfl ?_)
    exact ev_rz rfl rfl (by cases (List.range 36).any (gok n1 n2 g1 g2 w) <;> simp [z01])
  · have h0 := hwl (6 * s + t)
    cases hgo : gok n1 n2 g1 g2 w (6 * s + t) with
    | true =>
      have e1 : w1 n1 n2 g1 g2 R w (6 * s + t) = R := by unfold w1; rw [hgo]; rfl
      have e2 : rs n1 n2 (w1 n1 n2 g1 g2 R w) s t = false := by
        unfold rs
        rw [e1]
        simp [show ¬ R = 0 by omega]
      rw [e2, e1]
      simp
    | false =>
      have e1 : w1 n1 n2 g1 g2 R w (6 * s + t) = w (6 * s + t) := by unfold w1; rw [hgo]; rfl
      have e2 : rs n1 n2 (w1 n1 n2 g1 g2 R w) s t = rs n1 n2 w s t := by
        unfold rs
        rw [e1]
      rw [e2, e1]
      simp [show ¬ w (6 * s + t) = R by omega]
end PLAY
end
section
/-! ===== all rounds ===== -/
section PLAY2
variable {Y : Nat × (Nat → Int32)} {F A : Nat → Nat → Int32} {p q n1 n2 : Nat} {g1 g2 : Nat → Nat → Nat → Nat} (d : Nat)
/-- what stands of the letter and the side after R rounds -/
def YF (n1 n2 : Nat) (g1 g2 : Nat → Nat → Nat → Nat) (R : Nat) (F : Nat → Nat → Int32) : Prop :=
  F 45 2 = (if wR n1 n2 g1 g2 R 0 = 0 then -9 else nI (fl (sd g1 g2 (rs n1 n2 (wR n1 n2 g1 g2 (wR n1 n2 g1 g2 R 0 - 1))) 0 0))) ∧
  F 45 3 = (if wR n1 n2 g1 g2 R 0 = 0 then 0 else nI (sd g1 g2 (rs n1 n2 (wR n1 n2 g1 g2 (wR n1 n2 g1 g2 R 0 - 1))) 0 0 (fl (sd g1 g2 (rs n1 n2 (wR n1 n2 g1 g2 (wR n1 n2 g1 g2 R 0 - 1))) 0 0))))
theorem YF.step {R : Nat} (h : YF n1 n2 g1 g2 R F) {F' : Nat → Nat → Int32} (hF : F' = (if gok n1 n2 g1 g2 (wR n1 n2 g1 g2 R) 0 = true then gF F 0 0 (sd g1 g2 (rs n1 n2 (wR n1 n2 g1 g2 R)) 0 0) else F)) : YF n1 n2 g1 g2 (R + 1) F' := by
  have hw : wR n1 n2 g1 g2 (R + 1) 0 = bif gok n1 n2 g1 g2 (wR n1 n2 g1 g2 R) 0 then R + 1 else wR n1 n2 g1 g2 R 0 := rfl
  unfold YF
  rw [hw]
  cases hgo : gok n1 n2 g1 g2 (wR n1 n2 g1 g2 R) 0 with
  | false =>
    rw [hgo] at hF
    simp only [Bool.false_eq_true, if_false] at hF
    subst hF
    exact h
  | true =>
    rw [hgo] at hF
    simp only [if_true] at hF
    have h2 : hg (sd g1 g2 (rs n1 n2 (wR n1 n2 g1 g2 R)) 0 0) = true := by
      unfold gok at hgo
      rw [Bool.and_eq_true] at hgo
      exact hgo.2
    have h3 : F' = uF (uF F 45 2 (nI (fl (sd g1 g2 (rs n1 n2 (wR n1 n2 g1 g2 R)) 0 0)))) 45 3 (nI (sd g1 g2 (rs n1 n2 (wR n1 n2 g1 g2 R)) 0 0 (fl (sd g1 g2 (rs n1 n2 (wR n1 n2 g1 g2 R)) 0 0)))) := by
      rw [hF]
      unfold gF
      rw [h2]
      simp
    simp only [cond_true, Nat.add_sub_cancel]
    rw [if_neg (by omega), if_neg (by omega), h3, uF_s, uF_n _ _ (by omega), uF_s]
    exact ⟨rfl, rfl⟩
theorem any_false {f : Nat → Bool} {n : Nat} (h : (List.range n).any f = false) : ∀ k, k < n → f k = false := by
  intro k hk
  have := List.any_eq_false.mp h k (List.mem_range.mpr hk)
  simpa using this
theorem c_Rounds_play (hp0 : PL p) (hq0 : PL q) (hcp : CP F A p n1 g1) (hcq : CP F A q n2 g2) (h1 : 1 ≤ n1 ∧ n1 ≤ 6) (h2 : 1 ≤ n2 ∧ n2 ≤ 6) : ∃ F' A', xa_rn xa_ms (d + 6) n_Rounds_play [.ref 45, .ref p, .ref q] (hp Y F A) (some (.int (z01 (decide (wE n1 n2 g1 g2 0 = 0))))) (hp Y F' A') ∧ sA [47, 48, 49] A A' ∧ sF [4502, 4503] F F' ∧ WE A' 49 (wE n1 n2 g1 g2) ∧ YF n1 n2 g1 g2 37 F' := by
  obtain ⟨A1, a1, a2, a3⟩ := c_Pairs_fill (Y := Y) (F := F) (A := A) (d := d + 4) PR46 h1.2 h2.2
  obtain ⟨A2, hA2⟩ : ∃ A2, A2 = va_up A1 49 (fun j => if j < 36 then 0 else A1 49 j) := ⟨_, rfl⟩
  obtain ⟨F2, hF2⟩ : ∃ F2, F2 = uF (uF F 45 2 (-9)) 45 3 0 := ⟨_, rfl⟩
  have sA2 : sA [47, 48, 49] A A2 := (a2.mono (by decide)).tr (by rw [hA2]; exact sA.up (by decide))
  have sF2 : sF [4502, 4503] F F2 := by rw [hF2]; exact (sF.up (by decide)).tr (sF.up (by decide))
  have key : ∀ m R (B C : Nat → Nat → Int32) (more : Bool), R + m = 37 → sA [47, 48, 49] A C → sF [4502, 4503] F B → WE C 49 (wR n1 n2 g1 g2 R) → CR C 46 (rs n1 n2 (wR n1 n2 g1 g2 R)) → YF n1 n2 g1 g2 R B → (more = false → ∃ R0, R = R0 + 1 ∧ ∀ k, k < 36 → gok n1 n2 g1 g2 (wR n1 n2 g1 g2 R0) k = false) → ∃ F' A', sA [47, 48, 49] A A' ∧ sF [4502, 4503] F F' ∧ WE A' 49 (wE n1 n2 g1 g2) ∧ CR A' 46 (rs n1 n2 (wE n1 n2 g1 g2)) ∧ YF n1 n2 g1 g2 37 F' ∧ ∀ q0, (∀ v3 v4 : Value, ev (d + 5) t_Rounds_play 65 [.ref 45, .ref p, .ref q, v3, v4] [] (hp Y F' A') q0) → ev (d + 5) t_Rounds_play 39 [.ref 45, .ref p, .ref q, .int (z01 more), .int (nI (R + 1))] [] (hp Y B C) q0 := by
    intro m
    induction m with
    | zero =>
      intro R B C more hR hsA hsF hW hC hY hmore
      have hR37 : R = 37 := by omega
      subst hR37
      refine ⟨B, C, hsA, hsF, hW, hC, hY, fun q0 h => ?_⟩
      cases more with
      | false =>
        repeat (refine ev_np [65] rfl rfl rfl ?_)
        exact h _ _
      | true =>
        repeat (refine ev_np [65] rfl rfl rfl ?_)
        exact h _ _
    | succ m ih =>
      intro R B C more hR hsA hsF hW hC hY hmore
      cases more with
      | false =>
        obtain ⟨R0, rfl, hno⟩ := hmore rfl
        have hE : ∀ k, k < 36 → wE n1 n2 g1 g2 k = wR n1 n2 g1 g2 R0 k := fun k hk => wE_of (by omega) hno hk
        have hE1 : ∀ k, k < 36 → wR n1 n2 g1 g2 (R0 + 1) k = wR n1 n2 g1 g2 R0 k := fun k hk => wR_fix hno 1 k hk
        refine ⟨B, C, hsA, hsF, fun k hk => by rw [hE k hk, ← hE1 k hk]; exact hW k hk, hC.congr (rs_congr fun k hk => by rw [hE k hk, hE1 k hk]), ?_, fun q0 h => ?_⟩
        · unfold YF at hY ⊢
          rw [show wR n1 n2 g1 g2 37 0 = wR n1 n2 g1 g2 (R0 + 1) 0 by rw [hE1 0 (by decide)]; exact hE 0 (by decide)]
          exact hY
        · repeat (refine ev_np [65] rfl rfl rfl ?_)
          exact h _ _
      | true =>
        have hcp' : CP B C p n1 g1 := hcp.keep hp0 hsF hsA rfl
        have hcq' : CP B C q n2 g2 := hcq.keep hq0 hsF hsA rfl
        obtain ⟨B', C', b1, b2, b3, b4, b5, b6⟩ := c_Rounds_playOne (Y := Y) d hp0 hq0 hcp' hcq' (R := R + 1) (by omega) hW (fun k => by have := wR_le (n1 := n1) (n2 := n2) (g1 := g1) (g2 := g2) R k; omega) hC
        obtain ⟨F', A', c1, c2, c3, c4, c5, c6⟩ := ih (R + 1) B' C' _ (by omega) (hsA.tr b2) (hsF.tr b3) b4 b5 (hY.step b6) (fun hz => ⟨R, rfl, any_false hz⟩)
        refine ⟨F', A', c1, c2, c3, c4, c5, fun q0 h => ?_⟩
        repeat (refine ev_np [] rfl rfl rfl ?_)
        refine ev_ie (nI_nlt (a := 37) (b := R + 1) (by omega) (by omega)) ?_
        repeat (refine ev_np [] rfl rfl rfl ?_)
        refine ev_vc rfl (by rfl) (by rfl) rfl (b1) ?_
        repeat (refine ev_np [39] rfl rfl rfl ?_)
        have h9 := c6 q0 h
        rw [nI_succ (R + 1)] at h9
        exact h9
  obtain ⟨F', A', c1, c2, c3, c4, c5, c6⟩ := key 37 0 F2 A2 true rfl sA2 sF2 (fun k hk => by rw [hA2, va_up_s]; simp [hk, wR, nI_0]) ((a3.frame (by rw [hA2]; exact va_up_n _ _ (by decide)) (by rw [hA2]; exact va_up_n _ _ (by decide))).congr (fun s t _ _ => by simp [rs, wR])) (by
    unfold YF
    rw [hF2, uF_s, uF_n _ _ (by decide), uF_s]
    simp [wR]) (fun z => by cases z)
  have e00 : rs n1 n2 (wE n1 n2 g1 g2) 0 0 = decide (wE n1 n2 g1 g2 0 = 0) := by
    unfold rs
    simp [show 0 < n1 by omega, show 0 < n2 by omega]
  refine ⟨F', A', ?_, c1, c2, c3, c5⟩
  refine rn_in m_Rounds_play rfl ⟨rfl, rfl⟩ ?_
  show ev _ t_Rounds_play 0 [.ref 45, .ref p, .ref q, .float 0, .float 0] [] _ _
  repeat (refine ev_np [] rfl rfl rfl ?_)
  refine ev_gr rfl (by rfl) (by rfl) ?_
  repeat (refine ev_np [] rfl rfl rfl ?_)
  refine ev_vc rfl rfl hp0.1 rfl (c_Plan_size (d + 4) hp0) ?_
  repeat (refine ev_np [] rfl rfl rfl ?_)
  refine ev_vc rfl rfl hq0.1 rfl (c_Plan_size (d + 4) hq0) ?_
  rw [hcp.1, hcq.1]
  refine ev_vc rfl (by rfl) (by rfl) rfl (a1) ?_
  repeat (refine ev_np [] rfl rfl rfl ?_)
  refine ev_gr rfl (by rfl) (by rfl) ?_
  repeat (refine ev_np [] rfl rfl rfl ?_)
  refine ev_ca rfl (c_Arr_fill (d + 4) (v := 49) (n := 36) rfl (by decide) 0) ?_
  rw [← hA2]
  repeat (refine ev_np [] rfl rfl rfl ?_)
  refine ev_pf rfl (by rfl) ⟨by rfl, by rfl⟩ ?_
  repeat (refine ev_np [] rfl rfl rfl ?_)
  refine ev_pf rfl (by rfl) ⟨by rfl, by rfl⟩ ?_
  rw [← hF2]
  repeat (refine ev_np [39] rfl rfl rfl ?_)
  refine c6 _ ?_
  intro v3 v4
  repeat (refine ev_np [] rfl rfl rfl ?_)
  refine ev_gr rfl (by rfl) (by rfl) ?_
  repeat (refine ev_np [] rfl rfl rfl ?_)
  refine ev_vc rfl (by rfl) (by rfl) rfl (c_Pairs_has (d + 3) PR46 c4 (s := 0) (t := 0) (by decide) (by decide)) ?_
  rw [e00]
  exact ev_rz rfl rfl (by cases decide (wE n1 n2 g1 g2 0 = 0) <;> simp [z01])
theorem c_Rounds_roundOf {w : Nat → Nat} (hw : WE A 49 w) {s t : Nat} (hs : s < 6) (ht : t < 6) : xa_rn xa_ms (d + 1) n_Rounds_roundOf [.ref 45, .int (nI s), .int (nI t)] (hp Y F A) (some (.int (nI (w (6 * s + t))))) (hp Y F A) := by
  refine rn_in m_Rounds_roundOf rfl ⟨rfl, rfl⟩ ?_
  show ev _ t_Rounds_roundOf 0 [.ref 45, .int (nI s), .int (nI t)] [] _ _
  repeat (refine ev_np [] rfl rfl rfl ?_)
  refine ev_ie (nI_pos (by omega)) ?_
  repeat (refine ev_np [] rfl rfl rfl ?_)
  refine ev_ie (nI_ge (b := 6) hs (by omega)) ?_
  repeat (refine ev_np [] rfl rfl rfl ?_)
  refine ev_ie (nI_pos (by omega)) ?_
  repeat (refine ev_np [] rfl rfl rfl ?_)
  refine ev_it (nI_lt (b := 6) ht (by omega)) ?_
  repeat (refine ev_np [] rfl rfl rfl ?_)
  refine ev_gr rfl (by rfl) (by rfl) ?_
  repeat (refine ev_np [] rfl rfl rfl ?_)
  refine ev_an rfl (by rfl) (j := 6 * s + t) (by rw [show (6 : Int32) = nI 6 from rfl, pk_mul, nI_add, Nat.mul_comm]) (by omega) rfl ?_
  exact ev_ri rfl (hw _ (by omega))
theorem c_Rounds_areOne {w : Nat → Nat} (hw : WE A 49 w) (hwl : ∀ k, w k < 1000) {s t : Nat} (hs : s < 6) (ht : t < 6) : xa_rn xa_ms (d + 2) n_Rounds_areOne [.ref 45, .int (nI s), .int (nI t)] (hp Y F A) (some (.int (z01 (decide (w (6 * s + t) = 0) && decide (w (6 * t + s) = 0))))) (hp Y F A) := by
  refine rn_in m_Rounds_areOne rfl ⟨rfl, rfl⟩ ?_
  show ev _ t_Rounds_areOne 0 [.ref 45, .int (nI s), .int (nI t)] [] _ _
  repeat (refine ev_np [] rfl rfl rfl ?_)
  refine ev_vc rfl (by rfl) (by rfl) rfl (c_Rounds_roundOf d hw hs ht) ?_
  have l1 := hwl (6 * s + t)
  have l2 := hwl (6 * t + s)
  by_cases e1 : w (6 * s + t) = 0
  · rw [e1]
    repeat (refine ev_np [] rfl rfl rfl ?_)
    refine ev_vc rfl (by rfl) (by rfl) rfl (c_Rounds_roundOf d hw ht hs) ?_
    by_cases e2 : w (6 * t + s) = 0
    · rw [e2]
      repeat (refine ev_np [] rfl rfl rfl ?_)
      exact ev_rz rfl rfl (Or.inr rfl)
    · repeat (refine ev_np [] rfl rfl rfl ?_)
      refine ev_it (nI_ne0 (by omega) (by omega)) ?_
      repeat (refine ev_np [] rfl rfl rfl ?_)
      exact ev_rz rfl (by simp [e2, z01]) (by simp [e2, z01])
  · repeat (refine ev_np [] rfl rfl rfl ?_)
    refine ev_it (nI_ne0 (by omega) (by omega)) ?_
    repeat (refine ev_np [] rfl rfl rfl ?_)
    exact ev_rz rfl (by simp [e1, z01]) (by simp [e1, z01])
end PLAY2
end
section
/-! ===== the model: plans, sides ===== -/
def MP (A : Nat → Nat → Int32) (i n : Nat) (g : Nat → Nat → Nat → Nat) : Prop := A 64 i = nI n ∧ ∀ s l t, s < 6 → l < 3 → t < 6 → A 63 (108 * i + 18 * s + 6 * l + t) = nI (g s l t)
theorem MP.frame {A A' : Nat → Nat → Int32} {i n : Nat} {g : Nat → Nat → Nat → Nat} (h : MP A i n g) (h1 : A' 63 = A 63) (h2 : A' 64 = A 64) : MP A' i n g := ⟨by rw [h2]; exact h.1, fun s l t hs hl ht => by rw [h1]; exact h.2 s l t hs hl ht⟩
theorem any_shrink {f : Nat → Bool} {n m : Nat} (hnm : n ≤ m) (h : ∀ k, k < m → f k = true → k < n) : (List.range m).any f = (List.range n).any f := by
  rw [Bool.eq_iff_iff, List.any_eq_true, List.any_eq_true]
  constructor
  · rintro ⟨k, hk, hf⟩
    exact ⟨k, List.mem_range.mpr (h k (List.mem_range.mp hk) hf), hf⟩
  · rintro ⟨k, hk, hf⟩
    exact ⟨k, List.mem_range.mpr (Nat.lt_of_lt_of_le (List.mem_range.mp hk) hnm), hf⟩
theorem any_congr {f g : Nat → Bool} {n : Nat} (h : ∀ k, k < n → f k = g k) : (List.range n).any f = (List.range n).any g := by
  rw [Bool.eq_iff_iff, List.any_eq_true, List.any_eq_true]
  constructor
  · rintro ⟨k, hk, hf⟩
    exact ⟨k, hk, by rw [← h k (List.mem_range.mp hk)]; exact hf⟩
  · rintro ⟨k, hk, hf⟩
    exact ⟨k, hk, by rw [h k (List.mem_range.mp hk)]; exact hf⟩
theorem lack_any (r : Nat → Nat → Bool) (f g : Nat → Bool) : ∀ n, lack r f g n = (List.range n).any (fun k => f k && !((List.range 6).any fun t => g t && r k t)) := by
  intro n
  induction n with
  | zero => rfl
  | succ n ih => rw [anyB]; simp only [lack]; rw [ih]
def sM (n1 n2 : Nat) (g1 g2 : Nat → Nat → Nat → Nat) (r : Nat → Nat → Bool) (s t l : Nat) : Nat :=
  bif (List.range n1).any (fun a => decide (1 ≤ g1 s l a) && !((List.range n2).any fun b => decide (1 ≤ g2 t l b) && r a b)) then 1 else bif (List.range n2).any (fun b => decide (2 ≤ g2 t l b) && !((List.range n1).any fun a => decide (2 ≤ g1 s l a) && r a b)) then 2 else 0
theorem sM_eq {n1 n2 : Nat} {g1 g2 : Nat → Nat → Nat → Nat} (h1 : GW n1 g1) (h2 : GW n2 g2) {r r' : Nat → Nat → Bool} (hr : ∀ a b, a < n1 → b < n2 → r a b = r' a b) (s t l : Nat) : sd g1 g2 r s t l = sM n1 n2 g1 g2 r' s t l := by
  unfold sd sM
  have e1 : lack r (fun x => decide (1 ≤ g1 s l x)) (fun y => decide (1 ≤ g2 t l y)) 6 = (List.range n1).any (fun a => decide (1 ≤ g1 s l a) && !((List.range n2).any fun b => decide (1 ≤ g2 t l b) && r' a b)) := by
    rw [lack_any, any_shrink h1.1.2 (fun k _ hk => by
      simp only [Bool.and_eq_true, decide_eq_true_eq] at hk
      exact ((h1.2 s l k).2 (by omega)).1 |> fun _ => ((h1.2 s l k).2 (by omega)).2.2)]
    refine any_congr fun a ha => ?_
    congr 2
    rw [any_shrink h2.1.2 (fun k _ hk => by
      simp only [Bool.and_eq_true, decide_eq_true_eq] at hk
      exact ((h2.2 t l k).2 (by omega)).2.2)]
    exact any_congr fun b hb => by rw [hr a b ha hb]
  have e2 : lack (fun a b => r b a) (fun y => decide (2 ≤ g2 t l y)) (fun x => decide (2 ≤ g1 s l x)) 6 = (List.range n2).any (fun b => decide (2 ≤ g2 t l b) && !((List.range n1).any fun a => decide (2 ≤ g1 s l a) && r' a b)) := by
    rw [lack_any, any_shrink h2.1.2 (fun k _ hk => by
      simp only [Bool.and_eq_true, decide_eq_true_eq] at hk
      exact ((h2.2 t l k).2 (by omega)).2.2)]
    refine any_congr fun b hb => ?_
    congr 2
    rw [any_shrink h1.1.2 (fun k _ hk => by
      simp only [Bool.and_eq_true, decide_eq_true_eq] at hk
      exact ((h1.2 s l k).2 (by omega)).2.2)]
    exact any_congr fun a ha => by rw [hr a b ha hb]
  rw [e1, e2]
theorem z01_or (a b : Bool) : z01 a ||| z01 b = z01 (a || b) := by cases a <;> cases b <;> decide
theorem z01_b (b : Bool) : z01 b = 0 ∨ z01 b = 1 := by cases b <;> simp [z01]
section MODEL
variable {Y : Nat × (Nat → Int32)} {F A : Nat → Nat → Int32} (d : Nat)
theorem at_nI (i s l t : Nat) : 108 * nI i + 18 * nI s + 6 * nI l + nI t = nI (108 * i + 18 * s + 6 * l + t) := by
  rw [show (108 : Int32) = nI 108 from rfl, show (18 : Int32) = nI 18 from rfl, show (6 : Int32) = nI 6 from rfl, pk_mul, pk_mul, pk_mul, nI_add, nI_add, nI_add]
theorem c_Mo_at (i s l t : Nat) {h : xa_H} : xa_rn xa_ms (d + 1) n_Mo_at [.int (nI i), .int (nI s), .int (nI l), .int (nI t)] h (some (.int (nI (108 * i + 18 * s + 6 * l + t)))) h := by
  refine rn_in m_Mo_at rfl ⟨rfl, rfl⟩ ?_
  show ev _ t_Mo_at 0 [.int (nI i), .int (nI s), .int (nI l), .int (nI t)] [] _ _
  repeat (refine ev_np [] rfl rfl rfl ?_)
  exact ev_ri rfl (at_nI i s l t)
theorem c_Mo_of {i n : Nat} {g : Nat → Nat → Nat → Nat} (hi : i < 8) (hm : MP A i n g) {s l t : Nat} (hs : s < 6) (hl : l < 3) (ht : t < 6) : xa_rn xa_ms (d + 2) n_Mo_of [.ref 62, .int (nI i), .int (nI s), .int (nI l), .int (nI t)] (hp Y F A) (some (.int (nI (g s l t)))) (hp Y F A) := by
  refine rn_in m_Mo_of rfl ⟨rfl, rfl⟩ ?_
  show ev _ t_Mo_of 0 [.ref 62, .int (nI i), .int (nI s), .int (nI l), .int (nI t)] [] _ _
  repeat (refine ev_np [] rfl rfl rfl ?_)
  refine ev_gr rfl (by rfl) (by rfl) ?_
  repeat (refine ev_np [] rfl rfl rfl ?_)
  refine ev_ca rfl (c_Mo_at d i s l t) ?_
  refine ev_an rfl (by rfl) rfl (by omega) rfl ?_
  exact ev_ri rfl (hm.2 s l t hs hl ht)
theorem c_Mo_isThere {w : Nat → Nat} (hw : WE A 70 w) (hwl : ∀ k, w k < 1000) {s t R : Nat} (hs : s < 6) (ht : t < 6) (hR : R < 1000) : xa_rn xa_ms (d + 1) n_Mo_isThere [.ref 62, .int (nI s), .int (nI t), .int (nI R)] (hp Y F A) (some (.int (z01 (decide (w (6 * s + t) = 0) || decide (R ≤ w (6 * s + t)))))) (hp Y F A) := by
  have hl := hwl (6 * s + t)
  have hix : 6 * nI s + nI t = nI (6 * s + t) := by rw [show (6 : Int32) = nI 6 from rfl, pk_mul, nI_add]
  refine rn_in m_Mo_isThere rfl ⟨rfl, rfl⟩ ?_
  show ev _ t_Mo_isThere 0 [.ref 62, .int (nI s), .int (nI t), .int (nI R)] [] _ _
  repeat (refine ev_np [] rfl rfl rfl ?_)
  refine ev_gr rfl (by rfl) (by rfl) ?_
  repeat (refine ev_np [] rfl rfl rfl ?_)
  refine ev_an rfl (by rfl) (j := 6 * s + t) hix (by omega) rfl ?_
  rw [hw _ (by omega)]
  repeat (refine ev_np [] rfl rfl rfl ?_)
  by_cases e : w (6 * s + t) = 0
  · rw [e]
    repeat (refine ev_np [] rfl rfl rfl ?_)
    exact ev_rz rfl rfl (Or.inr rfl)
  · refine ev_ie (nI_ne0 (by omega) (by omega)) ?_
    repeat (refine ev_np [] rfl rfl rfl ?_)
    refine ev_gr rfl (by rfl) (by rfl) ?_
    repeat (refine ev_np [] rfl rfl rfl ?_)
    refine ev_an rfl (by rfl) (j := 6 * s + t) hix (by omega) rfl ?_
    rw [hw _ (by omega)]
    repeat (refine ev_np [] rfl rfl rfl ?_)
    by_cases e2 : R ≤ w (6 * s + t)
    · refine ev_ie (nI_nlt e2 (by omega)) ?_
      repeat (refine ev_np [] rfl rfl rfl ?_)
      exact ev_rz rfl (by simp [e2, z01]) (z01_b _)
    · refine ev_it (nI_lt (by omega) (by omega)) ?_
      repeat (refine ev_np [] rfl rfl rfl ?_)
      exact ev_rz rfl (by simp [e, e2, z01]) (z01_b _)
theorem c_Mo_why {i j n1 n2 : Nat} {g1 g2 : Nat → Nat → Nat → Nat} (hi : i < 8) (hj : j < 8) (hm1 : MP A i n1 g1) (hm2 : MP A j n2 g2) (hn1 : n1 ≤ 6) (hn2 : n2 ≤ 6) (hg1 : ∀ s l t, g1 s l t ≤ 2) (hg2 : ∀ s l t, g2 s l t ≤ 2) {w : Nat → Nat} (hw : WE A 70 w) (hwl : ∀ k, w k < 1000) {s t l R : Nat} (hs : s < 6) (ht : t < 6) (hl : l < 3) (hR : R < 1000) : xa_rn xa_ms (d + 3) n_Mo_why [.ref 62, .int (nI i), .int (nI s), .int (nI j), .int (nI t), .int (nI l), .int (nI R)] (hp Y F A) (some (.int (nI (sM n1 n2 g1 g2 (fun a b => decide (w (6 * a + b) = 0) || decide (R ≤ w (6 * a + b))) s t l)))) (hp Y F A) := by
  obtain ⟨r, hr⟩ : ∃ r : Nat → Nat → Bool, r = fun a b => decide (w (6 * a + b) = 0) || decide (R ≤ w (6 * a + b)) := ⟨_, rfl⟩
  have hthere : ∀ {a b : Nat}, a < 6 → b < 6 → xa_rn xa_ms (d + 2) n_Mo_isThere [.ref 62, .int (nI a), .int (nI b), .int (nI R)] (hp Y F A) (some (.int (z01 (r a b)))) (hp Y F A) := fun ha hb => by rw [hr]; exact c_Mo_isThere (d + 1) hw hwl ha hb hR
  rw [← hr]
  obtain ⟨Z, hZ⟩ : ∃ Z, Z = sM n1 n2 g1 g2 r s t l := ⟨_, rfl⟩
  rw [← hZ]
  -- the first inner loop
  have in1 : ∀ a, a < n1 → ∀ q0 (v7 : Value), (∀ v10 : Value, ev (d + 2) t_Mo_why 94 [.ref 62, .int (nI i), .int (nI s), .int (nI j), .int (nI t), .int (nI l), .int (nI R), v7, .int (nI a), .int (z01 (decide (g1 s l a = 0) || (List.range n2).any fun b => decide (1 ≤ g2 t l b) && r a b)), v10] [] (hp Y F A) q0) → ev (d + 2) t_Mo_why 40 [.ref 62, .int (nI i), .int (nI s), .int (nI j), .int (nI t), .int (nI l), .int (nI R), v7, .int (nI a), .int (z01 (decide (g1 s l a = 0))), .int 0] [] (hp Y F A) q0 := by
    intro a ha q0 v7 h
    have h1 := lp_to (E := fun k q => ev (d + 2) t_Mo_why 40 [.ref 62, .int (nI i), .int (nI s), .int (nI j), .int (nI t), .int (nI l), .int (nI R), v7, .int (nI a), .int (z01 (decide (g1 s l a = 0) || (List.range k).any fun b => decide (1 ≤ g2 t l b) && r a b)), .int (nI k)] [] (hp Y F A) q) n2 (fun k hk q hq => by
      rw [nI_succ, anyB, ← Bool.or_assoc, ← z01_or] at hq
      repeat (refine ev_np [] rfl rfl rfl ?_)
      refine ev_gr rfl (by rfl) (by rfl) ?_
      repeat (refine ev_np [] rfl rfl rfl ?_)
      refine ev_an rfl (by rfl) rfl (by omega) rfl ?_
      rw [hm2.1]
      repeat (refine ev_np [] rfl rfl rfl ?_)
      refine ev_ie (nI_ge hk (by omega)) ?_
      repeat (refine ev_np [] rfl rfl rfl ?_)
      refine ev_vc rfl (by rfl) (by rfl) rfl (c_Mo_of d hj hm2 ht hl (by omega)) ?_
      repeat (refine ev_np [] rfl rfl rfl ?_)
      have hg := hg2 t l k
      by_cases e : 1 ≤ g2 t l k
      · refine ev_ie (nI_nle (by omega) (by omega)) ?_
        repeat (refine ev_np [] rfl rfl rfl ?_)
        refine ev_vc rfl (by rfl) (by rfl) rfl (hthere (by omega) (by omega)) ?_
        rw [decide_eq_true e, Bool.true_and] at hq
        cases hrk : r a k with
        | true =>
          rw [hrk] at hq
          repeat (refine ev_np [40] rfl rfl rfl ?_)
          exact hq
        | false =>
          rw [hrk] at hq
          repeat (refine ev_np [40] rfl rfl rfl ?_)
          exact hq
      · refine ev_it (by rw [show g2 t l k = 0 by omega]; exact Int32.le_refl _) ?_
        rw [decide_eq_false e, Bool.false_and] at hq
        repeat (refine ev_np [40] rfl rfl rfl ?_)
        exact hq) q0 (by
      repeat (refine ev_np [] rfl rfl rfl ?_)
      refine ev_gr rfl (by rfl) (by rfl) ?_
      repeat (refine ev_np [] rfl rfl rfl ?_)
      refine ev_an rfl (by rfl) rfl (by omega) rfl ?_
      rw [hm2.1]
      repeat (refine ev_np [] rfl rfl rfl ?_)
      refine ev_it (nI_le (Nat.le_refl _) (by omega)) ?_
      exact h _)
    simp only [List.range_zero, List.any_nil, Bool.or_false] at h1
    exact h1
  -- the second inner loop
  have in2 : ∀ b, b < n2 → ∀ q0 (v7 : Value), (∀ v10 : Value, ev (d + 2) t_Mo_why 200 [.ref 62, .int (nI i), .int (nI s), .int (nI j), .int (nI t), .int (nI l), .int (nI R), v7, .int (nI b), .int (z01 (decide (g2 t l b < 2) || (List.range n1).any fun a => decide (2 ≤ g1 s l a) && r a b)), v10] [] (hp Y F A) q0) → ev (d + 2) t_Mo_why 146 [.ref 62, .int (nI i), .int (nI s), .int (nI j), .int (nI t), .int (nI l), .int (nI R), v7, .int (nI b), .int (z01 (decide (g2 t l b < 2))), .int 0] [] (hp Y F A) q0 := by
    intro b hb q0 v7 h
    have h1 := lp_to (E := fun k q => ev (d + 2) t_Mo_why 146 [.ref 62, .int (nI i), .int (nI s), .int (nI j), .int (nI t), .int (nI l), .int (nI R), v7, .int (nI b), .int (z01 (decide (g2 t l b < 2) || (List.range k).any fun a => decide (2 ≤ g1 s l a) && r a b)), .int (nI k)] [] (hp Y F A) q) n1 (fun k hk q hq => by
      rw [nI_succ, anyB, ← Bool.or_assoc, ← z01_or] at hq
      repeat (refine ev_np [] rfl rfl rfl ?_)
      refine ev_gr rfl (by rfl) (by rfl) ?_
      repeat (refine ev_np [] rfl rfl rfl ?_)
      refine ev_an rfl (by rfl) rfl (by omega) rfl ?_
      rw [hm1.1]
      repeat (refine ev_np [] rfl rfl rfl ?_)
      refine ev_ie (nI_ge hk (by omega)) ?_
      repeat (refine ev_np [] rfl rfl rfl ?_)
      refine ev_vc rfl (by rfl) (by rfl) rfl (c_Mo_of d hi hm1 hs hl (by omega)) ?_
      repeat (refine ev_np [] rfl rfl rfl ?_)
      have hg := hg1 s l k
      by_cases e : 2 ≤ g1 s l k
      · have e2 : g1 s l k = 2 := by omega
        rw [e2]
        refine ev_ie (fun z => z rfl) ?_
        repeat (refine ev_np [] rfl rfl rfl ?_)
        refine ev_vc rfl (by rfl) (by rfl) rfl (hthere (by omega) (by omega)) ?_
        rw [decide_eq_true e, Bool.true_and] at hq
        cases hrk : r k b with
        | true =>
          rw [hrk] at hq
          repeat (refine ev_np [146] rfl rfl rfl ?_)
          exact hq
        | false =>
          rw [hrk] at hq
          repeat (refine ev_np [146] rfl rfl rfl ?_)
          exact hq
      · refine ev_it (fun z => e (by have := (nI_eq (a := g1 s l k) (b := 2) (by omega) (by omega)).mp z; omega)) ?_
        rw [decide_eq_false e, Bool.false_and] at hq
        repeat (refine ev_np [146] rfl rfl rfl ?_)
        exact hq) q0 (by
      repeat (refine ev_np [] rfl rfl rfl ?_)
      refine ev_gr rfl (by rfl) (by rfl) ?_
      repeat (refine ev_np [] rfl rfl rfl ?_)
      refine ev_an rfl (by rfl) rfl (by omega) rfl ?_
      rw [hm1.1]
      repeat (refine ev_np [] rfl rfl rfl ?_)
      refine ev_it (nI_le (Nat.le_refl _) (by omega)) ?_
      exact h _)
    simp only [List.range_zero, List.any_nil, Bool.or_false] at h1
    exact h1
  -- the second loop and the end
  have two : ∀ (v8 v9 v10 : Value), (List.range n1).any (fun a => decide (1 ≤ g1 s l a) && !((List.range n2).any fun b => decide (1 ≤ g2 t l b) && r a b)) = false → ev (d + 2) t_Mo_why 107 [.ref 62, .int (nI i), .int (nI s), .int (nI j), .int (nI t), .int (nI l), .int (nI R), .int 0, v8, v9, v10] [] (hp Y F A) (some (.int (nI Z)), hp Y F A) := by
    intro v8 v9 v10 hfst
    repeat (refine ev_np [110] rfl rfl rfl ?_)
    have h1 := lp_to (E := fun k q => ∀ v9 v10 : Value, ev (d + 2) t_Mo_why 110 [.ref 62, .int (nI i), .int (nI s), .int (nI j), .int (nI t), .int (nI l), .int (nI R), .int (z01 ((List.range k).any (fun b => decide (2 ≤ g2 t l b) && !((List.range n1).any fun a => decide (2 ≤ g1 s l a) && r a b)))), .int (nI k), v9, v10] [] (hp Y F A) q) n2 (fun k hk q hq => by
      intro v9 v10
      rw [nI_succ, anyB, ← z01_or] at hq
      repeat (refine ev_np [] rfl rfl rfl ?_)
      refine ev_gr rfl (by rfl) (by rfl) ?_
      repeat (refine ev_np [] rfl rfl rfl ?_)
      refine ev_an rfl (by rfl) rfl (by omega) rfl ?_
      rw [hm2.1]
      repeat (refine ev_np [] rfl rfl rfl ?_)
      refine ev_ie (nI_ge hk (by omega)) ?_
      repeat (refine ev_np [] rfl rfl rfl ?_)
      refine ev_vc rfl (by rfl) (by rfl) rfl (c_Mo_of d hj hm2 ht hl (by omega)) ?_
      repeat (refine ev_np [] rfl rfl rfl ?_)
      have hg := hg2 t l k
      have back : ∀ (b : Bool) (v10 : Value), b = (decide (g2 t l k < 2) || (List.range n1).any fun a => decide (2 ≤ g1 s l a) && r a k) → ev (d + 2) t_Mo_why 200 [.ref 62, .int (nI i), .int (nI s), .int (nI j), .int (nI t), .int (nI l), .int (nI R), .int (z01 ((List.range k).any (fun b => decide (2 ≤ g2 t l b) && !((List.range n1).any fun a => decide (2 ≤ g1 s l a) && r a b)))), .int (nI k), .int (z01 b), v10] [] (hp Y F A) q := by
        intro b v10 hb
        have hbb : (decide (2 ≤ g2 t l k) && !((List.range n1).any fun a => decide (2 ≤ g1 s l a) && r a k)) = !b := by
          rw [hb, Bool.not_or]
          congr 1
          by_cases z : 2 ≤ g2 t l k
          · simp [z, show ¬ g2 t l k < 2 by omega]
          · simp [z, show g2 t l k < 2 by omega]
        rw [hbb] at hq
        cases b with
        | true =>
          repeat (refine ev_np [110] rfl rfl rfl ?_)
          exact hq _ _
        | false =>
          repeat (refine ev_np [110] rfl rfl rfl ?_)
          exact hq _ _
      by_cases e : 2 ≤ g2 t l k
      · refine ev_it (by rw [show g2 t l k = 2 by omega]; exact Int32.le_refl _) ?_
        repeat (refine ev_np [146] rfl rfl rfl ?_)
        have h9 := in2 k hk q (.int (z01 ((List.range k).any (fun b => decide (2 ≤ g2 t l b) && !((List.range n1).any fun a => decide (2 ≤ g1 s l a) && r a b))))) (fun v10 => back _ v10 rfl)
        rw [decide_eq_false (show ¬ g2 t l k < 2 by omega)] at h9
        exact h9
      · refine ev_ie (nI_ge (b := 2) (by omega) (by omega)) ?_
        repeat (refine ev_np [146] rfl rfl rfl ?_)
        have h9 := in2 k hk q (.int (z01 ((List.range k).any (fun b => decide (2 ≤ g2 t l b) && !((List.range n1).any fun a => decide (2 ≤ g1 s l a) && r a b))))) (fun v10 => back _ v10 rfl)
        rw [decide_eq_true (show g2 t l k < 2 by omega)] at h9
        exact h9) (some (.int (nI Z)), hp Y F A) (by
      intro v9 v10
      repeat (refine ev_np [] rfl rfl rfl ?_)
      refine ev_gr rfl (by rfl) (by rfl) ?_
      repeat (refine ev_np [] rfl rfl rfl ?_)
      refine ev_an rfl (by rfl) rfl (by omega) rfl ?_
      rw [hm2.1]
      repeat (refine ev_np [] rfl rfl rfl ?_)
      refine ev_it (nI_le (Nat.le_refl _) (by omega)) ?_
      have hZ2 : Z = bif (List.range n2).any (fun b => decide (2 ≤ g2 t l b) && !((List.range n1).any fun a => decide (2 ≤ g1 s l a) && r a b)) then 2 else 0 := by
        rw [hZ]
        unfold sM
        rw [hfst]
        rfl
      rw [hZ2]
      cases (List.range n2).any (fun b => decide (2 ≤ g2 t l b) && !((List.range n1).any fun a => decide (2 ≤ g1 s l a) && r a b)) with
      | true =>
        repeat (refine ev_np [] rfl rfl rfl ?_)
        exact ev_ri rfl rfl
      | false =>
        repeat (refine ev_np [] rfl rfl rfl ?_)
        exact ev_ri rfl rfl)
    exact h1 v9 v10
  -- the first loop
  have one : ∀ m k (v9 v10 : Value), k + m = n1 → (List.range k).any (fun a => decide (1 ≤ g1 s l a) && !((List.range n2).any fun b => decide (1 ≤ g2 t l b) && r a b)) = false → ev (d + 2) t_Mo_why 6 [.ref 62, .int (nI i), .int (nI s), .int (nI j), .int (nI t), .int (nI l), .int (nI R), .int 0, .int (nI k), v9, v10] [] (hp Y F A) (some (.int (nI Z)), hp Y F A) := by
    intro m
    induction m with
    | zero =>
      intro k v9 v10 hk hno
      have : k = n1 := by omega
      subst this
      repeat (refine ev_np [] rfl rfl rfl ?_)
      refine ev_gr rfl (by rfl) (by rfl) ?_
      repeat (refine ev_np [] rfl rfl rfl ?_)
      refine ev_an rfl (by rfl) rfl (by omega) rfl ?_
      rw [hm1.1]
      repeat (refine ev_np [] rfl rfl rfl ?_)
      refine ev_it (nI_le (Nat.le_refl _) (by omega)) ?_
      exact two _ _ _ hno
    | succ m ih =>
      intro k v9 v10 hk hno
      have hk1 : k < n1 := by omega
      have hg := hg1 s l k
      repeat (refine ev_np [] rfl rfl rfl ?_)
      refine ev_gr rfl (by rfl) (by rfl) ?_
      repeat (refine ev_np [] rfl rfl rfl ?_)
      refine ev_an rfl (by rfl) rfl (by omega) rfl ?_
      rw [hm1.1]
      repeat (refine ev_np [] rfl rfl rfl ?_)
      refine ev_ie (nI_ge hk1 (by omega)) ?_
      repeat (refine ev_np [] rfl rfl rfl ?_)
      refine ev_vc rfl (by rfl) (by rfl) rfl (c_Mo_of d hi hm1 hs hl (by omega)) ?_
      repeat (refine ev_np [] rfl rfl rfl ?_)
      have back : ∀ (b : Bool) (v10 : Value), b = (decide (g1 s l k = 0) || (List.range n2).any fun b => decide (1 ≤ g2 t l b) && r k b) → ev (d + 2) t_Mo_why 94 [.ref 62, .int (nI i), .int (nI s), .int (nI j), .int (nI t), .int (nI l), .int (nI R), .int 0, .int (nI k), .int (z01 b), v10] [] (hp Y F A) (some (.int (nI Z)), hp Y F A) := by
        intro b v10 hb
        have hbb : (decide (1 ≤ g1 s l k) && !((List.range n2).any fun b => decide (1 ≤ g2 t l b) && r k b)) = !b := by
          rw [hb, Bool.not_or]
          congr 1
          by_cases z : 1 ≤ g1 s l k
          · simp [z, show ¬ g1 s l k = 0 by omega]
          · simp [z, show g1 s l k = 0 by omega]
        cases b with
        | true =>
          have h9 := ih (k + 1) (.int (z01 true)) v10 (by omega) (by rw [anyB, hno, hbb]; rfl)
          rw [nI_succ] at h9
          repeat (refine ev_np [6] rfl rfl rfl ?_)
          exact h9
        | false =>
          have hall : (List.range n1).any (fun a => decide (1 ≤ g1 s l a) && !((List.range n2).any fun b => decide (1 ≤ g2 t l b) && r a b)) = true := List.any_eq_true.mpr ⟨k, List.mem_range.mpr hk1, hbb⟩
          have hZ1 : Z = 1 := by
            rw [hZ]
            unfold sM
            rw [hall]
            rfl
          rw [hZ1]
          repeat (refine ev_np [] rfl rfl rfl ?_)
          exact ev_ri rfl rfl
      by_cases e : g1 s l k = 0
      · rw [e]
        refine ev_ie (fun z => z rfl) ?_
        repeat (refine ev_np [40] rfl rfl rfl ?_)
        have h9 := in1 k hk1 (some (.int (nI Z)), hp Y F A) (.int 0) (fun v10 => back _ v10 rfl)
        rw [decide_eq_true e] at h9
        exact h9
      · refine ev_it (nI_ne0 (by omega) (by omega)) ?_
        repeat (refine ev_np [40] rfl rfl rfl ?_)
        have h9 := in1 k hk1 (some (.int (nI Z)), hp Y F A) (.int 0) (fun v10 => back _ v10 rfl)
        rw [decide_eq_false e] at h9
        exact h9
  refine rn_in m_Mo_why rfl ⟨rfl, rfl⟩ ?_
  show ev _ t_Mo_why 0 [.ref 62, .int (nI i), .int (nI s), .int (nI j), .int (nI t), .int (nI l), .int (nI R), .float 0, .float 0, .float 0, .float 0] [] _ _
  repeat (refine ev_np [6] rfl rfl rfl ?_)
  exact one n1 0 _ _ (by omega) rfl
end MODEL
end
section
/-! ===== the model's rounds ===== -/
section GOES
variable {Y : Nat × (Nat → Int32)} {F A : Nat → Nat → Int32} {i j n1 n2 : Nat} {g1 g2 : Nat → Nat → Nat → Nat} (d : Nat)
/-- in the midst of a round: the pairs before m are done -/
def JM (A : Nat → Nat → Int32) (n1 n2 : Nat) (g1 g2 : Nat → Nat → Nat → Nat) (R : Nat) (w : Nat → Nat) (m : Nat) (C : Nat → Nat → Int32) (more : Bool) : Prop := sA [70] A C ∧ (∀ k, k < 36 → C 70 k = nI (if k < m then w1 n1 n2 g1 g2 R w k else w k)) ∧ more = (List.range m).any (gok n1 n2 g1 g2 w)
theorem JM.bump {R : Nat} {w : Nat → Nat} {m : Nat} {C : Nat → Nat → Int32} {more : Bool} (h : JM A n1 n2 g1 g2 R w m C more) (hg : gok n1 n2 g1 g2 w m = false) : JM A n1 n2 g1 g2 R w (m + 1) C more := by
  obtain ⟨h1, h2, h3⟩ := h
  refine ⟨h1, fun k hk => ?_, by rw [anyB, hg, h3]; simp⟩
  rw [h2 k hk]
  by_cases e : k = m
  · subst e
    have : w1 n1 n2 g1 g2 R w k = w k := by unfold w1; rw [hg]; rfl
    simp [this]
  · by_cases e2 : k < m
    · simp [e2, show k < m + 1 by omega]
    · simp [e2, show ¬ k < m + 1 by omega]
theorem gok_out {w : Nat → Nat} {s t : Nat} (ht6 : t < 6) (ht : n2 ≤ t) : gok n1 n2 g1 g2 w (6 * s + t) = false := by
  unfold gok rs
  rw [show (6 * s + t) / 6 = s by omega, show (6 * s + t) % 6 = t by omega]
  simp [show ¬ t < n2 by omega]
theorem gok_out1 {w : Nat → Nat} {s t : Nat} (ht6 : t < 6) (hs : n1 ≤ s) : gok n1 n2 g1 g2 w (6 * s + t) = false := by
  unfold gok rs
  rw [show (6 * s + t) / 6 = s by omega, show (6 * s + t) % 6 = t by omega]
  simp [show ¬ s < n1 by omega]
theorem JM.bumps {R : Nat} {w : Nat → Nat} {C : Nat → Nat → Int32} {more : Bool} (e : Nat) : ∀ (c m : Nat), m + c = e → (∀ k, m ≤ k → k < e → gok n1 n2 g1 g2 w k = false) → JM A n1 n2 g1 g2 R w m C more → JM A n1 n2 g1 g2 R w e C more := by
  intro c
  induction c with
  | zero => intro m hm _ h; rw [show e = m by omega]; exact h
  | succ c ih => intro m hm hk h; exact ih (m + 1) (by omega) (fun k h1 h2 => hk k (by omega) h2) (h.bump (hk m (Nat.le_refl m) (by omega)))
theorem hg_or (f : Nat → Nat) : hg f = (List.range 3).any (fun l => decide (f l ≠ 0)) := by
  unfold hg
  simp [List.range_succ, Bool.or_assoc]
set_option maxHeartbeats 2000000 in
theorem c_Mo_round (hi : i < 8) (hj : j < 8) (hm1 : MP A i n1 g1) (hm2 : MP A j n2 g2) (hw1 : GW n1 g1) (hw2 : GW n2 g2) {R : Nat} (hR : R < 900) {w : Nat → Nat} (hw : WE A 70 w) (hwl : ∀ k, w k < R) : ∃ A', sA [70] A A' ∧ WE A' 70 (w1 n1 n2 g1 g2 R w) ∧ ∀ q0 (v5 v6 v7 v8 : Value), (∀ v5 v6 v7 v8 : Value, ev (d + 3) t_Mo_goes 26 [.ref 62, .int (nI i), .int (nI j), .int (z01 ((List.range 36).any (gok n1 n2 g1 g2 w))), .int (nI (R + 1)), v5, v6, v7, v8] [] (hp Y F A') q0) → ev (d + 3) t_Mo_goes 26 [.ref 62, .int (nI i), .int (nI j), .int 1, .int (nI R), v5, v6, v7, v8] [] (hp Y F A) q0 := by
  have hn1 := hw1.1.2
  have hn2 := hw2.1.2
  -- one pair
  have pair : ∀ s t, s < n1 → t < n2 → ∀ C more, JM A n1 n2 g1 g2 R w (6 * s + t) C more → ∃ C' more', JM A n1 n2 g1 g2 R w (6 * s + t + 1) C' more' ∧ ∀ q0 (v7 v8 : Value), (∀ v7 v8 : Value, ev (d + 3) t_Mo_goes 143 [.ref 62, .int (nI i), .int (nI j), .int (z01 more'), .int (nI R), .int (nI s), .int (nI t), v7, v8] [] (hp Y F C') q0) → ev (d + 3) t_Mo_goes 60 [.ref 62, .int (nI i), .int (nI j), .int (z01 more), .int (nI R), .int (nI s), .int (nI t), v7, v8] [] (hp Y F C) q0 := by
    intro s t hs ht C more hJ
    obtain ⟨j1, j2, j3⟩ := id hJ
    have hm1' : MP C i n1 g1 := hm1.frame (j1 63 (by decide)) (j1 64 (by decide))
    have hm2' : MP C j n2 g2 := hm2.frame (j1 63 (by decide)) (j1 64 (by decide))
    have hix : 6 * nI s + nI t = nI (6 * s + t) := by rw [show (6 : Int32) = nI 6 from rfl, pk_mul, nI_add]
    obtain ⟨w', hw'⟩ : ∃ w' : Nat → Nat, w' = fun k => if k < 6 * s + t then w1 n1 n2 g1 g2 R w k else w k := ⟨_, rfl⟩
    have hw'W : WE C 70 w' := fun k hk => by rw [j2 k hk, hw']
    have hw'l : ∀ k, w' k < 1000 := fun k => by
      rw [hw']
      have := hwl k
      dsimp only
      unfold w1
      split
      · cases gok n1 n2 g1 g2 w k <;> simp <;> omega
      · omega
    have hth : ∀ a b, (decide (w' (6 * a + b) = 0) || decide (R ≤ w' (6 * a + b))) = decide (w (6 * a + b) = 0) := by
      intro a b
      have h1 := hwl (6 * a + b)
      by_cases e : 6 * a + b < 6 * s + t
      · have hv : w' (6 * a + b) = w1 n1 n2 g1 g2 R w (6 * a + b) := by rw [hw']; exact if_pos e
        rw [hv]
        unfold w1
        cases hgo : gok n1 n2 g1 g2 w (6 * a + b) with
        | true =>
          have h0 : w (6 * a + b) = 0 := by
            unfold gok rs at hgo
            simp only [Bool.and_eq_true, decide_eq_true_eq] at hgo
            rw [show 6 * ((6 * a + b) / 6) + (6 * a + b) % 6 = 6 * a + b by omega] at hgo
            exact hgo.1.2
          simp [h0]
        | false => simp [show ¬ R ≤ w (6 * a + b) by omega]
      · have hv : w' (6 * a + b) = w (6 * a + b) := by rw [hw']; exact if_neg e
        rw [hv]
        simp [show ¬ R ≤ w (6 * a + b) by omega]
    have hsd : ∀ l, sM n1 n2 g1 g2 (fun a b => decide (w' (6 * a + b) = 0) || decide (R ≤ w' (6 * a + b))) s t l = sd g1 g2 (rs n1 n2 w) s t l := fun l => (sM_eq hw1 hw2 (fun a b ha hb => by rw [hth]; unfold rs; simp [ha, hb]) s t l).symm
    have hwst : C 70 (6 * s + t) = nI (w (6 * s + t)) := by rw [j2 _ (by omega)]; simp
    have hgk : gok n1 n2 g1 g2 w (6 * s + t) = (decide (w (6 * s + t) = 0) && hg (sd g1 g2 (rs n1 n2 w) s t)) := by
      unfold gok
      rw [show (6 * s + t) / 6 = s by omega, show (6 * s + t) % 6 = t by omega]
      congr 1
      unfold rs
      simp [hs, ht]
    have hlt := hwl (6 * s + t)
    -- the letters
    have letters : ∀ q0 (v8 : Value), (∀ v8 : Value, ev (d + 3) t_Mo_goes 121 [.ref 62, .int (nI i), .int (nI j), .int (z01 more), .int (nI R), .int (nI s), .int (nI t), .int (z01 (gok n1 n2 g1 g2 w (6 * s + t))), v8] [] (hp Y F C) q0) → ev (d + 3) t_Mo_goes 66 [.ref 62, .int (nI i), .int (nI j), .int (z01 more), .int (nI R), .int (nI s), .int (nI t), .int 0, .int 0] [] (hp Y F C) q0 := by
      intro q0 v8 h
      by_cases e0 : w (6 * s + t) = 0
      · have h1 := lp_to (E := fun l q => ev (d + 3) t_Mo_goes 66 [.ref 62, .int (nI i), .int (nI j), .int (z01 more), .int (nI R), .int (nI s), .int (nI t), .int (z01 ((List.range l).any (fun l => decide (sd g1 g2 (rs n1 n2 w) s t l ≠ 0)))), .int (nI l)] [] (hp Y F C) q) 3 (fun l hl q hq => by
          rw [nI_succ, anyB, ← z01_or] at hq
          repeat (refine ev_np [] rfl rfl rfl ?_)
          refine ev_ie (nI_ge (b := 3) hl (by omega)) ?_
          repeat (refine ev_np [] rfl rfl rfl ?_)
          refine ev_gr rfl (by rfl) (by rfl) ?_
          repeat (refine ev_np [] rfl rfl rfl ?_)
          refine ev_an rfl (by rfl) (j := 6 * s + t) hix (by omega) rfl ?_
          rw [hwst, e0]
          repeat (refine ev_np [] rfl rfl rfl ?_)
          have hc9 := c_Mo_why (Y := Y) (F := F) d hi hj hm1' hm2' hn1 hn2 (fun s l t => (hw1.2 s l t).1) (fun s l t => (hw2.2 s l t).1) hw'W hw'l (s := s) (t := t) (l := l) (R := R) (by omega) (by omega) hl (by omega)
          rw [hsd] at hc9
          refine ev_vc rfl (by rfl) (by rfl) rfl (hc9) ?_
          repeat (refine ev_np [] rfl rfl rfl ?_)
          have hle := sd_le g1 g2 (rs n1 n2 w) s t l
          by_cases e : sd g1 g2 (rs n1 n2 w) s t l = 0
          · rw [e]
            rw [decide_eq_false (fun z => z e)] at hq
            repeat (refine ev_np [66] rfl rfl rfl ?_)
            exact hq
          · refine ev_ie (nI_nle (by omega) (by omega)) ?_
            rw [decide_eq_true e] at hq
            repeat (refine ev_np [66] rfl rfl rfl ?_)
            exact hq) q0 (by
          repeat (refine ev_np [121] rfl rfl rfl ?_)
          have h9 := h (.int (nI 3))
          rw [hgk, hg_or, decide_eq_true e0, Bool.true_and] at h9
          exact h9)
        exact h1
      · have hgf : gok n1 n2 g1 g2 w (6 * s + t) = false := by rw [hgk]; simp [e0]
        rw [hgf] at h
        repeat (refine ev_np [] rfl rfl rfl ?_)
        refine ev_gr rfl (by rfl) (by rfl) ?_
        repeat (refine ev_np [] rfl rfl rfl ?_)
        refine ev_an rfl (by rfl) (j := 6 * s + t) hix (by omega) rfl ?_
        rw [hwst]
        repeat (refine ev_np [] rfl rfl rfl ?_)
        refine ev_it (nI_ne0 (by omega) (by omega)) ?_
        exact h _
    cases hgo : gok n1 n2 g1 g2 w (6 * s + t) with
    | false =>
      refine ⟨C, more, hJ.bump hgo, fun q0 v7 v8 h => ?_⟩
      repeat (refine ev_np [66] rfl rfl rfl ?_)
      refine letters q0 v8 (fun v8 => ?_)
      rw [hgo]
      repeat (refine ev_np [143] rfl rfl rfl ?_)
      exact h _ _
    | true =>
      refine ⟨va_up C 70 (upd (C 70) (6 * s + t) (nI R)), true, ⟨j1.tr (sA.up (by decide)), fun k hk => ?_, by rw [anyB, hgo]; simp⟩, fun q0 v7 v8 h => ?_⟩
      · have e9 : va_up C 70 (upd (C 70) (6 * s + t) (nI R)) 70 = upd (C 70) (6 * s + t) (nI R) := va_up_s _ _ _
        rw [e9]
        unfold upd
        by_cases e : k = 6 * s + t
        · subst e
          have : w1 n1 n2 g1 g2 R w (6 * s + t) = R := by unfold w1; rw [hgo]; rfl
          simp [this]
        · rw [if_neg e, j2 k hk]
          by_cases e2 : k < 6 * s + t
          · simp [e2, show k < 6 * s + t + 1 by omega]
          · simp [e2, show ¬ k < 6 * s + t + 1 by omega]
      · repeat (refine ev_np [66] rfl rfl rfl ?_)
        refine letters q0 v8 (fun v8 => ?_)
        rw [hgo]
        repeat (refine ev_np [] rfl rfl rfl ?_)
        refine ev_gr rfl (by rfl) (by rfl) ?_
        repeat (refine ev_np [] rfl rfl rfl ?_)
        refine ev_am rfl (by rfl) hix (by omega) rfl ?_
        repeat (refine ev_np [143] rfl rfl rfl ?_)
        exact h _ _
  -- a row of pairs
  have row : ∀ s, s < n1 → ∀ C more, JM A n1 n2 g1 g2 R w (6 * s) C more → ∃ C' more', JM A n1 n2 g1 g2 R w (6 * (s + 1)) C' more' ∧ ∀ q0 (v6 v7 v8 : Value), (∀ v6 v7 v8 : Value, ev (d + 3) t_Mo_goes 149 [.ref 62, .int (nI i), .int (nI j), .int (z01 more'), .int (nI R), .int (nI s), v6, v7, v8] [] (hp Y F C') q0) → ev (d + 3) t_Mo_goes 49 [.ref 62, .int (nI i), .int (nI j), .int (z01 more), .int (nI R), .int (nI s), .int 0, v7, v8] [] (hp Y F C) q0 := by
    intro s hs C more hJ
    obtain ⟨⟨C', more'⟩, h1, h2⟩ := lp_ex (α := (Nat → Nat → Int32) × Bool) (fun t X => JM A n1 n2 g1 g2 R w (6 * s + t) X.1 X.2) (fun t X q0 => ∀ v7 v8 : Value, ev (d + 3) t_Mo_goes 49 [.ref 62, .int (nI i), .int (nI j), .int (z01 X.2), .int (nI R), .int (nI s), .int (nI t), v7, v8] [] (hp Y F X.1) q0) n2 (fun t X ht hI => by
      obtain ⟨C1, m1⟩ := X
      dsimp only at hI ⊢
      obtain ⟨C2, m2, k1, k2⟩ := pair s t hs ht C1 m1 hI
      refine ⟨(C2, m2), k1, fun q0 h v7 v8 => ?_⟩
      dsimp only at h
      have h64 : C1 64 j = nI n2 := by rw [hI.1 64 (by decide)]; exact hm2.1
      repeat (refine ev_np [] rfl rfl rfl ?_)
      refine ev_gr rfl (by rfl) (by rfl) ?_
      repeat (refine ev_np [] rfl rfl rfl ?_)
      refine ev_an rfl (by rfl) rfl (by omega) rfl ?_
      rw [h64]
      repeat (refine ev_np [] rfl rfl rfl ?_)
      refine ev_ie (nI_ge ht (by omega)) ?_
      refine k2 q0 v7 v8 (fun v7 v8 => ?_)
      repeat (refine ev_np [49] rfl rfl rfl ?_)
      have h9 := h v7 v8
      rw [nI_succ] at h9
      exact h9) n2 0 (C, more) (by omega) hJ
    dsimp only at h1 h2
    refine ⟨C', more', JM.bumps (6 * (s + 1)) (6 - n2) (6 * s + n2) (by omega) (fun k h3 h4 => ?_) h1, fun q0 v6 v7 v8 h => ?_⟩
    · rw [show k = 6 * s + (k - 6 * s) by omega]
      exact gok_out (by omega) (by omega)
    · refine h2 q0 (fun v7 v8 => ?_) v7 v8
      have h64 : C' 64 j = nI n2 := by rw [h1.1 64 (by decide)]; exact hm2.1
      repeat (refine ev_np [] rfl rfl rfl ?_)
      refine ev_gr rfl (by rfl) (by rfl) ?_
      repeat (refine ev_np [] rfl rfl rfl ?_)
      refine ev_an rfl (by rfl) rfl (by omega) rfl ?_
      rw [h64]
      repeat (refine ev_np [] rfl rfl rfl ?_)
      refine ev_it (nI_le (Nat.le_refl _) (by omega)) ?_
      exact h _ _ _
  obtain ⟨⟨C', more'⟩, h1, h2⟩ := lp_ex (α := (Nat → Nat → Int32) × Bool) (fun s X => JM A n1 n2 g1 g2 R w (6 * s) X.1 X.2) (fun s X q0 => ∀ v6 v7 v8 : Value, ev (d + 3) t_Mo_goes 35 [.ref 62, .int (nI i), .int (nI j), .int (z01 X.2), .int (nI R), .int (nI s), v6, v7, v8] [] (hp Y F X.1) q0) n1 (fun s X hs hI => by
    obtain ⟨C1, m1⟩ := X
    dsimp only at hI ⊢
    obtain ⟨C2, m2, k1, k2⟩ := row s hs C1 m1 hI
    refine ⟨(C2, m2), k1, fun q0 h v6 v7 v8 => ?_⟩
    dsimp only at h
    have h64 : C1 64 i = nI n1 := by rw [hI.1 64 (by decide)]; exact hm1.1
    repeat (refine ev_np [] rfl rfl rfl ?_)
    refine ev_gr rfl (by rfl) (by rfl) ?_
    repeat (refine ev_np [] rfl rfl rfl ?_)
    refine ev_an rfl (by rfl) rfl (by omega) rfl ?_
    rw [h64]
    repeat (refine ev_np [] rfl rfl rfl ?_)
    refine ev_ie (nI_ge hs (by omega)) ?_
    repeat (refine ev_np [49] rfl rfl rfl ?_)
    refine k2 q0 (.int 0) v7 v8 (fun v6 v7 v8 => ?_)
    repeat (refine ev_np [35] rfl rfl rfl ?_)
    have h9 := h v6 v7 v8
    rw [nI_succ] at h9
    exact h9) n1 0 (A, false) (by omega) ⟨sA.rf, fun k hk => by show A 70 k = _; rw [hw k hk]; simp, rfl⟩
  dsimp only at h1 h2
  have hJ := JM.bumps 36 (36 - 6 * n1) (6 * n1) (by omega) (fun k h3 h4 => by
    rw [show k = 6 * (k / 6) + k % 6 by omega]
    exact gok_out1 (by omega) (by omega)) h1
  obtain ⟨j1, j2, j3⟩ := hJ
  refine ⟨C', j1, fun k hk => by rw [j2 k hk]; simp [hk], fun q0 v5 v6 v7 v8 h => ?_⟩
  repeat (refine ev_np [35] rfl rfl rfl ?_)
  refine h2 q0 (fun v6 v7 v8 => ?_) v6 v7 v8
  have h64 : C' 64 i = nI n1 := by rw [j1 64 (by decide)]; exact hm1.1
  repeat (refine ev_np [] rfl rfl rfl ?_)
  refine ev_gr rfl (by rfl) (by rfl) ?_
  repeat (refine ev_np [] rfl rfl rfl ?_)
  refine ev_an rfl (by rfl) rfl (by omega) rfl ?_
  rw [h64]
  repeat (refine ev_np [] rfl rfl rfl ?_)
  refine ev_it (nI_le (Nat.le_refl _) (by omega)) ?_
  repeat (refine ev_np [26] rfl rfl rfl ?_)
  rw [← j3, nI_succ] at h
  exact h _ _ _ _
theorem c_Mo_goes (hi : i < 8) (hj : j < 8) (hm1 : MP A i n1 g1) (hm2 : MP A j n2 g2) (hw1 : GW n1 g1) (hw2 : GW n2 g2) : ∃ A', xa_rn xa_ms (d + 4) n_Mo_goes [.ref 62, .int (nI i), .int (nI j)] (hp Y F A) none (hp Y F A') ∧ sA [70] A A' ∧ WE A' 70 (wE n1 n2 g1 g2) := by
  obtain ⟨A2, hA2⟩ : ∃ A2, A2 = va_up A 70 (fun j => if j < 36 then 0 else A 70 j) := ⟨_, rfl⟩
  have sA2 : sA [70] A A2 := by rw [hA2]; exact sA.up (by decide)
  have fill : ∀ q0, (∀ v3 : Value, ev (d + 3) t_Mo_goes 21 [.ref 62, .int (nI i), .int (nI j), v3, .float 0, .float 0, .float 0, .float 0, .float 0] [] (hp Y F A2) q0) → ev (d + 3) t_Mo_goes 2 [.ref 62, .int (nI i), .int (nI j), .int 0, .float 0, .float 0, .float 0, .float 0, .float 0] [] (hp Y F A) q0 := by
    intro q0 h
    have h0 : A = va_up A 70 (fun j => if j < 0 then 0 else A 70 j) := by
      have : (fun j => if j < 0 then 0 else A 70 j) = A 70 := by funext j; simp
      rw [this, va_up_id]
    refine (congrArg (fun B => ev (d + 3) t_Mo_goes 2 [.ref 62, .int (nI i), .int (nI j), .int 0, .float 0, .float 0, .float 0, .float 0, .float 0] [] (hp Y F B) q0) h0).mpr ?_
    refine lp_to (E := fun k q => ev (d + 3) t_Mo_goes 2 [.ref 62, .int (nI i), .int (nI j), .int (nI k), .float 0, .float 0, .float 0, .float 0, .float 0] [] (hp Y F (va_up A 70 (fun j => if j < k then 0 else A 70 j))) q) 36 (fun k hk q hq => ?_) _ ?_
    · repeat (refine ev_np [] rfl rfl rfl ?_)
      refine ev_ie (nI_ge (b := 36) hk (by omega)) ?_
      repeat (refine ev_np [] rfl rfl rfl ?_)
      refine ev_gr rfl (by rfl) (by rfl) ?_
      repeat (refine ev_np [] rfl rfl rfl ?_)
      refine ev_am rfl (by rfl) rfl hk rfl ?_
      repeat (refine ev_np [2] rfl rfl rfl ?_)
      rw [bx_uu, va_up_s]
      have e1 : upd (fun j => if j < k then 0 else A 70 j) k 0 = fun j => if j < k + 1 then 0 else A 70 j := by
        funext j
        unfold upd
        by_cases e : j = k
        · simp [e]
        · by_cases e2 : j < k
          · simp [e, e2, show j < k + 1 by omega]
          · simp [e, e2, show ¬ j < k + 1 by omega]
      rw [e1]
      rw [nI_succ] at hq
      exact hq
    · repeat (refine ev_np [21] rfl rfl rfl ?_)
      rw [← hA2]
      exact h _
  have key : ∀ m R (C : Nat → Nat → Int32) (more : Bool), R + m = 37 → sA [70] A C → WE C 70 (wR n1 n2 g1 g2 R) → (more = true ∧ R < 37 ∨ ∃ R0, R = R0 + 1 ∧ more = (List.range 36).any (gok n1 n2 g1 g2 (wR n1 n2 g1 g2 R0))) → ∃ A', sA [70] A A' ∧ WE A' 70 (wE n1 n2 g1 g2) ∧ ∀ q0 (v5 v6 v7 v8 : Value), (∀ v3 v4 v5 v6 v7 v8 : Value, ev (d + 3) t_Mo_goes 161 [.ref 62, .int (nI i), .int (nI j), v3, v4, v5, v6, v7, v8] [] (hp Y F A') q0) → ev (d + 3) t_Mo_goes 26 [.ref 62, .int (nI i), .int (nI j), .int (z01 more), .int (nI (R + 1)), v5, v6, v7, v8] [] (hp Y F C) q0 := by
    intro m
    induction m with
    | zero =>
      intro R C more hR hsA hW hmore
      have hR37 : R = 37 := by omega
      subst hR37
      have hmf : more = false := by
        rcases hmore with ⟨-, h⟩ | ⟨R0, h1, h2⟩
        · omega
        · have : R0 = 36 := by omega
          subst this
          rw [h2]
          cases hz : (List.range 36).any (gok n1 n2 g1 g2 (wR n1 n2 g1 g2 36)) with
          | false => rfl
          | true =>
            obtain ⟨k, hk, hk2⟩ := List.any_eq_true.mp hz
            rw [wR_end k (List.mem_range.mp hk)] at hk2
            cases hk2
      subst hmf
      refine ⟨C, hsA, hW, fun q0 v5 v6 v7 v8 h => ?_⟩
      repeat (refine ev_np [161] rfl rfl rfl ?_)
      exact h _ _ _ _ _ _
    | succ m ih =>
      intro R C more hR hsA hW hmore
      cases more with
      | false =>
        rcases hmore with ⟨h, -⟩ | ⟨R0, rfl, hno⟩
        · cases h
        · have hno := any_false hno.symm
          have hE : ∀ k, k < 36 → wE n1 n2 g1 g2 k = wR n1 n2 g1 g2 (R0 + 1) k := fun k hk => by rw [wE_of (by omega) hno hk]; exact (wR_fix hno 1 k hk).symm
          refine ⟨C, hsA, fun k hk => by rw [hE k hk]; exact hW k hk, fun q0 v5 v6 v7 v8 h => ?_⟩
          repeat (refine ev_np [161] rfl rfl rfl ?_)
          exact h _ _ _ _ _ _
      | true =>
        have hm1' : MP C i n1 g1 := hm1.frame (hsA 63 (by decide)) (hsA 64 (by decide))
        have hm2' : MP C j n2 g2 := hm2.frame (hsA 63 (by decide)) (hsA 64 (by decide))
        obtain ⟨C', b1, b2, b3⟩ := c_Mo_round (Y := Y) (F := F) d hi hj hm1' hm2' hw1 hw2 (R := R + 1) (by omega) hW (fun k => by have := wR_le (n1 := n1) (n2 := n2) (g1 := g1) (g2 := g2) R k; omega)
        obtain ⟨A', c1, c2, c3⟩ := ih (R + 1) C' _ (by omega) (hsA.tr b1) b2 (Or.inr ⟨R, rfl, rfl⟩)
        exact ⟨A', c1, c2, fun q0 v5 v6 v7 v8 h => b3 q0 v5 v6 v7 v8 (fun v5 v6 v7 v8 => c3 q0 v5 v6 v7 v8 h)⟩
  obtain ⟨A', c1, c2, c3⟩ := key 37 0 A2 true rfl sA2 (fun k hk => by rw [hA2, va_up_s]; simp [hk, wR, nI_0]) (Or.inl ⟨rfl, by decide⟩)
  refine ⟨A', ?_, c1, c2⟩
  refine rn_in m_Mo_goes rfl ⟨rfl, rfl⟩ ?_
  show ev _ t_Mo_goes 0 [.ref 62, .int (nI i), .int (nI j), .float 0, .float 0, .float 0, .float 0, .float 0, .float 0] [] _ _
  repeat (refine ev_np [2] rfl rfl rfl ?_)
  refine fill _ (fun v3 => ?_)
  repeat (refine ev_np [26] rfl rfl rfl ?_)
  refine c3 _ _ _ _ _ (fun v3 v4 v5 v6 v7 v8 => ?_)
  exact ev_rv rfl
end GOES
end
section
/-! ===== class Plan: the other writes, the counts ===== -/
section CPY
variable {d : Nat} {tb : List xa_I} {pc : Nat} {ls r : List Value} {q : xa_R} {Y : Nat × (Nat → Int32)} {F A : Nat → Nat → Int32} {a b n : Nat}
/-- an array is copied whole -/
theorem ev_cp {idx len : Nat} {l : List Nat} {cv : Int32} (hi : xa_lk tb pc = some (.invokestatic idx, len, 2 :: l, cv)) (hb : lo_at b = some (.inl n)) (ha : lo_at a = some (.inl n)) (hn : Nat.blt n 1000 = true) (hr : xa_room r = true) (kk : ev d tb (pc + len) ls r (hp Y F (va_up A a (va_cpy (A b) (A a) 0 0 n))) q) : ev d tb pc ls (.int (nI n) :: .int 0 :: .ref a :: .int 0 :: .ref b :: r) (hp Y F A) q := by
  have hn' : n < 1000 := Nat.le_of_ble_eq_true hn
  have hc : (nI n).toNatClampNeg = n := nI_clamp (by omega)
  have h0 : (0 : Int32).toNatClampNeg = 0 := rfl
  refine ev_nx (?_ : xa_one tb pc ls (.int (nI n) :: .int 0 :: .ref a :: .int 0 :: .ref b :: r) (hp Y F A) = some (.inl (pc + len, ls, r, hp Y F (va_up A a (va_cpy (A b) (A a) 0 0 n))))) kk
  unfold xa_one
  rw [hi]
  show xa_copy (pc + len) ls (.int (nI n) :: .int 0 :: .ref a :: .int 0 :: .ref b :: r) (hp Y F A) = _
  unfold xa_copy
  simp only [hp_get ha, hp_get hb, lo_cell, hc, h0]
  rw [if_pos ⟨⟨trivial, trivial⟩, ⟨by decide, by decide, nI_pos (by omega)⟩, by omega, by omega, hr⟩, hp_setA ha]
  rfl
end CPY
section PLAN3
variable {Y : Nat × (Nat → Int32)} {F A : Nat → Nat → Int32} {p q : Nat} (d : Nat)
theorem PL_ne {p : Nat} (h : PL p) : p < 100 := by have := (lo_at_lt h.1).2; omega
theorem c_Plan_become (hp0 : PL p) (hq0 : PL q) {n : Nat} {g : Nat → Nat → Nat → Nat} (hc : CP F A q n g) : ∃ F' A', xa_rn xa_ms (d + 1) n_Plan_become [.ref p, .ref q] (hp Y F A) none (hp Y F' A') ∧ sA [p + 1, p + 2] A A' ∧ sF [p * 100] F F' ∧ CP F' A' p n g := by
  have n12 : ¬ p + 1 = p + 2 := by omega
  have n21 : ¬ p + 2 = p + 1 := by omega
  have hq21 : q + 2 ≠ p + 1 := by
    rcases PL_in hp0 with rfl | rfl | rfl | rfl | rfl | rfl | rfl | rfl <;> rcases PL_in hq0 with rfl | rfl | rfl | rfl | rfl | rfl | rfl | rfl <;> decide
  refine ⟨uF F p 0 (F q 0), va_up (va_up A (p + 1) (va_cpy (A (q + 1)) (A (p + 1)) 0 0 18)) (p + 2) (va_cpy (A (q + 2)) (A (p + 2)) 0 0 18), ?_, (sA.up (by simp)).tr (sA.up (by simp)), sF.up (by simp), ⟨by rw [uF_s]; exact hc.1, fun s l hs hl => ?_⟩⟩
  · refine rn_in m_Plan_become rfl ⟨rfl, rfl⟩ ?_
    show ev _ t_Plan_become 0 [.ref p, .ref q] [] _ _
    repeat (refine ev_np [] rfl rfl rfl ?_)
    refine ev_gi rfl hq0.1 rfl ?_
    refine ev_pf rfl hp0.1 ⟨rfl, rfl⟩ ?_
    repeat (refine ev_np [] rfl rfl rfl ?_)
    refine ev_gr rfl hq0.1 rfl ?_
    repeat (refine ev_np [] rfl rfl rfl ?_)
    refine ev_gr rfl hp0.1 rfl ?_
    repeat (refine ev_np [] rfl rfl rfl ?_)
    refine ev_gr rfl hp0.1 rfl ?_
    refine ev_ln rfl hp0.2.1 ?_
    refine ev_cp rfl hq0.2.1 hp0.2.1 rfl rfl ?_
    repeat (refine ev_np [] rfl rfl rfl ?_)
    refine ev_gr rfl hq0.1 rfl ?_
    repeat (refine ev_np [] rfl rfl rfl ?_)
    refine ev_gr rfl hp0.1 rfl ?_
    repeat (refine ev_np [] rfl rfl rfl ?_)
    refine ev_gr rfl hp0.1 rfl ?_
    refine ev_ln rfl hp0.2.2 ?_
    refine ev_cp rfl hq0.2.2 hp0.2.2 rfl rfl ?_
    rw [va_up_n _ _ n21, va_up_n _ _ hq21]
    exact ev_rv rfl
  · rw [va_up_n _ _ n12, va_up_s, va_up_s]
    unfold va_cpy
    rw [if_pos (by omega), if_pos (by omega), show 0 + (3 * s + l - 0) = 3 * s + l by omega]
    exact hc.2 s l hs hl
theorem c_Plan_resize (hp0 : PL p) {n : Nat} (h1 : 1 ≤ n) (h6 : n ≤ 6) : xa_rn xa_ms (d + 1) n_Plan_resize [.ref p, .int (nI n)] (hp Y F A) none (hp Y (uF F p 0 (nI n)) A) := by
  have e1 : (if (6 : Int32) < nI n then (6 : Int32) else nI n) = nI n := if_neg (nI_nlt (a := 6) h6 (by omega))
  have e2 : (if (1 : Int32) < nI n then nI n else (1 : Int32)) = nI n := by
    by_cases e : n = 1
    · subst e; rfl
    · exact if_pos (nI_lt (a := 1) (by omega) (by omega))
  refine rn_in m_Plan_resize rfl ⟨rfl, rfl⟩ ?_
  show ev _ t_Plan_resize 0 [.ref p, .int (nI n)] [] _ _
  repeat (refine ev_np [] rfl rfl rfl ?_)
  rw [e1, e2]
  refine ev_pf rfl hp0.1 ⟨rfl, rfl⟩ ?_
  exact ev_rv rfl
theorem c_Plan_reset (hp0 : PL p) {n : Nat} (h1 : 1 ≤ n) (h6 : n ≤ 6) : ∃ F' A', xa_rn xa_ms (d + 2) n_Plan_reset [.ref p, .int (nI n)] (hp Y F A) none (hp Y F' A') ∧ sA [p + 1, p + 2] A A' ∧ sF [p * 100] F F' ∧ CP F' A' p n (fun _ _ _ => 0) := by
  have n12 : ¬ p + 1 = p + 2 := by omega
  have n21 : ¬ p + 2 = p + 1 := by omega
  refine ⟨uF F p 0 (nI n), va_up (va_up A (p + 1) (fun j => if j < 18 then 0 else A (p + 1) j)) (p + 2) (fun j => if j < 18 then 0 else A (p + 2) j), ?_, (sA.up (by simp)).tr (sA.up (by simp)), sF.up (by simp), ⟨by rw [uF_s], fun s l hs hl => ?_⟩⟩
  · refine rn_in m_Plan_reset rfl ⟨rfl, rfl⟩ ?_
    show ev _ t_Plan_reset 0 [.ref p, .int (nI n)] [] _ _
    repeat (refine ev_np [] rfl rfl rfl ?_)
    refine ev_vc rfl rfl hp0.1 rfl (c_Plan_resize d hp0 h1 h6) ?_
    repeat (refine ev_np [] rfl rfl rfl ?_)
    refine ev_gr rfl hp0.1 rfl ?_
    repeat (refine ev_np [] rfl rfl rfl ?_)
    refine ev_ca rfl (c_Arr_fill d hp0.2.1 (by decide) 0) ?_
    repeat (refine ev_np [] rfl rfl rfl ?_)
    refine ev_gr rfl hp0.1 rfl ?_
    repeat (refine ev_np [] rfl rfl rfl ?_)
    refine ev_ca rfl (c_Arr_fill d hp0.2.2 (by decide) 0) ?_
    rw [va_up_n _ _ n21]
    exact ev_rv rfl
  · rw [va_up_n _ _ n12, va_up_s, va_up_s]
    rw [if_pos (by omega), if_pos (by omega)]
    exact ⟨rfl, rfl⟩
/-- an arrow becomes v -/
theorem c_Plan_lay (hp0 : PL p) {n : Nat} {g : Nat → Nat → Nat → Nat} (hc : CP F A p n g) {s l t v : Nat} (hs : s < 6) (hl : l < 3) (ht : t < 6) (hv : v ≤ 2) : ∃ A', xa_rn xa_ms (d + 3) n_Plan_lay [.ref p, .int (nI s), .int (nI l), .int (nI t), .int (nI v)] (hp Y F A) none (hp Y F A') ∧ sA [p + 1, p + 2] A A' ∧ CP F A' p n (gset g s l t v) := by
  have n12 : ¬ p + 1 = p + 2 := by omega
  have n21 : ¬ p + 2 = p + 1 := by omega
  obtain ⟨q1, q2⟩ := hc.2 s l hs hl
  obtain ⟨A1, hA1⟩ : ∃ A1, A1 = va_up (va_up A (p + 1) (upd (A (p + 1)) (3 * s + l) (A (p + 1) (3 * s + l) &&& (((1 : Int32) <<< (nI t &&& 31)) ^^^ (-1))))) (p + 2) (upd (A (p + 2)) (3 * s + l) (A (p + 2) (3 * s + l) &&& (((1 : Int32) <<< (nI t &&& 31)) ^^^ (-1)))) := ⟨_, rfl⟩
  have hsA : sA [p + 1, p + 2] A A1 := by rw [hA1]; exact (sA.up (by simp)).tr (sA.up (by simp))
  have hcp1 : CP F A1 p n (gset g s l t 0) := by
    refine ⟨hc.1, fun s' l' hs' hl' => ?_⟩
    obtain ⟨r1, r2⟩ := hc.2 s' l' hs' hl'
    rw [hA1, va_up_n _ _ n12, va_up_s, va_up_s]
    unfold upd
    by_cases he : s' = s ∧ l' = l
    · obtain ⟨rfl, rfl⟩ := he
      rw [if_pos rfl, if_pos rfl, q1, q2, clb_bm _ ht, clb_bm _ ht]
      constructor
      · refine congrArg nI (bm_congr fun k _ => ?_)
        unfold gset
        by_cases hk : k = t <;> simp [hk]
      · refine congrArg nI (bm_congr fun k _ => ?_)
        unfold gset
        by_cases hk : k = t <;> simp [hk]
    · have hne : ¬ 3 * s' + l' = 3 * s + l := fun z => he ((pl_ix hl hl').mp z)
      rw [if_neg hne, if_neg hne, r1, r2]
      have hgs : ∀ k, gset g s l t 0 s' l' k = g s' l' k := fun k => by
        unfold gset
        rw [if_neg (fun z => he ⟨z.1, z.2.1⟩)]
      simp only [hgs]
      exact ⟨trivial, trivial⟩
  obtain ⟨A2, b1, b2, b3⟩ := c_Plan_raise (Y := Y) d hp0 hcp1 hs hl ht hv
  refine ⟨A2, ?_, hsA.tr b2, b3.congr (fun s' l' t' _ _ _ => ?_)⟩
  · refine rn_in m_Plan_lay rfl ⟨rfl, rfl⟩ ?_
    show ev _ t_Plan_lay 0 [.ref p, .int (nI s), .int (nI l), .int (nI t), .int (nI v)] [] _ _
    repeat (refine ev_np [] rfl rfl rfl ?_)
    refine ev_ca rfl (c_Plan_isSpot (d + 1) hs hl) ?_
    repeat (refine ev_np [] rfl rfl rfl ?_)
    refine ev_gr rfl hp0.1 rfl ?_
    repeat (refine ev_np [] rfl rfl rfl ?_)
    refine ev_an rfl hp0.2.1 (nI_3 s l) (by omega) rfl ?_
    repeat (refine ev_np [] rfl rfl rfl ?_)
    refine ev_am rfl hp0.2.1 (nI_3 s l) (by omega) rfl ?_
    repeat (refine ev_np [] rfl rfl rfl ?_)
    refine ev_gr rfl hp0.1 rfl ?_
    repeat (refine ev_np [] rfl rfl rfl ?_)
    refine ev_an rfl hp0.2.2 (nI_3 s l) (by omega) rfl ?_
    repeat (refine ev_np [] rfl rfl rfl ?_)
    refine ev_am rfl hp0.2.2 (nI_3 s l) (by omega) rfl ?_
    rw [va_up_n _ _ n21, ← hA1]
    repeat (refine ev_np [] rfl rfl rfl ?_)
    refine ev_vc rfl rfl hp0.1 rfl b1 ?_
    exact ev_rv rfl
  · unfold gset
    by_cases he : s' = s ∧ l' = l ∧ t' = t
    · rw [if_pos he, if_pos he]
      simp
    · rw [if_neg he, if_neg he, if_neg he]
def gset2 (g : Nat → Nat → Nat → Nat) (v : Nat) : Nat → Nat → Nat → Nat := fun a b c => if g a b c = 1 then v else g a b c
theorem c_Plan_settle (hp0 : PL p) {n : Nat} {g : Nat → Nat → Nat → Nat} (hc : CP F A p n g) (b : Bool) : ∃ A', xa_rn xa_ms (d + 1) n_Plan_settle [.ref p, .int (z01 b)] (hp Y F A) none (hp Y F A') ∧ sA [p + 1, p + 2] A A' ∧ CP F A' p n (gset2 g (bif b then 2 else 0)) := by
  have n12 : ¬ p + 1 = p + 2 := by omega
  have n21 : ¬ p + 2 = p + 1 := by omega
  obtain ⟨A', ⟨h1, h2⟩, h3⟩ := lp_ex (α := Nat → Nat → Int32) (fun k B => sA [p + 1, p + 2] A B ∧ ∀ j, B (p + 1) j = (if j < k ∧ b = false then A (p + 2) j else A (p + 1) j) ∧ B (p + 2) j = (if j < k ∧ b = true then A (p + 1) j else A (p + 2) j)) (fun k B q => ev d t_Plan_settle 2 [.ref p, .int (z01 b), .int (nI k)] [] (hp Y F B) q) 18 (fun k B hk hI => by
    obtain ⟨hs, hj⟩ := hI
    cases b with
    | true =>
      refine ⟨va_up B (p + 2) (upd (B (p + 2)) k (B (p + 1) k)), ⟨hs.tr (sA.up (by simp)), fun j => ⟨?_, ?_⟩⟩, fun q hq => ?_⟩
      · rw [va_up_n _ _ n12, (hj j).1]; simp
      · rw [va_up_s]
        unfold upd
        by_cases e : j = k
        · subst e; rw [if_pos rfl, (hj j).1]; simp
        · rw [if_neg e, (hj j).2]
          by_cases e2 : j < k
          · simp [e2, show j < k + 1 by omega]
          · simp [e2, show ¬ j < k + 1 by omega]
      · repeat (refine ev_np [] rfl rfl rfl ?_)
        refine ev_ie (nI_ge (b := 18) hk (by omega)) ?_
        repeat (refine ev_np [] rfl rfl rfl ?_)
        refine ev_gr rfl hp0.1 rfl ?_
        repeat (refine ev_np [] rfl rfl rfl ?_)
        refine ev_gr rfl hp0.1 rfl ?_
        repeat (refine ev_np [] rfl rfl rfl ?_)
        refine ev_an rfl hp0.2.1 rfl hk rfl ?_
        refine ev_am rfl hp0.2.2 rfl hk rfl ?_
        repeat (refine ev_np [2] rfl rfl rfl ?_)
        rw [nI_succ] at hq
        exact hq
    | false =>
      refine ⟨va_up B (p + 1) (upd (B (p + 1)) k (B (p + 2) k)), ⟨hs.tr (sA.up (by simp)), fun j => ⟨?_, ?_⟩⟩, fun q hq => ?_⟩
      · rw [va_up_s]
        unfold upd
        by_cases e : j = k
        · subst e; rw [if_pos rfl, (hj j).2]; simp
        · rw [if_neg e, (hj j).1]
          by_cases e2 : j < k
          · simp [e2, show j < k + 1 by omega]
          · simp [e2, show ¬ j < k + 1 by omega]
      · rw [va_up_n _ _ n21, (hj j).2]; simp
      · repeat (refine ev_np [] rfl rfl rfl ?_)
        refine ev_ie (nI_ge (b := 18) hk (by omega)) ?_
        repeat (refine ev_np [] rfl rfl rfl ?_)
        refine ev_gr rfl hp0.1 rfl ?_
        repeat (refine ev_np [] rfl rfl rfl ?_)
        refine ev_gr rfl hp0.1 rfl ?_
        repeat (refine ev_np [] rfl rfl rfl ?_)
        refine ev_an rfl hp0.2.2 rfl hk rfl ?_
        refine ev_am rfl hp0.2.1 rfl hk rfl ?_
        repeat (refine ev_np [2] rfl rfl rfl ?_)
        rw [nI_succ] at hq
        exact hq) 18 0 A rfl ⟨sA.rf, fun j => by simp⟩
  refine ⟨A', ?_, h1, hc.1, fun s l hs hl => ?_⟩
  · refine rn_in m_Plan_settle rfl ⟨rfl, rfl⟩ ?_
    show ev _ t_Plan_settle 0 [.ref p, .int (z01 b), .float 0] [] _ _
    repeat (refine ev_np [2] rfl rfl rfl ?_)
    refine h3 _ ?_
    repeat (refine ev_np [] rfl rfl rfl ?_)
    exact ev_rv rfl
  · obtain ⟨q1, q2⟩ := hc.2 s l hs hl
    rw [(h2 _).1, (h2 _).2, q1, q2]
    cases b with
    | true =>
      rw [if_neg (by simp), if_pos ⟨by omega, rfl⟩]
      constructor
      · refine congrArg nI (bm_congr fun k _ => decide_eq_decide.mpr ?_)
        unfold gset2
        split <;> (try simp) <;> omega
      · refine congrArg nI (bm_congr fun k _ => decide_eq_decide.mpr ?_)
        unfold gset2
        split <;> (try simp) <;> omega
    | false =>
      rw [if_pos ⟨by omega, rfl⟩, if_neg (by simp)]
      constructor
      · refine congrArg nI (bm_congr fun k _ => decide_eq_decide.mpr ?_)
        unfold gset2
        split <;> (try simp) <;> omega
      · refine congrArg nI (bm_congr fun k _ => decide_eq_decide.mpr ?_)
        unfold gset2
        split <;> (try simp) <;> omega
end PLAN3
end
section
/-! ===== walks: class Walker (at 58, its ground at 59), the model's ===== -/
theorem dlt {l k : Nat} (h : ¬ l = k) : decide (l < k + 1) = decide (l < k) := decide_eq_decide.mpr (by omega)
def nx (g : Nat → Nat → Nat → Nat) (u : Nat → Bool) (l : Nat) : Nat → Bool := fun t => (List.range 6).any (fun s => u s && decide (1 ≤ g s l t))
def sure (g : Nat → Nat → Nat → Nat) (u : Nat → Bool) (l : Nat) : Bool := (List.range 6).all (fun s => !(u s) || (List.range 6).any (fun t => decide (2 ≤ g s l t)))
set_option maxRecDepth 100000 in
theorem sh_tab : (List.range 64).all (fun m => (List.range 6).all fun t => decide ((nI m >>> (nI t &&& 31)) &&& 1 = z01 (m.testBit t))) = true := by decide +kernel
theorem sh_bm (f : Nat → Bool) {t : Nat} (ht : t < 6) : (nI (bm f) >>> (nI t &&& 31)) &&& 1 = z01 (f t) := by
  have := tab2 sh_tab (bm_lt f) ht
  rw [this, bm_bit _ ht]
def bcf (x : Int32) : Int32 :=
  let a := x - ((x.toUInt32 >>> ((1 : Int32).toUInt32 &&& Int32.toUInt32 31)).toInt32 &&& 1431655765)
  let b := (a &&& 858993459) + ((a.toUInt32 >>> ((2 : Int32).toUInt32 &&& Int32.toUInt32 31)).toInt32 &&& 858993459)
  let c := (b + (b.toUInt32 >>> ((4 : Int32).toUInt32 &&& Int32.toUInt32 31)).toInt32) &&& 252645135
  let e := c + (c.toUInt32 >>> ((8 : Int32).toUInt32 &&& Int32.toUInt32 31)).toInt32
  let f := e + (e.toUInt32 >>> ((16 : Int32).toUInt32 &&& Int32.toUInt32 31)).toInt32
  f &&& 63
set_option maxRecDepth 100000 in
theorem bc_tab : (List.range 64).all (fun m => (List.range 1).all fun _ => decide (bcf (nI m) = nI (cnt (fun t => m.testBit t) 6))) = true := by decide +kernel
theorem bc_bm (f : Nat → Bool) : bcf (nI (bm f)) = nI (cnt f 6) := by
  have := tab2 (P := fun m _ => bcf (nI m) = nI (cnt (fun t => m.testBit t) 6)) bc_tab (bm_lt f) (show 0 < 1 by decide)
  rw [this, cnt_congr 6 (fun t ht => bm_bit f ht)]
theorem c_Int_bitCount (d : Nat) (f : Nat → Bool) {h : xa_H} : xa_rn xa_ms (d + 1) n_Int_bitCount [.int (nI (bm f))] h (some (.int (nI (cnt f 6)))) h := by
  refine rn_in m_Int_bitCount rfl ⟨rfl, rfl⟩ ?_
  show ev _ t_Int_bitCount 0 [.int (nI (bm f))] [] _ _
  repeat (refine ev_np [] rfl rfl rfl ?_)
  exact ev_ri rfl (bc_bm f)
section WALK
variable {Y : Nat × (Nat → Int32)} {F A : Nat → Nat → Int32} {n : Nat} {g : Nat → Nat → Nat → Nat} {u : Nat → Bool} (d : Nat)
theorem PL59 : PL 59 := PL_mk (by simp)
theorem c_Walker_nextBy (hu : F 58 1 = nI (bm u)) (hc : CP F A 59 n g) {l : Nat} (hl : l < 3) : xa_rn xa_ms (d + 3) n_Walker_nextBy [.ref 58, .int (nI l)] (hp Y F A) (some (.int (nI (bm (nx g u l))))) (hp Y F A) := by
  refine rn_in m_Walker_nextBy rfl ⟨rfl, rfl⟩ ?_
  show ev _ t_Walker_nextBy 0 [.ref 58, .int (nI l), .float 0, .float 0] [] _ _
  repeat (refine ev_np [4] rfl rfl rfl ?_)
  refine lp_to (E := fun k q => ev (d + 2) t_Walker_nextBy 4 [.ref 58, .int (nI l), .int (nI (bm (fun t => (List.range k).any (fun s => u s && decide (1 ≤ g s l t))))), .int (nI k)] [] (hp Y F A) q) 6 (fun k hk q hq => ?_) _ ?_
  · rw [nI_succ] at hq
    simp only [anyB] at hq
    repeat (refine ev_np [] rfl rfl rfl ?_)
    refine ev_ie (nI_ge (b := 6) hk (by omega)) ?_
    repeat (refine ev_np [] rfl rfl rfl ?_)
    refine ev_gi rfl (by rfl) (by rfl) ?_
    repeat (refine ev_np [] rfl rfl rfl ?_)
    refine ev_ca rfl (c_MM_inSet (d + 1)) ?_
    rw [hu, bi_bm _ hk]
    cases huk : u k with
    | true =>
      repeat (refine ev_np [] rfl rfl rfl ?_)
      refine ev_gr rfl (by rfl) (by rfl) ?_
      repeat (refine ev_np [] rfl rfl rfl ?_)
      refine ev_vc rfl (by rfl) PL59.1 rfl (c_Plan_anyFrom d PL59 hk hl) ?_
      rw [(hc.2 k l hk hl).1]
      repeat (refine ev_np [4] rfl rfl rfl ?_)
      rw [or_bm]
      simp only [huk, Bool.true_and] at hq
      exact hq
    | false =>
      repeat (refine ev_np [4] rfl rfl rfl ?_)
      simp only [huk, Bool.false_and, Bool.or_false] at hq
      exact hq
  · repeat (refine ev_np [] rfl rfl rfl ?_)
    exact ev_ri rfl rfl
theorem c_Walker_isInAll (hu : F 58 1 = nI (bm u)) (hc : CP F A 59 n g) {l : Nat} (hl : l < 3) : xa_rn xa_ms (d + 3) n_Walker_isInAll [.ref 58, .int (nI l)] (hp Y F A) (some (.int (z01 (sure g u l)))) (hp Y F A) := by
  refine rn_in m_Walker_isInAll rfl ⟨rfl, rfl⟩ ?_
  show ev _ t_Walker_isInAll 0 [.ref 58, .int (nI l), .float 0] [] _ _
  repeat (refine ev_np [2] rfl rfl rfl ?_)
  have key : ∀ m k, k + m = 6 → (∀ s, s < k → (!(u s) || (List.range 6).any (fun t => decide (2 ≤ g s l t))) = true) → ev (d + 2) t_Walker_isInAll 2 [.ref 58, .int (nI l), .int (nI k)] [] (hp Y F A) (some (.int (z01 (sure g u l))), hp Y F A) := by
    intro m
    induction m with
    | zero =>
      intro k hk hall
      have hk6 : k = 6 := by omega
      subst hk6
      have hs : sure g u l = true := List.all_eq_true.mpr (fun s hs => hall s (List.mem_range.mp hs))
      rw [hs]
      repeat (refine ev_np [] rfl rfl rfl ?_)
      exact ev_rz rfl rfl (Or.inr rfl)
    | succ m ih =>
      intro k hk hall
      have hk6 : k < 6 := by omega
      have next : (!(u k) || (List.range 6).any (fun t => decide (2 ≤ g k l t))) = true → ev (d + 2) t_Walker_isInAll 33 [.ref 58, .int (nI l), .int (nI k)] [] (hp Y F A) (some (.int (z01 (sure g u l))), hp Y F A) := by
        intro hk2
        repeat (refine ev_np [2] rfl rfl rfl ?_)
        have h9 := ih (k + 1) (by omega) (fun s hs => by
          by_cases e : s = k
          · rw [e]; exact hk2
          · exact hall s (by omega))
        rw [nI_succ] at h9
        exact h9
      repeat (refine ev_np [] rfl rfl rfl ?_)
      refine ev_ie (nI_ge (b := 6) hk6 (by omega)) ?_
      repeat (refine ev_np [] rfl rfl rfl ?_)
      refine ev_gi rfl (by rfl) (by rfl) ?_
      repeat (refine ev_np [] rfl rfl rfl ?_)
      refine ev_ca rfl (c_MM_inSet (d + 1)) ?_
      rw [hu, bi_bm _ hk6]
      cases huk : u k with
      | false =>
        repeat (refine ev_np [33] rfl rfl rfl ?_)
        exact next (by rw [huk]; rfl)
      | true =>
        repeat (refine ev_np [] rfl rfl rfl ?_)
        refine ev_gr rfl (by rfl) (by rfl) ?_
        repeat (refine ev_np [] rfl rfl rfl ?_)
        refine ev_vc rfl (by rfl) PL59.1 rfl (c_Plan_mustFrom d PL59 hk6 hl) ?_
        rw [(hc.2 k l hk6 hl).2]
        repeat (refine ev_np [] rfl rfl rfl ?_)
        refine ev_if (fun c => ?_) (fun c => ?_)
        · refine next ?_
          rw [huk]
          show (List.range 6).any (fun t => decide (2 ≤ g k l t)) = true
          cases hz : (List.range 6).any (fun t => decide (2 ≤ g k l t)) with
          | true => rfl
          | false => exact absurd (by rw [(any6 _).mpr hz]; rfl) c
        · have hz : (List.range 6).any (fun t => decide (2 ≤ g k l t)) = false := (any6 _).mp (bm_eq0.mpr (nI_bm0.mp (Classical.not_not.mp c)))
          have hs : sure g u l = false := by
            cases hs : sure g u l with
            | false => rfl
            | true =>
              have := List.all_eq_true.mp hs k (List.mem_range.mpr hk6)
              rw [huk, hz] at this
              cases this
          rw [hs]
          repeat (refine ev_np [] rfl rfl rfl ?_)
          exact ev_rz rfl rfl (Or.inl rfl)
  exact key 6 0 rfl (fun s hs => by omega)
/-- letters, as bits -/
theorem c_Walker_mayCome (hu : F 58 1 = nI (bm u)) (hc : CP F A 59 n g) : xa_rn xa_ms (d + 4) n_Walker_mayCome [.ref 58] (hp Y F A) (some (.int (nI (bm (fun l => decide (l < 3) && decide (bm (nx g u l) ≠ 0)))))) (hp Y F A) := by
  refine rn_in m_Walker_mayCome rfl ⟨rfl, rfl⟩ ?_
  show ev _ t_Walker_mayCome 0 [.ref 58, .float 0, .float 0] [] _ _
  repeat (refine ev_np [4] rfl rfl rfl ?_)
  refine lp_to (E := fun k q => ev (d + 3) t_Walker_mayCome 4 [.ref 58, .int (nI (bm (fun l => decide (l < k) && decide (bm (nx g u l) ≠ 0)))), .int (nI k)] [] (hp Y F A) q) 3 (fun k hk q hq => ?_) _ ?_
  · rw [nI_succ] at hq
    repeat (refine ev_np [] rfl rfl rfl ?_)
    refine ev_ie (nI_ge (b := 3) hk (by omega)) ?_
    repeat (refine ev_np [] rfl rfl rfl ?_)
    refine ev_vc rfl (by rfl) (by rfl) rfl (c_Walker_nextBy d hu hc hk) ?_
    repeat (refine ev_np [] rfl rfl rfl ?_)
    have hlt := bm_lt (nx g u k)
    by_cases e : bm (nx g u k) = 0
    · rw [e]
      repeat (refine ev_np [4] rfl rfl rfl ?_)
      rw [bm_congr (g := fun l => decide (l < k) && decide (bm (nx g u l) ≠ 0)) (fun l _ => by
        by_cases h1 : l = k
        · subst h1; simp [e]
        · rw [dlt h1])] at hq
      exact hq
    · refine ev_ie (nI_ne0 (by omega) (by omega)) ?_
      repeat (refine ev_np [4] rfl rfl rfl ?_)
      rw [orb_bm _ (by omega)]
      rw [bm_congr (g := fun l => (decide (l < k) && decide (bm (nx g u l) ≠ 0)) || l == k) (fun l _ => by
        by_cases h1 : l = k
        · subst h1; simp [e]
        · rw [dlt h1]
          simp [h1])] at hq
      exact hq
  · repeat (refine ev_np [] rfl rfl rfl ?_)
    exact ev_ri rfl rfl
theorem c_Walker_mustBeThere (hu : F 58 1 = nI (bm u)) (hc : CP F A 59 n g) : xa_rn xa_ms (d + 4) n_Walker_mustBeThere [.ref 58] (hp Y F A) (some (.int (nI (bm (fun l => decide (l < 3) && sure g u l))))) (hp Y F A) := by
  refine rn_in m_Walker_mustBeThere rfl ⟨rfl, rfl⟩ ?_
  show ev _ t_Walker_mustBeThere 0 [.ref 58, .float 0, .float 0] [] _ _
  repeat (refine ev_np [4] rfl rfl rfl ?_)
  refine lp_to (E := fun k q => ev (d + 3) t_Walker_mustBeThere 4 [.ref 58, .int (nI (bm (fun l => decide (l < k) && sure g u l))), .int (nI k)] [] (hp Y F A) q) 3 (fun k hk q hq => ?_) _ ?_
  · rw [nI_succ] at hq
    repeat (refine ev_np [] rfl rfl rfl ?_)
    refine ev_ie (nI_ge (b := 3) hk (by omega)) ?_
    repeat (refine ev_np [] rfl rfl rfl ?_)
    refine ev_vc rfl (by rfl) (by rfl) rfl (c_Walker_isInAll d hu hc hk) ?_
    cases e : sure g u k with
    | false =>
      repeat (refine ev_np [4] rfl rfl rfl ?_)
      rw [bm_congr (g := fun l => decide (l < k) && sure g u l) (fun l _ => by
        by_cases h1 : l = k
        · subst h1; simp [e]
        · rw [dlt h1])] at hq
      exact hq
    | true =>
      repeat (refine ev_np [4] rfl rfl rfl ?_)
      rw [orb_bm _ (by omega)]
      rw [bm_congr (g := fun l => (decide (l < k) && sure g u l) || l == k) (fun l _ => by
        by_cases h1 : l = k
        · subst h1; simp [e]
        · rw [dlt h1]
          simp [h1])] at hq
      exact hq
  · repeat (refine ev_np [] rfl rfl rfl ?_)
    exact ev_ri rfl rfl
/-- a letter is gone -/
theorem c_Walker_step (hu : F 58 1 = nI (bm u)) (hc : CP F A 59 n g) {l k : Nat} (hl : l < 3) (hk : F 58 2 = nI k) (hk2 : k ≤ 200) : xa_rn xa_ms (d + 4) n_Walker_step [.ref 58, .int (nI l)] (hp Y F A) (some (.int (if bm (nx g u l) = 0 then -2 else if k = 200 then -3 else nI (cnt (nx g u l) 6)))) (hp Y (if bm (nx g u l) = 0 ∨ k = 200 then F else uF (uF F 58 1 (nI (bm (nx g u l)))) 58 2 (nI (k + 1))) A) := by
  have hlt := bm_lt (nx g u l)
  refine rn_in m_Walker_step rfl ⟨rfl, rfl⟩ ?_
  show ev _ t_Walker_step 0 [.ref 58, .int (nI l), .float 0] [] _ _
  repeat (refine ev_np [] rfl rfl rfl ?_)
  refine ev_vc rfl (by rfl) (by rfl) rfl (c_Walker_nextBy d hu hc hl) ?_
  repeat (refine ev_np [] rfl rfl rfl ?_)
  by_cases e : bm (nx g u l) = 0
  · rw [if_pos e, if_pos (Or.inl e), e]
    repeat (refine ev_np [] rfl rfl rfl ?_)
    exact ev_ri rfl rfl
  · rw [if_neg e]
    refine ev_it (nI_ne0 (by omega) (by omega)) ?_
    repeat (refine ev_np [] rfl rfl rfl ?_)
    refine ev_gi rfl (by rfl) (by rfl) ?_
    rw [hk]
    repeat (refine ev_np [] rfl rfl rfl ?_)
    by_cases e2 : k = 200
    · rw [if_pos e2, if_pos (Or.inr e2), e2]
      repeat (refine ev_np [] rfl rfl rfl ?_)
      exact ev_ri rfl rfl
    · rw [if_neg e2, if_neg (show ¬ (bm (nx g u l) = 0 ∨ k = 200) from fun z => z.elim e e2)]
      refine ev_it (nI_lt (b := 200) (by omega) (by omega)) ?_
      repeat (refine ev_np [] rfl rfl rfl ?_)
      refine ev_pf rfl (by rfl) ⟨by rfl, by rfl⟩ ?_
      repeat (refine ev_np [] rfl rfl rfl ?_)
      refine ev_gi rfl (by rfl) (by rfl) ?_
      rw [uF_n _ _ (by decide), hk]
      repeat (refine ev_np [] rfl rfl rfl ?_)
      refine ev_pf rfl (by rfl) ⟨by rfl, by rfl⟩ ?_
      repeat (refine ev_np [] rfl rfl rfl ?_)
      refine ev_gi rfl (by rfl) (by rfl) ?_
      rw [uF_n _ _ (by decide), uF_s]
      refine ev_ca rfl (c_Int_bitCount (d + 2) (nx g u l)) ?_
      rw [nI_succ]
      exact ev_ri rfl rfl
theorem c_Walker_restart {p k : Nat} (hp0 : PL p) (hc : CP F A p n g) (hk : F 58 2 = nI k) : ∃ F' A', xa_rn xa_ms (d + 2) n_Walker_restart [.ref 58, .ref p] (hp Y F A) (some (.int (nI k))) (hp Y F' A') ∧ sA [60, 61] A A' ∧ sF [5900, 5801, 5802] F F' ∧ CP F' A' 59 n g ∧ F' 58 1 = 1 ∧ F' 58 2 = 0 := by
  obtain ⟨F1, A1, b1, b2, b3, b4⟩ := c_Plan_become (Y := Y) d PL59 hp0 hc
  refine ⟨uF (uF F1 58 1 1) 58 2 0, A1, ?_, b2, (b3.mono (by decide)).tr ((sF.up (by decide)).tr (sF.up (by decide))), b4.frame (by rw [uF_n _ _ (by decide), uF_n _ _ (by decide)]) rfl rfl, by rw [uF_n _ _ (by decide), uF_s], by rw [uF_s]⟩
  refine rn_in m_Walker_restart rfl ⟨rfl, rfl⟩ ?_
  show ev _ t_Walker_restart 0 [.ref 58, .ref p, .float 0] [] _ _
  repeat (refine ev_np [] rfl rfl rfl ?_)
  refine ev_gi rfl (by rfl) (by rfl) ?_
  rw [hk]
  repeat (refine ev_np [] rfl rfl rfl ?_)
  refine ev_gr rfl (by rfl) (by rfl) ?_
  repeat (refine ev_np [] rfl rfl rfl ?_)
  refine ev_vc rfl (by rfl) PL59.1 rfl b1 ?_
  repeat (refine ev_np [] rfl rfl rfl ?_)
  refine ev_pf rfl (by rfl) ⟨by rfl, by rfl⟩ ?_
  repeat (refine ev_np [] rfl rfl rfl ?_)
  refine ev_pf rfl (by rfl) ⟨by rfl, by rfl⟩ ?_
  repeat (refine ev_np [] rfl rfl rfl ?_)
  exact ev_ri rfl rfl
end WALK
end
section
/-! ===== the model's walks ===== -/
section WALKM
variable {Y : Nat × (Nat → Int32)} {F A : Nat → Nat → Int32} {n : Nat} {g : Nat → Nat → Nat → Nat} {u : Nat → Bool} (d : Nat)
theorem c_Mo_onward (hu : F 62 23 = nI (bm u)) (hm : MP A 7 n g) (hg : GW n g) {l : Nat} (hl : l < 3) : xa_rn xa_ms (d + 3) n_Mo_onward [.ref 62, .int (nI l)] (hp Y F A) (some (.int (nI (bm (nx g u l))))) (hp Y F A) := by
  have hn := hg.1.2
  have hres : bm (nx g u l) = bm (fun t => (List.range n).any (fun s => u s && decide (1 ≤ g s l t))) := by
    refine bm_congr fun t _ => ?_
    unfold nx
    exact any_shrink hn (fun s _ h => by
      simp only [Bool.and_eq_true, decide_eq_true_eq] at h
      exact ((hg.2 s l t).2 (by omega)).1)
  rw [hres]
  refine rn_in m_Mo_onward rfl ⟨rfl, rfl⟩ ?_
  show ev _ t_Mo_onward 0 [.ref 62, .int (nI l), .float 0, .float 0, .float 0] [] _ _
  repeat (refine ev_np [4] rfl rfl rfl ?_)
  have key := lp_to (E := fun k q => ∀ v4 : Value, ev (d + 2) t_Mo_onward 4 [.ref 62, .int (nI l), .int (nI (bm (fun t => (List.range k).any (fun s => u s && decide (1 ≤ g s l t))))), .int (nI k), v4] [] (hp Y F A) q) n (fun k hk q hq => by
    intro v4
    rw [nI_succ] at hq
    simp only [anyB] at hq
    repeat (refine ev_np [] rfl rfl rfl ?_)
    refine ev_gr rfl (by rfl) (by rfl) ?_
    repeat (refine ev_np [] rfl rfl rfl ?_)
    refine ev_an rfl (by rfl) (j := 7) rfl (by decide) rfl ?_
    rw [hm.1]
    repeat (refine ev_np [] rfl rfl rfl ?_)
    refine ev_ie (nI_ge hk (by omega)) ?_
    repeat (refine ev_np [18] rfl rfl rfl ?_)
    cases huk : u k with
    | false =>
      simp only [huk, Bool.false_and, Bool.or_false] at hq
      repeat (refine ev_np [] rfl rfl rfl ?_)
      refine ev_gr rfl (by rfl) (by rfl) ?_
      repeat (refine ev_np [] rfl rfl rfl ?_)
      refine ev_an rfl (by rfl) (j := 7) rfl (by decide) rfl ?_
      rw [hm.1]
      repeat (refine ev_np [] rfl rfl rfl ?_)
      refine ev_ie (nI_ge (a := 0) (by have := hg.1.1; omega) (by omega)) ?_
      repeat (refine ev_np [] rfl rfl rfl ?_)
      refine ev_gi rfl (by rfl) (by rfl) ?_
      repeat (refine ev_np [] rfl rfl rfl ?_)
      rw [hu, sh_bm _ (by omega), huk]
      repeat (refine ev_np [4] rfl rfl rfl ?_)
      exact hq _
    | true =>
      simp only [huk, Bool.true_and] at hq
      have h1 := lp_to (E := fun b q => ev (d + 2) t_Mo_onward 18 [.ref 62, .int (nI l), .int (nI (bm (fun t => (List.range k).any (fun s => u s && decide (1 ≤ g s l t)) || (decide (t < b) && decide (1 ≤ g k l t))))), .int (nI k), .int (nI b)] [] (hp Y F A) q) n (fun b hb q hq => by
        rw [nI_succ] at hq
        repeat (refine ev_np [] rfl rfl rfl ?_)
        refine ev_gr rfl (by rfl) (by rfl) ?_
        repeat (refine ev_np [] rfl rfl rfl ?_)
        refine ev_an rfl (by rfl) (j := 7) rfl (by decide) rfl ?_
        rw [hm.1]
        repeat (refine ev_np [] rfl rfl rfl ?_)
        refine ev_ie (nI_ge hb (by omega)) ?_
        repeat (refine ev_np [] rfl rfl rfl ?_)
        refine ev_gi rfl (by rfl) (by rfl) ?_
        repeat (refine ev_np [] rfl rfl rfl ?_)
        rw [hu, sh_bm _ (by omega), huk]
        repeat (refine ev_np [] rfl rfl rfl ?_)
        refine ev_vc rfl (by rfl) (by rfl) rfl (c_Mo_of d (i := 7) (by decide) hm (by omega) hl (by omega)) ?_
        repeat (refine ev_np [] rfl rfl rfl ?_)
        have hgle := (hg.2 k l b).1
        by_cases e : 1 ≤ g k l b
        · refine ev_ie (nI_nle (by omega) (by omega)) ?_
          repeat (refine ev_np [18] rfl rfl rfl ?_)
          rw [orb_bm _ (by omega)]
          rw [bm_congr (g := fun t => ((List.range k).any (fun s => u s && decide (1 ≤ g s l t)) || (decide (t < b) && decide (1 ≤ g k l t))) || t == b) (fun t _ => by
            by_cases h1 : t = b
            · subst h1; simp [e]
            · rw [dlt h1]; simp [h1])] at hq
          exact hq
        · refine ev_it (by rw [show g k l b = 0 by omega]; exact Int32.le_refl _) ?_
          repeat (refine ev_np [18] rfl rfl rfl ?_)
          have e0 : nI (bm (fun t => (List.range k).any (fun s => u s && decide (1 ≤ g s l t)) || (decide (t < b) && decide (1 ≤ g k l t)))) ||| 0 = nI (bm (fun t => (List.range k).any (fun s => u s && decide (1 ≤ g s l t)) || (decide (t < b) && decide (1 ≤ g k l t)))) := by
            rw [show (0 : Int32) = nI (bm (fun _ => false)) from rfl, or_bm]
            simp
          rw [e0]
          rw [bm_congr (g := fun t => (List.range k).any (fun s => u s && decide (1 ≤ g s l t)) || (decide (t < b) && decide (1 ≤ g k l t))) (fun t _ => by
            by_cases h1 : t = b
            · subst h1; simp [e]
            · rw [dlt h1])] at hq
          exact hq) q (by
        repeat (refine ev_np [] rfl rfl rfl ?_)
        refine ev_gr rfl (by rfl) (by rfl) ?_
        repeat (refine ev_np [] rfl rfl rfl ?_)
        refine ev_an rfl (by rfl) (j := 7) rfl (by decide) rfl ?_
        rw [hm.1]
        repeat (refine ev_np [] rfl rfl rfl ?_)
        refine ev_it (nI_le (Nat.le_refl _) (by omega)) ?_
        repeat (refine ev_np [4] rfl rfl rfl ?_)
        rw [bm_congr (g := fun t => (List.range k).any (fun s => u s && decide (1 ≤ g s l t)) || decide (1 ≤ g k l t)) (fun t _ => by
          by_cases h1 : 1 ≤ g k l t
          · have := ((hg.2 k l t).2 (by omega)).2.2
            simp [h1, this]
          · simp [h1])]
        exact hq _)
      simp only [Nat.not_lt_zero, decide_false, Bool.false_and, Bool.or_false] at h1
      exact h1) (some (.int (nI (bm (fun t => (List.range n).any (fun s => u s && decide (1 ≤ g s l t)))))), hp Y F A) (by
    intro v4
    repeat (refine ev_np [] rfl rfl rfl ?_)
    refine ev_gr rfl (by rfl) (by rfl) ?_
    repeat (refine ev_np [] rfl rfl rfl ?_)
    refine ev_an rfl (by rfl) (j := 7) rfl (by decide) rfl ?_
    rw [hm.1]
    repeat (refine ev_np [] rfl rfl rfl ?_)
    refine ev_it (nI_le (Nat.le_refl _) (by omega)) ?_
    repeat (refine ev_np [] rfl rfl rfl ?_)
    exact ev_ri rfl rfl)
  exact key _
theorem all_B (f : Nat → Bool) (n : Nat) : (List.range (n + 1)).all f = ((List.range n).all f && f n) := by
  rw [List.range_succ, List.all_append]
  simp
theorem z01_and (a b : Bool) : z01 a &&& z01 b = z01 (a && b) := by cases a <;> cases b <;> decide
theorem c_Mo_isSure (hu : F 62 23 = nI (bm u)) (hun : ∀ s, s < 6 → u s = true → s < n) (hm : MP A 7 n g) (hg : GW n g) {l : Nat} (hl : l < 3) : xa_rn xa_ms (d + 3) n_Mo_isSure [.ref 62, .int (nI l)] (hp Y F A) (some (.int (z01 (sure g u l)))) (hp Y F A) := by
  have hn := hg.1.2
  have hres : sure g u l = (List.range n).all (fun s => !(u s) || (List.range n).any (fun t => decide (2 ≤ g s l t))) := by
    unfold sure
    rw [Bool.eq_iff_iff, List.all_eq_true, List.all_eq_true]
    have hin : ∀ s, (List.range 6).any (fun t => decide (2 ≤ g s l t)) = (List.range n).any (fun t => decide (2 ≤ g s l t)) := fun s => any_shrink hn (fun t _ h => ((hg.2 s l t).2 (by simp at h; omega)).2.2)
    constructor
    · intro h s hs
      have := h s (List.mem_range.mpr (Nat.lt_of_lt_of_le (List.mem_range.mp hs) hn))
      rw [hin] at this
      exact this
    · intro h s hs
      rw [hin]
      by_cases hus : u s = true
      · exact h s (List.mem_range.mpr (hun s (List.mem_range.mp hs) hus))
      · simp [hus]
  rw [hres]
  refine rn_in m_Mo_isSure rfl ⟨rfl, rfl⟩ ?_
  show ev _ t_Mo_isSure 0 [.ref 62, .int (nI l), .float 0, .float 0, .float 0, .float 0] [] _ _
  repeat (refine ev_np [4] rfl rfl rfl ?_)
  have key := lp_to (E := fun k q => ∀ v4 v5 : Value, ev (d + 2) t_Mo_isSure 4 [.ref 62, .int (nI l), .int (z01 ((List.range k).all (fun s => !(u s) || (List.range n).any (fun t => decide (2 ≤ g s l t))))), .int (nI k), v4, v5] [] (hp Y F A) q) n (fun k hk q hq => by
    intro v4 v5
    rw [nI_succ, all_B, ← z01_and] at hq
    repeat (refine ev_np [] rfl rfl rfl ?_)
    refine ev_gr rfl (by rfl) (by rfl) ?_
    repeat (refine ev_np [] rfl rfl rfl ?_)
    refine ev_an rfl (by rfl) (j := 7) rfl (by decide) rfl ?_
    rw [hm.1]
    repeat (refine ev_np [] rfl rfl rfl ?_)
    refine ev_ie (nI_ge hk (by omega)) ?_
    repeat (refine ev_np [] rfl rfl rfl ?_)
    refine ev_gi rfl (by rfl) (by rfl) ?_
    repeat (refine ev_np [] rfl rfl rfl ?_)
    rw [hu, sh_bm _ (by omega)]
    have inner : ∀ b0 : Bool, b0 = !(u k) → ev (d + 2) t_Mo_isSure 36 [.ref 62, .int (nI l), .int (z01 ((List.range k).all (fun s => !(u s) || (List.range n).any (fun t => decide (2 ≤ g s l t))))), .int (nI k), .int (z01 b0), .int 0] [] (hp Y F A) q := by
      intro b0 hb0
      have h1 := lp_to (E := fun b q => ev (d + 2) t_Mo_isSure 36 [.ref 62, .int (nI l), .int (z01 ((List.range k).all (fun s => !(u s) || (List.range n).any (fun t => decide (2 ≤ g s l t))))), .int (nI k), .int (z01 (b0 || (List.range b).any (fun t => decide (2 ≤ g k l t)))), .int (nI b)] [] (hp Y F A) q) n (fun b hb q hq => by
        rw [nI_succ, anyB, ← Bool.or_assoc, ← z01_or] at hq
        repeat (refine ev_np [] rfl rfl rfl ?_)
        refine ev_gr rfl (by rfl) (by rfl) ?_
        repeat (refine ev_np [] rfl rfl rfl ?_)
        refine ev_an rfl (by rfl) (j := 7) rfl (by decide) rfl ?_
        rw [hm.1]
        repeat (refine ev_np [] rfl rfl rfl ?_)
        refine ev_ie (nI_ge hb (by omega)) ?_
        repeat (refine ev_np [] rfl rfl rfl ?_)
        refine ev_vc rfl (by rfl) (by rfl) rfl (c_Mo_of d (i := 7) (by decide) hm (by omega) hl (by omega)) ?_
        repeat (refine ev_np [] rfl rfl rfl ?_)
        have hgle := (hg.2 k l b).1
        by_cases e : 2 ≤ g k l b
        · have e2 : g k l b = 2 := by omega
          rw [decide_eq_true e] at hq
          rw [e2]
          refine ev_ie (fun z => z rfl) ?_
          repeat (refine ev_np [36] rfl rfl rfl ?_)
          exact hq
        · rw [decide_eq_false e] at hq
          refine ev_it (fun z => e (by have := (nI_eq (a := g k l b) (b := 2) (by omega) (by omega)).mp z; omega)) ?_
          repeat (refine ev_np [36] rfl rfl rfl ?_)
          exact hq) q (by
        repeat (refine ev_np [] rfl rfl rfl ?_)
        refine ev_gr rfl (by rfl) (by rfl) ?_
        repeat (refine ev_np [] rfl rfl rfl ?_)
        refine ev_an rfl (by rfl) (j := 7) rfl (by decide) rfl ?_
        rw [hm.1]
        repeat (refine ev_np [] rfl rfl rfl ?_)
        refine ev_it (nI_le (Nat.le_refl _) (by omega)) ?_
        repeat (refine ev_np [4] rfl rfl rfl ?_)
        rw [hb0]
        exact hq _ _)
      simp only [List.range_zero, List.any_nil, Bool.or_false] at h1
      exact h1
    cases huk : u k with
    | true =>
      repeat (refine ev_np [36] rfl rfl rfl ?_)
      exact inner false (by rw [huk]; rfl)
    | false =>
      repeat (refine ev_np [36] rfl rfl rfl ?_)
      exact inner true (by rw [huk]; rfl)) (some (.int (z01 ((List.range n).all (fun s => !(u s) || (List.range n).any (fun t => decide (2 ≤ g s l t)))))), hp Y F A) (by
    intro v4 v5
    repeat (refine ev_np [] rfl rfl rfl ?_)
    refine ev_gr rfl (by rfl) (by rfl) ?_
    repeat (refine ev_np [] rfl rfl rfl ?_)
    refine ev_an rfl (by rfl) (j := 7) rfl (by decide) rfl ?_
    rw [hm.1]
    repeat (refine ev_np [] rfl rfl rfl ?_)
    refine ev_it (nI_le (Nat.le_refl _) (by omega)) ?_
    repeat (refine ev_np [] rfl rfl rfl ?_)
    exact ev_rz rfl rfl (z01_b _))
  exact key _ _
theorem c_Mo_ones (f : Nat → Bool) {h : xa_H} : xa_rn xa_ms (d + 1) n_Mo_ones [.int (nI (bm f))] h (some (.int (nI (cnt f 6)))) h := by
  refine rn_in m_Mo_ones rfl ⟨rfl, rfl⟩ ?_
  show ev _ t_Mo_ones 0 [.int (nI (bm f)), .float 0, .float 0] [] _ _
  repeat (refine ev_np [4] rfl rfl rfl ?_)
  refine lp_to (E := fun k q => ev d t_Mo_ones 4 [.int (nI (bm f)), .int (nI (cnt f k)), .int (nI k)] [] h q) 6 (fun k hk q hq => ?_) _ ?_
  · rw [nI_succ] at hq
    repeat (refine ev_np [] rfl rfl rfl ?_)
    refine ev_ie (nI_ge (b := 6) hk (by omega)) ?_
    repeat (refine ev_np [4] rfl rfl rfl ?_)
    have e : nI (cnt f k) + ((nI (bm f) >>> (nI k &&& 31)) &&& 1) = nI (cnt f (k + 1)) := by
      rw [sh_bm _ hk]
      simp only [cnt]
      cases f k
      · simp [z01]
      · simp [z01, nI_1]
    rw [e]
    exact hq
  · repeat (refine ev_np [] rfl rfl rfl ?_)
    exact ev_ri rfl rfl
end WALKM
end
section
/-! ===== the state of both, and what each call makes of it ===== -/
abbrev PLN : Type := Nat × (Nat → Nat → Nat → Nat)
/-- text (length, bytes), plans, saying (steps, bits, codes), walk (plan, states, letters gone) -/
abbrev SP : Type := (Nat × (Nat → Nat)) × (Nat → PLN) × (Nat × Nat × (Nat → Nat)) × (PLN × (Nat → Bool) × Nat)
def enc (c : Nat) : Nat := match c with
  | 0 => 0
  | 1 => 1
  | 2 => 33
  | 3 => 38
  | 4 => 124
  | 5 => 300
  | 6 => 301
  | 7 => 302
  | 8 => 310
  | 9 => 311
  | _ => 312
/-- a saying is sound: how many values lie on the stack before step k -/
def hgt (cs : Nat → Nat) : Nat → Nat
  | 0 => 0
  | k + 1 => if cs k ≤ 1 then hgt cs k + 1 else if cs k = 3 ∨ cs k = 4 then hgt cs k - 1 else hgt cs k
def WS (s : Nat × Nat × (Nat → Nat)) : Prop := (1 ≤ s.1 ∧ s.1 ≤ 300) ∧ s.2.1 ≤ 24 ∧ (∀ k, k < s.1 → s.2.2 k ≤ 10 ∧ (2 ≤ s.2.2 k → 1 ≤ hgt s.2.2 k) ∧ (s.2.2 k = 3 ∨ s.2.2 k = 4 → 2 ≤ hgt s.2.2 k) ∧ (s.2.2 k ≤ 1 → hgt s.2.2 k < 24)) ∧ hgt s.2.2 s.1 = 1
def Wf (S : SP) : Prop := (S.1.1 ≤ 300 ∧ ∀ j, S.1.2 j < 256) ∧ (∀ i, i < 6 → GW (S.2.1 i).1 (S.2.1 i).2) ∧ WS S.2.2.1 ∧ (GW S.2.2.2.1.1 S.2.2.2.1.2 ∧ (∀ s, s < 6 → S.2.2.2.2.1 s = true → s < S.2.2.2.1.1) ∧ S.2.2.2.2.2 ≤ 200)
def RC (F A : Nat → Nat → Int32) (S : SP) : Prop := (F 32 1 = nI S.1.1 ∧ ∀ j, j < S.1.1 → A 33 j = nI (S.1.2 j)) ∧ (∀ i, i < 6 → CP F A (11 + 3 * i) (S.2.1 i).1 (S.2.1 i).2) ∧ (F 39 1 = nI S.2.2.1.1 ∧ F 39 2 = nI S.2.2.1.2.1 ∧ ∀ k, k < S.2.2.1.1 → A 40 k = nI (S.2.2.1.2.2 k)) ∧ (CP F A 59 S.2.2.2.1.1 S.2.2.2.1.2 ∧ F 58 1 = nI (bm S.2.2.2.2.1) ∧ F 58 2 = nI S.2.2.2.2.2)
def RM (F A : Nat → Nat → Int32) (S : SP) : Prop := (F 62 4 = nI S.1.1 ∧ ∀ j, j < S.1.1 → A 65 j = nI (S.1.2 j)) ∧ (∀ i, i < 6 → MP A i (S.2.1 i).1 (S.2.1 i).2) ∧ (F 62 12 = nI S.2.2.1.1 ∧ F 62 14 = nI S.2.2.1.2.1 ∧ ∀ k, k < S.2.2.1.1 → A 66 k = nI (enc (S.2.2.1.2.2 k))) ∧ (MP A 7 S.2.2.2.1.1 S.2.2.2.1.2 ∧ F 62 23 = nI (bm S.2.2.2.2.1) ∧ F 62 24 = nI S.2.2.2.2.2)
def KM (F A F' A' : Nat → Nat → Int32) : Prop := ∀ o, 62 ≤ o → A' o = A o ∧ F' o = F o
def KC (F A F' A' : Nat → Nat → Int32) : Prop := ∀ o, o < 62 → A' o = A o ∧ F' o = F o
theorem KM.rm {F A F' A' : Nat → Nat → Int32} {S : SP} (h : KM F A F' A') (hM : RM F A S) : RM F' A' S := by
  obtain ⟨⟨a1, a2⟩, b, ⟨c1, c2, c3⟩, d1, d2, d3⟩ := hM
  have f := (h 62 (by decide)).2
  refine ⟨⟨by rw [f]; exact a1, by rw [(h 65 (by decide)).1]; exact a2⟩, fun i hi => (b i hi).frame (h 63 (by decide)).1 (h 64 (by decide)).1, ⟨by rw [f]; exact c1, by rw [f]; exact c2, by rw [(h 66 (by decide)).1]; exact c3⟩, d1.frame (h 63 (by decide)).1 (h 64 (by decide)).1, by rw [f]; exact d2, by rw [f]; exact d3⟩
theorem KC.rc {F A F' A' : Nat → Nat → Int32} {S : SP} (h : KC F A F' A') (hC : RC F A S) : RC F' A' S := by
  obtain ⟨⟨a1, a2⟩, b, ⟨c1, c2, c3⟩, d1, d2, d3⟩ := hC
  refine ⟨⟨by rw [(h 32 (by decide)).2]; exact a1, by rw [(h 33 (by decide)).1]; exact a2⟩, fun i hi => (b i hi).frame (by rw [(h (11 + 3 * i) (by omega)).2]) (h _ (by omega)).1 (h _ (by omega)).1, ⟨by rw [(h 39 (by decide)).2]; exact c1, by rw [(h 39 (by decide)).2]; exact c2, by rw [(h 40 (by decide)).1]; exact c3⟩, d1.frame (by rw [(h 59 (by decide)).2]) (h _ (by decide)).1 (h _ (by decide)).1, by rw [(h 58 (by decide)).2]; exact d2, by rw [(h 58 (by decide)).2]; exact d3⟩
theorem KM.of {F A F' A' : Nat → Nat → Int32} {LF LA : List Nat} (hF : sF LF F F') (hA : sA LA A A') (hk : (LF.all fun x => Nat.blt x 6200) = true ∧ (LA.all fun x => Nat.blt x 62) = true) : KM F A F' A' := by
  intro o ho
  refine ⟨hA o (fun z => ?_), ?_⟩
  · have := List.all_eq_true.mp hk.2 o z
    have := Nat.le_of_ble_eq_true this
    omega
  · funext k
    refine hF o k (fun z => ?_)
    have := List.all_eq_true.mp hk.1 _ z
    have := Nat.le_of_ble_eq_true this
    omega
theorem KC.of {F A F' A' : Nat → Nat → Int32} {LF LA : List Nat} (hF : sF LF F F') (hA : sA LA A A') (hk : (LF.all fun x => Nat.ble 6200 x && Nat.blt x 6300) = true ∧ (LA.all fun x => Nat.ble 62 x) = true) (hF2 : ∀ o, o < 62 → ∀ k, 100 ≤ k → F' o k = F o k) : KC F A F' A' := by
  intro o ho
  refine ⟨hA o (fun z => ?_), ?_⟩
  · have := List.all_eq_true.mp hk.2 o z
    have := Nat.le_of_ble_eq_true this
    omega
  · funext k
    by_cases hk9 : k < 100
    · refine hF o k (fun z => ?_)
      have := List.all_eq_true.mp hk.1 _ z
      rw [Bool.and_eq_true] at this
      have := Nat.le_of_ble_eq_true this.1
      omega
    · exact hF2 o ho k (by omega)
theorem KM.rf {F A : Nat → Nat → Int32} : KM F A F A := fun _ _ => ⟨rfl, rfl⟩
theorem KC.rf {F A : Nat → Nat → Int32} : KC F A F A := fun _ _ => ⟨rfl, rfl⟩
theorem KC.tr {F A F' A' F2 A2 : Nat → Nat → Int32} (h : KC F A F' A') (g : KC F' A' F2 A2) : KC F A F2 A2 := fun o ho => ⟨(g o ho).1.trans (h o ho).1, (g o ho).2.trans (h o ho).2⟩
theorem KM.tr {F A F' A' F2 A2 : Nat → Nat → Int32} (h : KM F A F' A') (g : KM F' A' F2 A2) : KM F A F2 A2 := fun o ho => ⟨(g o ho).1.trans (h o ho).1, (g o ho).2.trans (h o ho).2⟩
theorem KC.fld (F A : Nat → Nat → Int32) (k : Nat) (v : Int32) : KC F A (uF F 62 k v) A := fun o ho => ⟨rfl, by unfold uF; exact va_up_n _ _ (by omega)⟩
theorem KC.upA (F A : Nat → Nat → Int32) {o : Nat} (h : 62 ≤ o) (g : Nat → Int32) : KC F A F (va_up A o g) := fun x hx => ⟨va_up_n _ _ (by omega), rfl⟩
theorem KC.sA {F A A' : Nat → Nat → Int32} {L : List Nat} (h : sA L A A') (hk : (L.all fun x => Nat.ble 62 x) = true) : KC F A F A' := fun o ho => ⟨h o (fun z => by have := Nat.le_of_ble_eq_true (List.all_eq_true.mp hk o z); omega), rfl⟩
/-- the model's first write: thrown -/
theorem RM.thrown {F A : Nat → Nat → Int32} {S : SP} (h : RM F A S) (v : Int32) : RM (uF F 62 0 v) A S := by
  obtain ⟨⟨a1, a2⟩, b, ⟨c1, c2, c3⟩, d1, d2, d3⟩ := h
  exact ⟨⟨by rw [uF_n _ _ (by decide)]; exact a1, a2⟩, b, ⟨by rw [uF_n _ _ (by decide)]; exact c1, by rw [uF_n _ _ (by decide)]; exact c2, c3⟩, d1, by rw [uF_n _ _ (by decide)]; exact d2, by rw [uF_n _ _ (by decide)]; exact d3⟩
section ROWS
variable {Y : Nat × (Nat → Int32)} {F A : Nat → Nat → Int32} {d : Nat} {tb : List xa_I} {pc : Nat} {ls r : List Value} {q : xa_R}
/-- a plan out of the array of plans -/
theorem ev_aa {len i : Nat} {l : List Nat} {cv : Int32} (hi : xa_lk tb pc = some (.aaload, len, l, cv)) (h6 : i < 6) (kk : ev d tb (pc + len) ls (.ref (11 + 3 * i) :: r) (hp Y F A) q) : ev d tb pc ls (.int (nI i) :: .ref 10 :: r) (hp Y F A) q := by
  refine ev_nx (?_ : xa_one tb pc ls (.int (nI i) :: .ref 10 :: r) (hp Y F A) = some (.inl (pc + len, ls, .ref (11 + 3 * i) :: r, hp Y F A))) kk
  unfold xa_one
  rw [hi]
  show xa_aald (pc + len) ls (.int (nI i) :: .ref 10 :: r) (hp Y F A) = _
  unfold xa_aald
  have h10 : (hp Y F A)[10]? = some (.inr (50, [.ref 11, .ref 14, .ref 17, .ref 20, .ref 23, .ref 26])) := hp_get (o := 10) (by rfl)
  simp only [h10, nI_clamp (show i < 2 ^ 31 by omega)]
  rw [if_pos ⟨trivial, nI_pos (by omega)⟩]
  match i, h6 with
  | 0, _ => rfl
  | 1, _ => rfl
  | 2, _ => rfl
  | 3, _ => rfl
  | 4, _ => rfl
  | 5, _ => rfl
  | i + 6, h => omega
end ROWS
theorem PLi {i : Nat} (h : i < 6) : PL (11 + 3 * i) := PL_mk (by omega)
section PUB
variable {Y : Nat × (Nat → Int32)} {F A : Nat → Nat → Int32} {S : SP} (d : Nat)
theorem c_MM_noPlanT {x : Int32} (h : x < 0 ∨ 6 ≤ x) {h0 : xa_H} : xa_rn xa_ms (d + 1) n_MM_noPlan [.int x] h0 (some (.int 1)) h0 := by
  refine rn_in m_MM_noPlan rfl ⟨rfl, rfl⟩ ?_
  show ev _ t_MM_noPlan 0 [.int x] [] _ _
  repeat (refine ev_np [] rfl rfl rfl ?_)
  refine ev_if (fun c => ?_) (fun c => ?_)
  · repeat (refine ev_np [] rfl rfl rfl ?_)
    exact ev_rz rfl rfl (Or.inr rfl)
  · repeat (refine ev_np [] rfl rfl rfl ?_)
    refine ev_ie (fun z => ?_) ?_
    · rcases h with h | h
      · exact c h
      · exact absurd h (Int32.not_le.mpr z)
    repeat (refine ev_np [] rfl rfl rfl ?_)
    exact ev_rz rfl rfl (Or.inr rfl)
theorem c_MM_noPlanF {i : Nat} (h : i < 6) {h0 : xa_H} : xa_rn xa_ms (d + 1) n_MM_noPlan [.int (nI i)] h0 (some (.int 0)) h0 := by
  refine rn_in m_MM_noPlan rfl ⟨rfl, rfl⟩ ?_
  show ev _ t_MM_noPlan 0 [.int (nI i)] [] _ _
  repeat (refine ev_np [] rfl rfl rfl ?_)
  refine ev_ie (nI_pos (by omega)) ?_
  repeat (refine ev_np [] rfl rfl rfl ?_)
  refine ev_it (nI_lt (b := 6) h (by omega)) ?_
  repeat (refine ev_np [] rfl rfl rfl ?_)
  exact ev_rz rfl rfl (Or.inl rfl)
theorem c_MM_noLetterT {x : Int32} (h : x < 0 ∨ 3 ≤ x) {h0 : xa_H} : xa_rn xa_ms (d + 1) n_MM_noLetter [.int x] h0 (some (.int 1)) h0 := by
  refine rn_in m_MM_noLetter rfl ⟨rfl, rfl⟩ ?_
  show ev _ t_MM_noLetter 0 [.int x] [] _ _
  repeat (refine ev_np [] rfl rfl rfl ?_)
  refine ev_if (fun c => ?_) (fun c => ?_)
  · repeat (refine ev_np [] rfl rfl rfl ?_)
    exact ev_rz rfl rfl (Or.inr rfl)
  · repeat (refine ev_np [] rfl rfl rfl ?_)
    refine ev_ie (fun z => ?_) ?_
    · rcases h with h | h
      · exact c h
      · exact absurd h (Int32.not_le.mpr z)
    repeat (refine ev_np [] rfl rfl rfl ?_)
    exact ev_rz rfl rfl (Or.inr rfl)
theorem c_MM_noLetterF {i : Nat} (h : i < 3) {h0 : xa_H} : xa_rn xa_ms (d + 1) n_MM_noLetter [.int (nI i)] h0 (some (.int 0)) h0 := by
  refine rn_in m_MM_noLetter rfl ⟨rfl, rfl⟩ ?_
  show ev _ t_MM_noLetter 0 [.int (nI i)] [] _ _
  repeat (refine ev_np [] rfl rfl rfl ?_)
  refine ev_ie (nI_pos (by omega)) ?_
  repeat (refine ev_np [] rfl rfl rfl ?_)
  refine ev_it (nI_lt (b := 3) h (by omega)) ?_
  repeat (refine ev_np [] rfl rfl rfl ?_)
  exact ev_rz rfl rfl (Or.inl rfl)
theorem c_Mo_in (x a b : Int32) {h0 : xa_H} : xa_rn xa_ms (d + 1) n_Mo_in [.int x, .int a, .int b] h0 (some (.int (z01 (decide (¬ x < a) && decide (¬ b < x))))) h0 := by
  refine rn_in m_Mo_in rfl ⟨rfl, rfl⟩ ?_
  show ev _ t_Mo_in 0 [.int x, .int a, .int b] [] _ _
  repeat (refine ev_np [] rfl rfl rfl ?_)
  refine ev_if (fun c => ?_) (fun c => ?_)
  · have c : x < a := c
    repeat (refine ev_np [] rfl rfl rfl ?_)
    exact ev_rz rfl (by simp [c, z01]) (z01_b _)
  · have c : ¬ x < a := c
    repeat (refine ev_np [] rfl rfl rfl ?_)
    refine ev_if (fun c2 => ?_) (fun c2 => ?_)
    · have c2 : b < x := c2
      repeat (refine ev_np [] rfl rfl rfl ?_)
      exact ev_rz rfl (by simp [c2, z01]) (z01_b _)
    · have c2 : ¬ b < x := c2
      repeat (refine ev_np [] rfl rfl rfl ?_)
      exact ev_rz rfl (by simp [c, c2, z01]) (z01_b _)
theorem in_T {x : Int32} {N : Nat} (hN : N < 1000) (h : x < 0 ∨ nI (N + 1) ≤ x) : (decide (¬ x < 0) && decide (¬ nI N < x)) = false := by
  rcases h with h | h
  · simp [h]
  · have : nI N < x := by
      rw [Int32.lt_iff_toInt_lt, nI_toInt (by omega)]
      rw [Int32.le_iff_toInt_le, nI_toInt (by omega)] at h
      omega
    simp [this]
theorem in_F {i N : Nat} (h : i ≤ N) (hN : N < 1000) : (decide (¬ nI i < 0) && decide (¬ nI N < nI i)) = true := by
  simp [nI_pos (show i < 2 ^ 31 by omega), nI_nlt h (by omega)]
theorem c_Mo_isPlanF {x : Int32} (h : x < 0 ∨ 6 ≤ x) {h0 : xa_H} : xa_rn xa_ms (d + 2) n_Mo_isPlan [.int x] h0 (some (.int 0)) h0 := by
  refine rn_in m_Mo_isPlan rfl ⟨rfl, rfl⟩ ?_
  show ev _ t_Mo_isPlan 0 [.int x] [] _ _
  repeat (refine ev_np [] rfl rfl rfl ?_)
  refine ev_ca rfl (c_Mo_in d x 0 5) ?_
  have e := in_T (N := 5) (by decide) h
  exact ev_rz rfl (congrArg z01 e) (Or.inl rfl)
theorem c_Mo_isPlanT {i : Nat} (h : i < 6) {h0 : xa_H} : xa_rn xa_ms (d + 2) n_Mo_isPlan [.int (nI i)] h0 (some (.int 1)) h0 := by
  refine rn_in m_Mo_isPlan rfl ⟨rfl, rfl⟩ ?_
  show ev _ t_Mo_isPlan 0 [.int (nI i)] [] _ _
  repeat (refine ev_np [] rfl rfl rfl ?_)
  refine ev_ca rfl (c_Mo_in d (nI i) 0 5) ?_
  have e := in_F (i := i) (N := 5) (by omega) (by decide)
  exact ev_rz rfl (congrArg z01 e) (Or.inr rfl)
end PUB
end
section
/-! ===== calls: clear, begin, go, walk, count, arrow, put ===== -/
/-- both answer alike and come to the same state -/
def OP (mc mm : Nat) (as : List Value) (S : SP) : Prop := ∃ (r : Int32) (S' : SP), Wf S' ∧ (∀ Y F A, RC F A S → ∃ F' A', xa_rn xa_ms 80 mc (.ref 9 :: as) (hp Y F A) (some (.int r)) (hp Y F' A') ∧ RC F' A' S' ∧ KM F A F' A') ∧ (∀ Y F A, RM F A S → ∃ F' A', xa_rn xa_ms 80 mm (.ref 62 :: as) (hp Y F A) (some (.int r)) (hp Y F' A') ∧ RM F' A' S' ∧ KC F A F' A')
section OPS1
variable {S : SP}
theorem c_Text_size {Y : Nat × (Nat → Int32)} {F A : Nat → Nat → Int32} (d : Nat) : xa_rn xa_ms (d + 1) n_Text_size [.ref 32] (hp Y F A) (some (.int (F 32 1))) (hp Y F A) := by
  refine rn_in m_Text_size rfl ⟨rfl, rfl⟩ ?_
  show ev _ t_Text_size 0 [.ref 32] [] _ _
  repeat (refine ev_np [] rfl rfl rfl ?_)
  refine ev_gi rfl (by rfl) (by rfl) ?_
  exact ev_ri rfl rfl
theorem c_Text_drain {Y : Nat × (Nat → Int32)} {F A : Nat → Nat → Int32} (d : Nat) : xa_rn xa_ms (d + 1) n_Text_drain [.ref 32] (hp Y F A) (some (.int (F 32 1))) (hp Y (uF F 32 1 0) A) := by
  refine rn_in m_Text_drain rfl ⟨rfl, rfl⟩ ?_
  show ev _ t_Text_drain 0 [.ref 32, .float 0] [] _ _
  repeat (refine ev_np [] rfl rfl rfl ?_)
  refine ev_gi rfl (by rfl) (by rfl) ?_
  repeat (refine ev_np [] rfl rfl rfl ?_)
  refine ev_pf rfl (by rfl) ⟨by rfl, by rfl⟩ ?_
  repeat (refine ev_np [] rfl rfl rfl ?_)
  exact ev_ri rfl rfl
/-- the text is emptied -/
def sClear (S : SP) : SP := ((0, S.1.2), S.2)
theorem sClear_wf (W : Wf S) : Wf (sClear S) := ⟨⟨Nat.zero_le _, W.1.2⟩, W.2⟩
theorem RC.clear {F A : Nat → Nat → Int32} (h : RC F A S) : RC (uF F 32 1 0) A (sClear S) := by
  obtain ⟨⟨a1, a2⟩, b, ⟨c1, c2, c3⟩, d1, d2, d3⟩ := h
  refine ⟨⟨by rw [uF_s]; exact nI_0.symm, fun j hj => absurd hj (Nat.not_lt_zero j)⟩, fun i hi => (b i hi).frame (uF_n _ _ (by omega)) rfl rfl, ⟨by rw [uF_n _ _ (by decide)]; exact c1, by rw [uF_n _ _ (by decide)]; exact c2, c3⟩, d1.frame (uF_n _ _ (by decide)) rfl rfl, by rw [uF_n _ _ (by decide)]; exact d2, by rw [uF_n _ _ (by decide)]; exact d3⟩
theorem RM.clear {F A : Nat → Nat → Int32} (h : RM F A S) : RM (uF F 62 4 0) A (sClear S) := by
  obtain ⟨⟨a1, a2⟩, b, ⟨c1, c2, c3⟩, d1, d2, d3⟩ := h
  exact ⟨⟨by rw [uF_s]; exact nI_0.symm, fun j hj => absurd hj (Nat.not_lt_zero j)⟩, b, ⟨by rw [uF_n _ _ (by decide)]; exact c1, by rw [uF_n _ _ (by decide)]; exact c2, c3⟩, d1, by rw [uF_n _ _ (by decide)]; exact d2, by rw [uF_n _ _ (by decide)]; exact d3⟩
theorem op_clear (W : Wf S) : OP n_MM_clear n_Mo_clear [] S := by
  refine ⟨nI S.1.1, sClear S, sClear_wf W, fun Y F A hC => ⟨uF F 32 1 0, A, ?_, hC.clear, KM.of (sF.up (L := [3201]) (by decide)) (sA.rf (L := [])) ⟨rfl, rfl⟩⟩, fun Y F A hM => ⟨uF (uF F 62 0 0) 62 4 0, A, ?_, (hM.thrown 0).clear, (KC.fld F A 0 0).tr (KC.fld _ A 4 0)⟩⟩
  · refine rn_in m_MM_clear rfl ⟨rfl, rfl⟩ ?_
    show ev _ t_MM_clear 0 [.ref 9] [] _ _
    repeat (refine ev_np [] rfl rfl rfl ?_)
    refine ev_gr rfl (by rfl) (by rfl) ?_
    refine ev_vc rfl (by rfl) (by rfl) rfl (c_Text_drain 78) ?_
    exact ev_ri rfl hC.1.1
  · refine rn_in m_Mo_clear rfl ⟨rfl, rfl⟩ ?_
    show ev _ t_Mo_clear 0 [.ref 62, .float 0] [] _ _
    repeat (refine ev_np [] rfl rfl rfl ?_)
    refine ev_pf rfl (by rfl) ⟨by rfl, by rfl⟩ ?_
    repeat (refine ev_np [] rfl rfl rfl ?_)
    refine ev_gi rfl (by rfl) (by rfl) ?_
    rw [uF_n _ _ (by decide), hM.1.1]
    repeat (refine ev_np [] rfl rfl rfl ?_)
    refine ev_pf rfl (by rfl) ⟨by rfl, by rfl⟩ ?_
    repeat (refine ev_np [] rfl rfl rfl ?_)
    exact ev_ri rfl rfl
theorem c_Mo_copies {Y : Nat × (Nat → Int32)} {F A : Nat → Nat → Int32} (d : Nat) {i j n : Nat} {g : Nat → Nat → Nat → Nat} (hi : i < 8) (hj : j < 8) (hm : MP A i n g) : ∃ A', xa_rn xa_ms (d + 1) n_Mo_copies [.ref 62, .int (nI i), .int (nI j)] (hp Y F A) none (hp Y F A') ∧ sA [63, 64] A A' ∧ MP A' j n g ∧ (∀ i' n' g', i' < 8 → i' ≠ j → MP A i' n' g' → MP A' i' n' g') := by
  have hix : ∀ (a k : Nat), 108 * nI a + nI k = nI (108 * a + k) := fun a k => by rw [show (108 : Int32) = nI 108 from rfl, pk_mul, nI_add]
  obtain ⟨A1, ⟨h1, h2⟩, h3⟩ := lp_ex (α := Nat → Nat → Int32) (fun k B => sA [63] A B ∧ ∀ z, B 63 z = if 108 * j ≤ z ∧ z < 108 * j + k then A 63 (108 * i + (z - 108 * j)) else A 63 z) (fun k B q => ev d t_Mo_copies 2 [.ref 62, .int (nI i), .int (nI j), .int (nI k)] [] (hp Y F B) q) 108 (fun k B hk hI => by
    obtain ⟨hs, hz⟩ := hI
    refine ⟨va_up B 63 (upd (B 63) (108 * j + k) (B 63 (108 * i + k))), ⟨hs.tr (sA.up (by decide)), fun z => ?_⟩, fun q hq => ?_⟩
    · rw [va_up_s]
      unfold upd
      by_cases e : z = 108 * j + k
      · subst e
        rw [if_pos rfl, hz]
        by_cases e3 : i = j
        · subst e3
          split
          · omega
          · rw [if_pos (by omega)]
            congr 1
            omega
        · rw [if_neg (by omega), if_pos (by omega)]
          congr 1
          omega
      · rw [if_neg e, hz]
        by_cases e2 : 108 * j ≤ z ∧ z < 108 * j + k
        · rw [if_pos e2, if_pos (by omega)]
        · rw [if_neg e2, if_neg (by omega)]
    · repeat (refine ev_np [] rfl rfl rfl ?_)
      refine ev_ie (nI_ge (b := 108) hk (by omega)) ?_
      repeat (refine ev_np [] rfl rfl rfl ?_)
      refine ev_gr rfl (by rfl) (by rfl) ?_
      repeat (refine ev_np [] rfl rfl rfl ?_)
      refine ev_gr rfl (by rfl) (by rfl) ?_
      repeat (refine ev_np [] rfl rfl rfl ?_)
      refine ev_an rfl (by rfl) (hix i k) (by omega) rfl ?_
      refine ev_am rfl (by rfl) (hix j k) (by omega) rfl ?_
      repeat (refine ev_np [2] rfl rfl rfl ?_)
      rw [nI_succ] at hq
      exact hq) 108 0 A rfl ⟨sA.rf, fun z => by rw [if_neg (by omega)]⟩
  have h64 : A1 64 = A 64 := h1 64 (by decide)
  obtain ⟨A2, hA2⟩ : ∃ A2, A2 = va_up A1 64 (upd (A1 64) j (A1 64 i)) := ⟨_, rfl⟩
  have e63 : A2 63 = A1 63 := by rw [hA2]; exact va_up_n _ _ (by decide)
  have e64 : ∀ z, A2 64 z = if z = j then A 64 i else A 64 z := fun z => by
    rw [hA2, va_up_s, h64]
    rfl
  refine ⟨A2, ?_, (h1.mono (by decide)).tr (by rw [hA2]; exact sA.up (by decide)), ⟨by rw [e64, if_pos rfl]; exact hm.1, fun s l t hs hl ht => ?_⟩, fun i' n' g' hi' hne hm' => ⟨by rw [e64, if_neg hne]; exact hm'.1, fun s l t hs hl ht => ?_⟩⟩
  · refine rn_in m_Mo_copies rfl ⟨rfl, rfl⟩ ?_
    show ev _ t_Mo_copies 0 [.ref 62, .int (nI i), .int (nI j), .float 0] [] _ _
    repeat (refine ev_np [2] rfl rfl rfl ?_)
    refine h3 _ ?_
    repeat (refine ev_np [] rfl rfl rfl ?_)
    refine ev_gr rfl (by rfl) (by rfl) ?_
    repeat (refine ev_np [] rfl rfl rfl ?_)
    refine ev_gr rfl (by rfl) (by rfl) ?_
    repeat (refine ev_np [] rfl rfl rfl ?_)
    refine ev_an rfl (by rfl) rfl hi rfl ?_
    refine ev_am rfl (by rfl) rfl hj rfl ?_
    rw [← hA2]
    exact ev_rv rfl
  · rw [e63, h2, if_pos (by omega)]
    have := hm.2 s l t hs hl ht
    rw [← this]
    congr 1
    omega
  · rw [e63, h2, if_neg (by omega)]
    exact hm'.2 s l t hs hl ht
def sBegin (S : SP) (i : Nat) : SP := (S.1, S.2.1, S.2.2.1, (S.2.1 i, (fun s => s == 0), 0))
theorem op_begin (W : Wf S) (x : Int32) : OP n_MM_begin n_Mo_begin [.int x] S := by
  rcases pk_ix x (n := 6) (by decide) with hx | hx | ⟨i, hi, rfl⟩
  · refine ⟨-1, S, W, fun Y F A hC => ⟨F, A, ?_, hC, KM.rf⟩, fun Y F A hM => ⟨uF F 62 0 0, A, ?_, hM.thrown 0, KC.fld F A 0 0⟩⟩
    · refine rn_in m_MM_begin rfl ⟨rfl, rfl⟩ ?_
      show ev _ t_MM_begin 0 [.ref 9, .int x] [] _ _
      repeat (refine ev_np [] rfl rfl rfl ?_)
      refine ev_ca rfl (c_MM_noPlanT 78 (Or.inl hx)) ?_
      repeat (refine ev_np [] rfl rfl rfl ?_)
      exact ev_ri rfl rfl
    · refine rn_in m_Mo_begin rfl ⟨rfl, rfl⟩ ?_
      show ev _ t_Mo_begin 0 [.ref 62, .int x, .float 0] [] _ _
      repeat (refine ev_np [] rfl rfl rfl ?_)
      refine ev_pf rfl (by rfl) ⟨by rfl, by rfl⟩ ?_
      repeat (refine ev_np [] rfl rfl rfl ?_)
      refine ev_ca rfl (c_Mo_isPlanF 77 (Or.inl hx)) ?_
      repeat (refine ev_np [] rfl rfl rfl ?_)
      exact ev_ri rfl rfl
  · refine ⟨-1, S, W, fun Y F A hC => ⟨F, A, ?_, hC, KM.rf⟩, fun Y F A hM => ⟨uF F 62 0 0, A, ?_, hM.thrown 0, KC.fld F A 0 0⟩⟩
    · refine rn_in m_MM_begin rfl ⟨rfl, rfl⟩ ?_
      show ev _ t_MM_begin 0 [.ref 9, .int x] [] _ _
      repeat (refine ev_np [] rfl rfl rfl ?_)
      refine ev_ca rfl (c_MM_noPlanT 78 (Or.inr hx)) ?_
      repeat (refine ev_np [] rfl rfl rfl ?_)
      exact ev_ri rfl rfl
    · refine rn_in m_Mo_begin rfl ⟨rfl, rfl⟩ ?_
      show ev _ t_Mo_begin 0 [.ref 62, .int x, .float 0] [] _ _
      repeat (refine ev_np [] rfl rfl rfl ?_)
      refine ev_pf rfl (by rfl) ⟨by rfl, by rfl⟩ ?_
      repeat (refine ev_np [] rfl rfl rfl ?_)
      refine ev_ca rfl (c_Mo_isPlanF 77 (Or.inr hx)) ?_
      repeat (refine ev_np [] rfl rfl rfl ?_)
      exact ev_ri rfl rfl
  · refine ⟨nI S.2.2.2.2.2, sBegin S i, ⟨W.1, W.2.1, W.2.2.1, W.2.1 i hi, fun s _ hs => ?_, Nat.zero_le _⟩, fun Y F A hC => ?_, fun Y F A hM => ?_⟩
    · have : s = 0 := by simpa [sBegin] using hs
      have := (W.2.1 i hi).1.1
      show s < (S.2.1 i).1
      omega
    · obtain ⟨F', A', b1, b2, b3, b4, b5, b6⟩ := c_Walker_restart (Y := Y) 77 (PLi hi) (hC.2.1 i hi) hC.2.2.2.2.2
      refine ⟨F', A', ?_, ?_, KM.of b3 b2 ⟨rfl, rfl⟩⟩
      · refine rn_in m_MM_begin rfl ⟨rfl, rfl⟩ ?_
        show ev _ t_MM_begin 0 [.ref 9, .int (nI i)] [] _ _
        repeat (refine ev_np [] rfl rfl rfl ?_)
        refine ev_ca rfl (c_MM_noPlanF 78 hi) ?_
        repeat (refine ev_np [] rfl rfl rfl ?_)
        refine ev_gr rfl (by rfl) (by rfl) ?_
        repeat (refine ev_np [] rfl rfl rfl ?_)
        refine ev_gr rfl (by rfl) (by rfl) ?_
        repeat (refine ev_np [] rfl rfl rfl ?_)
        refine ev_aa rfl hi ?_
        refine ev_vc rfl (by rfl) (by rfl) rfl (b1) ?_
        exact ev_ri rfl rfl
      · obtain ⟨⟨a1, a2⟩, b, ⟨c1, c2, c3⟩, -⟩ := hC
        exact ⟨⟨by rw [b3 32 1 (by decide)]; exact a1, by rw [b2 33 (by decide)]; exact a2⟩, fun k hk => (b k hk).frame (b3 _ _ (by simp; omega)) (b2 _ (by simp; omega)) (b2 _ (by simp; omega)), ⟨by rw [b3 39 1 (by decide)]; exact c1, by rw [b3 39 2 (by decide)]; exact c2, by rw [b2 40 (by decide)]; exact c3⟩, b4, by rw [b5]; rfl, by rw [b6]; exact nI_0.symm⟩
    · have hM0 := hM.thrown 0
      obtain ⟨A', b1, b2, b3, b4⟩ := c_Mo_copies (Y := Y) (F := uF F 62 0 0) 78 (i := i) (j := 7) (by omega) (by decide) (hM0.2.1 i hi)
      refine ⟨uF (uF (uF F 62 0 0) 62 23 1) 62 24 0, A', ?_, ?_, ((KC.fld F A 0 0).tr (KC.sA b2 rfl)).tr ((KC.fld _ A' 23 1).tr (KC.fld _ A' 24 0))⟩
      · refine rn_in m_Mo_begin rfl ⟨rfl, rfl⟩ ?_
        show ev _ t_Mo_begin 0 [.ref 62, .int (nI i), .float 0] [] _ _
        repeat (refine ev_np [] rfl rfl rfl ?_)
        refine ev_pf rfl (by rfl) ⟨by rfl, by rfl⟩ ?_
        repeat (refine ev_np [] rfl rfl rfl ?_)
        refine ev_ca rfl (c_Mo_isPlanT 77 hi) ?_
        repeat (refine ev_np [] rfl rfl rfl ?_)
        refine ev_vc rfl (by rfl) (by rfl) rfl (b1) ?_
        repeat (refine ev_np [] rfl rfl rfl ?_)
        refine ev_pf rfl (by rfl) ⟨by rfl, by rfl⟩ ?_
        repeat (refine ev_np [] rfl rfl rfl ?_)
        refine ev_gi rfl (by rfl) (by rfl) ?_
        rw [uF_n _ _ (by decide), hM0.2.2.2.2.2]
        repeat (refine ev_np [] rfl rfl rfl ?_)
        refine ev_pf rfl (by rfl) ⟨by rfl, by rfl⟩ ?_
        repeat (refine ev_np [] rfl rfl rfl ?_)
        exact ev_ri rfl rfl
      · obtain ⟨⟨a1, a2⟩, b, ⟨c1, c2, c3⟩, -⟩ := hM0
        exact ⟨⟨by rw [uF_n _ _ (by decide), uF_n _ _ (by decide)]; exact a1, by rw [b2 65 (by decide)]; exact a2⟩, fun k hk => b4 k _ _ (by omega) (by omega) (b k hk), ⟨by rw [uF_n _ _ (by decide), uF_n _ _ (by decide)]; exact c1, by rw [uF_n _ _ (by decide), uF_n _ _ (by decide)]; exact c2, by rw [b2 66 (by decide)]; exact c3⟩, b3, by rw [uF_n _ _ (by decide), uF_s]; rfl, by rw [uF_s]; exact nI_0.symm⟩
end OPS1
end
section
/-! ===== calls: go, walk, count, arrow, put ===== -/
section EWS
variable {d : Nat} {tb : List xa_I} {pc : Nat} {ls r : List Value} {q : xa_R} {Y : Nat × (Nat → Int32)} {F A : Nat → Nat → Int32} {o : Nat}
theorem ev_grs (stop : List Nat) {idx len ci k j : Nat} {l : List Nat} {cv : Int32} {sp : List (Nat ⊕ Nat)} (_ : stop.any (Nat.beq pc) = false) (hi : xa_lk tb pc = some (.getfield idx, len, ci :: k :: l, cv)) (ho : lo_at o = some (.inr (ci, sp))) (hx : sp[k]? = some (.inr j)) (kk : ev d tb (pc + len) ls (.ref j :: r) (hp Y F A) q) : ev d tb pc ls (.ref o :: r) (hp Y F A) q := ev_gr hi ho hx kk
end EWS
theorem nI_m1 {n : Nat} (h : 1 ≤ n) : nI n - 1 = nI (n - 1) := by
  rw [← nI_pred (n - 1), show n - 1 + 1 = n by omega]
/-- a call that only reads -/
theorem op_ro {mc mm : Nat} {as : List Value} {S : SP} (W : Wf S) (r : Int32) (hc : ∀ Y F A, RC F A S → xa_rn xa_ms 80 mc (.ref 9 :: as) (hp Y F A) (some (.int r)) (hp Y F A)) (hm : ∀ Y F A, RM F A S → xa_rn xa_ms 80 mm (.ref 62 :: as) (hp Y F A) (some (.int r)) (hp Y (uF F 62 0 0) A)) : OP mc mm as S := ⟨r, S, W, fun Y F A hC => ⟨F, A, hc Y F A hC, hC, KM.rf⟩, fun Y F A hM => ⟨uF F 62 0 0, A, hm Y F A hM, hM.thrown 0, KC.fld F A 0 0⟩⟩
/-- a state of a plan -/
def St (S : SP) (x y : Int32) : Prop := ∃ i s, i < 6 ∧ s < (S.2.1 i).1 ∧ x = nI i ∧ y = nI s
section STS
variable {Y : Nat × (Nat → Int32)} {F A : Nat → Nat → Int32} {S : SP} (d : Nat)
theorem c_MM_noStateF (hC : RC F A S) (W : Wf S) {i s : Nat} (hi : i < 6) (hs : s < (S.2.1 i).1) : xa_rn xa_ms (d + 2) n_MM_noState [.ref 9, .int (nI i), .int (nI s)] (hp Y F A) (some (.int 0)) (hp Y F A) := by
  have hn := (W.2.1 i hi).1.2
  refine rn_in m_MM_noState rfl ⟨rfl, rfl⟩ ?_
  show ev _ t_MM_noState 0 [.ref 9, .int (nI i), .int (nI s)] [] _ _
  repeat (refine ev_np [] rfl rfl rfl ?_)
  refine ev_ca rfl (c_MM_noPlanF d hi) ?_
  repeat (refine ev_np [] rfl rfl rfl ?_)
  refine ev_ie (nI_pos (by omega)) ?_
  repeat (first | refine ev_np [] rfl rfl rfl ?_ | refine ev_grs [] rfl rfl (by rfl) (by rfl) ?_)
  refine ev_aa rfl hi ?_
  refine ev_vc rfl (by rfl) (PLi hi).1 rfl (c_Plan_size d (PLi hi)) ?_
  rw [(hC.2.1 i hi).1]
  repeat (refine ev_np [] rfl rfl rfl ?_)
  refine ev_it (nI_lt hs (by omega)) ?_
  repeat (refine ev_np [] rfl rfl rfl ?_)
  exact ev_rz rfl rfl (Or.inl rfl)
theorem c_MM_noStateT (hC : RC F A S) {x y : Int32} (W : Wf S) (h : ¬ St S x y) : xa_rn xa_ms (d + 2) n_MM_noState [.ref 9, .int x, .int y] (hp Y F A) (some (.int 1)) (hp Y F A) := by
  refine rn_in m_MM_noState rfl ⟨rfl, rfl⟩ ?_
  show ev _ t_MM_noState 0 [.ref 9, .int x, .int y] [] _ _
  rcases pk_ix x (n := 6) (by decide) with hx | hx | ⟨i, hi, rfl⟩
  · repeat (refine ev_np [] rfl rfl rfl ?_)
    refine ev_ca rfl (c_MM_noPlanT d (Or.inl hx)) ?_
    repeat (refine ev_np [] rfl rfl rfl ?_)
    exact ev_rz rfl rfl (Or.inr rfl)
  · repeat (refine ev_np [] rfl rfl rfl ?_)
    refine ev_ca rfl (c_MM_noPlanT d (Or.inr hx)) ?_
    repeat (refine ev_np [] rfl rfl rfl ?_)
    exact ev_rz rfl rfl (Or.inr rfl)
  · have hn := (W.2.1 i hi).1.2
    repeat (refine ev_np [] rfl rfl rfl ?_)
    refine ev_ca rfl (c_MM_noPlanF d hi) ?_
    repeat (refine ev_np [] rfl rfl rfl ?_)
    rcases pk_ix y (n := (S.2.1 i).1) (by omega) with hy | hy | ⟨s, hs, rfl⟩
    · refine ev_it hy ?_
      repeat (refine ev_np [] rfl rfl rfl ?_)
      exact ev_rz rfl rfl (Or.inr rfl)
    · refine ev_if (fun c => ?_) (fun c => ?_)
      · repeat (refine ev_np [] rfl rfl rfl ?_)
        exact ev_rz rfl rfl (Or.inr rfl)
      repeat (first | refine ev_np [] rfl rfl rfl ?_ | refine ev_grs [] rfl rfl (by rfl) (by rfl) ?_)
      refine ev_aa rfl hi ?_
      refine ev_vc rfl (by rfl) (PLi hi).1 rfl (c_Plan_size d (PLi hi)) ?_
      rw [(hC.2.1 i hi).1]
      repeat (refine ev_np [] rfl rfl rfl ?_)
      refine ev_ie (Int32.not_lt.mpr hy) ?_
      repeat (refine ev_np [] rfl rfl rfl ?_)
      exact ev_rz rfl rfl (Or.inr rfl)
    · exact absurd ⟨i, s, hi, hs, rfl, rfl⟩ h
theorem c_Mo_isStateT (hM : RM F A S) (W : Wf S) {i s : Nat} (hi : i < 6) (hs : s < (S.2.1 i).1) : xa_rn xa_ms (d + 3) n_Mo_isState [.ref 62, .int (nI i), .int (nI s)] (hp Y F A) (some (.int 1)) (hp Y F A) := by
  have hn := (W.2.1 i hi).1.2
  refine rn_in m_Mo_isState rfl ⟨rfl, rfl⟩ ?_
  show ev _ t_Mo_isState 0 [.ref 62, .int (nI i), .int (nI s)] [] _ _
  repeat (refine ev_np [] rfl rfl rfl ?_)
  refine ev_ca rfl (c_Mo_isPlanT d hi) ?_
  repeat (first | refine ev_np [] rfl rfl rfl ?_ | refine ev_grs [] rfl rfl (by rfl) (by rfl) ?_)
  refine ev_an rfl (by rfl) rfl (by omega) rfl ?_
  rw [(hM.2.1 i hi).1]
  repeat (refine ev_np [] rfl rfl rfl ?_)
  refine ev_ca rfl (c_Mo_in (d + 1) _ _ _) ?_
  rw [show nI (S.2.1 i).1 - 1 = nI ((S.2.1 i).1 - 1) from nI_m1 (by omega), in_F (by omega) (by omega)]
  repeat (refine ev_np [] rfl rfl rfl ?_)
  exact ev_rz rfl rfl (Or.inr rfl)
theorem c_Mo_isStateF (hM : RM F A S) (W : Wf S) {x y : Int32} (h : ¬ St S x y) : xa_rn xa_ms (d + 3) n_Mo_isState [.ref 62, .int x, .int y] (hp Y F A) (some (.int 0)) (hp Y F A) := by
  refine rn_in m_Mo_isState rfl ⟨rfl, rfl⟩ ?_
  show ev _ t_Mo_isState 0 [.ref 62, .int x, .int y] [] _ _
  rcases pk_ix x (n := 6) (by decide) with hx | hx | ⟨i, hi, rfl⟩
  · repeat (refine ev_np [] rfl rfl rfl ?_)
    refine ev_ca rfl (c_Mo_isPlanF d (Or.inl hx)) ?_
    repeat (refine ev_np [] rfl rfl rfl ?_)
    exact ev_rz rfl rfl (Or.inl rfl)
  · repeat (refine ev_np [] rfl rfl rfl ?_)
    refine ev_ca rfl (c_Mo_isPlanF d (Or.inr hx)) ?_
    repeat (refine ev_np [] rfl rfl rfl ?_)
    exact ev_rz rfl rfl (Or.inl rfl)
  · have hn := (W.2.1 i hi).1
    repeat (refine ev_np [] rfl rfl rfl ?_)
    refine ev_ca rfl (c_Mo_isPlanT d hi) ?_
    repeat (first | refine ev_np [] rfl rfl rfl ?_ | refine ev_grs [] rfl rfl (by rfl) (by rfl) ?_)
    refine ev_an rfl (by rfl) rfl (by omega) rfl ?_
    rw [(hM.2.1 i hi).1]
    repeat (refine ev_np [] rfl rfl rfl ?_)
    refine ev_ca rfl (c_Mo_in (d + 1) _ _ _) ?_
    have e : (decide (¬ y < 0) && decide (¬ nI ((S.2.1 i).1 - 1) < y)) = false := by
      rcases pk_ix y (n := (S.2.1 i).1) (by omega) with hy | hy | ⟨s, hs, rfl⟩
      · exact in_T (by omega) (Or.inl hy)
      · exact in_T (by omega) (Or.inr (by rw [show (S.2.1 i).1 - 1 + 1 = (S.2.1 i).1 by omega]; exact hy))
      · exact absurd ⟨i, s, hi, hs, rfl, rfl⟩ h
    rw [show nI (S.2.1 i).1 - 1 = nI ((S.2.1 i).1 - 1) from nI_m1 (by omega), e]
    repeat (refine ev_np [] rfl rfl rfl ?_)
    exact ev_rz rfl rfl (Or.inl rfl)
/-- an arrow's place -/
def Ar (S : SP) (x y l z : Int32) : Prop := ∃ i s k t, i < 6 ∧ s < (S.2.1 i).1 ∧ k < 3 ∧ t < (S.2.1 i).1 ∧ x = nI i ∧ y = nI s ∧ l = nI k ∧ z = nI t
theorem c_MM_noArrowF (hC : RC F A S) (W : Wf S) {i s k t : Nat} (hi : i < 6) (hs : s < (S.2.1 i).1) (hk : k < 3) (ht : t < (S.2.1 i).1) : xa_rn xa_ms (d + 3) n_MM_noArrow [.ref 9, .int (nI i), .int (nI s), .int (nI k), .int (nI t)] (hp Y F A) (some (.int 0)) (hp Y F A) := by
  refine rn_in m_MM_noArrow rfl ⟨rfl, rfl⟩ ?_
  show ev _ t_MM_noArrow 0 [.ref 9, .int (nI i), .int (nI s), .int (nI k), .int (nI t)] [] _ _
  repeat (refine ev_np [] rfl rfl rfl ?_)
  refine ev_vc rfl (by rfl) (by rfl) rfl (c_MM_noStateF d hC W hi hs) ?_
  repeat (refine ev_np [] rfl rfl rfl ?_)
  refine ev_ca rfl (c_MM_noLetterF (d + 1) hk) ?_
  repeat (refine ev_np [] rfl rfl rfl ?_)
  refine ev_vc rfl (by rfl) (by rfl) rfl (c_MM_noStateF d hC W hi ht) ?_
  repeat (refine ev_np [] rfl rfl rfl ?_)
  exact ev_rz rfl rfl (Or.inl rfl)
theorem let3 (l : Int32) : (l < 0 ∨ 3 ≤ l) ∨ ∃ k, k < 3 ∧ l = nI k := by
  rcases pk_ix l (n := 3) (by decide) with h | h | h
  · exact Or.inl (Or.inl h)
  · exact Or.inl (Or.inr h)
  · exact Or.inr h
theorem c_MM_noArrowT (hC : RC F A S) (W : Wf S) {x y l z : Int32} (h : ¬ Ar S x y l z) : xa_rn xa_ms (d + 3) n_MM_noArrow [.ref 9, .int x, .int y, .int l, .int z] (hp Y F A) (some (.int 1)) (hp Y F A) := by
  refine rn_in m_MM_noArrow rfl ⟨rfl, rfl⟩ ?_
  show ev _ t_MM_noArrow 0 [.ref 9, .int x, .int y, .int l, .int z] [] _ _
  repeat (refine ev_np [] rfl rfl rfl ?_)
  by_cases h1 : St S x y
  · obtain ⟨i, s, hi, hs, rfl, rfl⟩ := h1
    refine ev_vc rfl (by rfl) (by rfl) rfl (c_MM_noStateF d hC W hi hs) ?_
    repeat (refine ev_np [] rfl rfl rfl ?_)
    rcases let3 l with hl | ⟨k, hk, rfl⟩
    · refine ev_ca rfl (c_MM_noLetterT (d + 1) hl) ?_
      repeat (refine ev_np [] rfl rfl rfl ?_)
      exact ev_rz rfl rfl (Or.inr rfl)
    · refine ev_ca rfl (c_MM_noLetterF (d + 1) hk) ?_
      repeat (refine ev_np [] rfl rfl rfl ?_)
      by_cases h2 : St S (nI i) z
      · obtain ⟨i', t, hi', ht, e, rfl⟩ := h2
        have : i = i' := (nI_eq (by omega) (by omega)).mp e
        subst this
        exact absurd ⟨i, s, k, t, hi, hs, hk, ht, rfl, rfl, rfl, rfl⟩ h
      · refine ev_vc rfl (by rfl) (by rfl) rfl (c_MM_noStateT d hC W h2) ?_
        repeat (refine ev_np [] rfl rfl rfl ?_)
        exact ev_rz rfl rfl (Or.inr rfl)
  · refine ev_vc rfl (by rfl) (by rfl) rfl (c_MM_noStateT d hC W h1) ?_
    repeat (refine ev_np [] rfl rfl rfl ?_)
    exact ev_rz rfl rfl (Or.inr rfl)
end STS
section OPS2
variable {S : SP}
theorem op_arrow (W : Wf S) (x y l z : Int32) : OP n_MM_arrow n_Mo_arrow [.int x, .int y, .int l, .int z] S := by
  by_cases h : Ar S x y l z
  · obtain ⟨i, s, k, t, hi, hs, hk, ht, rfl, rfl, rfl, rfl⟩ := h
    have hn := (W.2.1 i hi).1.2
    refine op_ro W (nI ((S.2.1 i).2 s k t)) (fun Y F A hC => ?_) (fun Y F A hM => ?_)
    · refine rn_in m_MM_arrow rfl ⟨rfl, rfl⟩ ?_
      show ev _ t_MM_arrow 0 [.ref 9, .int (nI i), .int (nI s), .int (nI k), .int (nI t)] [] _ _
      repeat (refine ev_np [] rfl rfl rfl ?_)
      refine ev_vc rfl (by rfl) (by rfl) rfl (c_MM_noArrowF 76 hC W hi hs hk ht) ?_
      repeat (first | refine ev_np [] rfl rfl rfl ?_ | refine ev_grs [] rfl rfl (by rfl) (by rfl) ?_)
      refine ev_aa rfl hi ?_
      repeat (refine ev_np [] rfl rfl rfl ?_)
      refine ev_vc rfl (by rfl) (PLi hi).1 rfl (c_Plan_at 76 (PLi hi) (hC.2.1 i hi) (by omega) hk (by omega) ((W.2.1 i hi).2 s k t).1) ?_
      exact ev_ri rfl rfl
    · have hM0 := hM.thrown 0
      refine rn_in m_Mo_arrow rfl ⟨rfl, rfl⟩ ?_
      show ev _ t_Mo_arrow 0 [.ref 62, .int (nI i), .int (nI s), .int (nI k), .int (nI t)] [] _ _
      repeat (refine ev_np [] rfl rfl rfl ?_)
      refine ev_pf rfl (by rfl) ⟨by rfl, by rfl⟩ ?_
      repeat (refine ev_np [] rfl rfl rfl ?_)
      refine ev_vc rfl (by rfl) (by rfl) rfl (c_Mo_isStateT 76 hM0 W hi hs) ?_
      repeat (refine ev_np [] rfl rfl rfl ?_)
      refine ev_ca rfl (c_Mo_in 78 _ _ _) ?_
      rw [show (2 : Int32) = nI 2 from rfl, in_F (N := 2) (by omega) (by omega)]
      repeat (refine ev_np [] rfl rfl rfl ?_)
      refine ev_vc rfl (by rfl) (by rfl) rfl (c_Mo_isStateT 76 hM0 W hi ht) ?_
      repeat (refine ev_np [] rfl rfl rfl ?_)
      refine ev_vc rfl (by rfl) (by rfl) rfl (c_Mo_of 77 (by omega) (hM0.2.1 i hi) (by omega) hk (by omega)) ?_
      repeat (refine ev_np [] rfl rfl rfl ?_)
      exact ev_ri rfl rfl
  · refine op_ro W (-1) (fun Y F A hC => ?_) (fun Y F A hM => ?_)
    · refine rn_in m_MM_arrow rfl ⟨rfl, rfl⟩ ?_
      show ev _ t_MM_arrow 0 [.ref 9, .int x, .int y, .int l, .int z] [] _ _
      repeat (refine ev_np [] rfl rfl rfl ?_)
      refine ev_vc rfl (by rfl) (by rfl) rfl (c_MM_noArrowT 76 hC W h) ?_
      repeat (refine ev_np [] rfl rfl rfl ?_)
      exact ev_ri rfl rfl
    · have hM0 := hM.thrown 0
      refine rn_in m_Mo_arrow rfl ⟨rfl, rfl⟩ ?_
      show ev _ t_Mo_arrow 0 [.ref 62, .int x, .int y, .int l, .int z] [] _ _
      repeat (refine ev_np [] rfl rfl rfl ?_)
      refine ev_pf rfl (by rfl) ⟨by rfl, by rfl⟩ ?_
      repeat (refine ev_np [] rfl rfl rfl ?_)
      by_cases h1 : St S x y
      · obtain ⟨i, s, hi, hs, rfl, rfl⟩ := h1
        refine ev_vc rfl (by rfl) (by rfl) rfl (c_Mo_isStateT 76 hM0 W hi hs) ?_
        repeat (refine ev_np [] rfl rfl rfl ?_)
        refine ev_ca rfl (c_Mo_in 78 _ _ _) ?_
        rcases let3 l with hl | ⟨k, hk, rfl⟩
        · rw [show (2 : Int32) = nI 2 from rfl, in_T (N := 2) (by omega) hl]
          repeat (refine ev_np [] rfl rfl rfl ?_)
          exact ev_ri rfl rfl
        · rw [show (2 : Int32) = nI 2 from rfl, in_F (N := 2) (by omega) (by omega)]
          repeat (refine ev_np [] rfl rfl rfl ?_)
          by_cases h2 : St S (nI i) z
          · obtain ⟨i', t, hi', ht, e, rfl⟩ := h2
            have : i = i' := (nI_eq (by omega) (by omega)).mp e
            subst this
            exact absurd ⟨i, s, k, t, hi, hs, hk, ht, rfl, rfl, rfl, rfl⟩ h
          · refine ev_vc rfl (by rfl) (by rfl) rfl (c_Mo_isStateF 76 hM0 W h2) ?_
            repeat (refine ev_np [] rfl rfl rfl ?_)
            exact ev_ri rfl rfl
      · refine ev_vc rfl (by rfl) (by rfl) rfl (c_Mo_isStateF 76 hM0 W h1) ?_
        repeat (refine ev_np [] rfl rfl rfl ?_)
        exact ev_ri rfl rfl
theorem gset_wf {n : Nat} {g : Nat → Nat → Nat → Nat} (h : GW n g) {s l t v : Nat} (hs : s < n) (hl : l < 3) (ht : t < n) (hv : v ≤ 2) : GW n (gset g s l t v) := by
  refine ⟨h.1, fun a b c => ?_⟩
  unfold gset
  split
  · rename_i e
    obtain ⟨rfl, rfl, rfl⟩ := e
    exact ⟨hv, fun _ => ⟨hs, hl, ht⟩⟩
  · exact h.2 a b c
/-- one plan is another -/
def sPlan (S : SP) (i : Nat) (p : PLN) : SP := (S.1, fun k => if k = i then p else S.2.1 k, S.2.2)
theorem sPlan_wf (W : Wf S) {i : Nat} {p : PLN} (h : GW p.1 p.2) : Wf (sPlan S i p) := by
  refine ⟨W.1, fun k hk => ?_, W.2.2⟩
  show GW (if k = i then p else S.2.1 k).1 (if k = i then p else S.2.1 k).2
  split
  · exact h
  · exact W.2.1 k hk
theorem sPlan_s (S : SP) (i : Nat) (p : PLN) : (sPlan S i p).2.1 i = p := if_pos rfl
theorem sPlan_n (S : SP) {i k : Nat} (p : PLN) (h : k ≠ i) : (sPlan S i p).2.1 k = S.2.1 k := if_neg h
/-- the class's plan i has changed, and none of what it keeps else -/
theorem RC.plan {F A F' A' : Nat → Nat → Int32} (h : RC F A S) {i : Nat} {p : PLN} (hi : i < 6) {LA LF : List Nat} (hA : sA ((11 + 3 * i + 1) :: (11 + 3 * i + 2) :: LA) A A') (hF : sF ((11 + 3 * i) * 100 :: LF) F F') (hk : (LA.all fun x => Nat.blt 28 x && !(x == 33) && !(x == 40) && !(x == 60) && !(x == 61)) = true ∧ (LF.all fun x => Nat.blt 2800 x && !(x == 3201) && !(x == 3901) && !(x == 3902) && !(x == 5801) && !(x == 5802) && !(x == 5900)) = true) (hp : CP F' A' (11 + 3 * i) p.1 p.2) : RC F' A' (sPlan S i p) := by
  obtain ⟨⟨a1, a2⟩, b, ⟨c1, c2, c3⟩, d1, d2, d3⟩ := h
  have kA : ∀ o, o = 33 ∨ o = 40 ∨ o = 60 ∨ o = 61 ∨ (o < 29 ∧ o ≠ 11 + 3 * i + 1 ∧ o ≠ 11 + 3 * i + 2) → A' o = A o := fun o ho => hA o (fun z => by
    simp only [List.mem_cons] at z
    rcases z with z | z | z
    · omega
    · omega
    · have := List.all_eq_true.mp hk.1 o z
      simp only [Bool.and_eq_true, Bool.not_eq_true', beq_eq_false_iff_ne] at this
      have h2 := Nat.le_of_ble_eq_true this.1.1.1.1
      omega)
  have kF : ∀ o k, o * 100 + k = 3201 ∨ o * 100 + k = 3901 ∨ o * 100 + k = 3902 ∨ o * 100 + k = 5801 ∨ o * 100 + k = 5802 ∨ o * 100 + k = 5900 ∨ (o * 100 + k < 2801 ∧ o * 100 + k ≠ (11 + 3 * i) * 100) → F' o k = F o k := fun o k ho => hF o k (fun z => by
    simp only [List.mem_cons] at z
    rcases z with z | z
    · omega
    · have := List.all_eq_true.mp hk.2 _ z
      simp only [Bool.and_eq_true, Bool.not_eq_true', beq_eq_false_iff_ne] at this
      have h2 := Nat.le_of_ble_eq_true this.1.1.1.1.1.1
      omega)
  refine ⟨⟨by rw [kF 32 1 (by omega)]; exact a1, by rw [kA 33 (by omega)]; exact a2⟩, fun k hk => ?_, ⟨by rw [kF 39 1 (by omega)]; exact c1, by rw [kF 39 2 (by omega)]; exact c2, by rw [kA 40 (by omega)]; exact c3⟩, d1.frame (kF 59 0 (by omega)) (kA 60 (by omega)) (kA 61 (by omega)), by rw [kF 58 1 (by omega)]; exact d2, by rw [kF 58 2 (by omega)]; exact d3⟩
  by_cases e : k = i
  · subst e
    rw [sPlan_s]
    exact hp
  · rw [sPlan_n _ _ e]
    exact (b k hk).frame (kF _ 0 (by omega)) (kA _ (by omega)) (kA _ (by omega))
/-- so the model's -/
theorem RM.plan {F A A' : Nat → Nat → Int32} (h : RM F A S) {i : Nat} {p : PLN} {LA : List Nat} (hA : sA (63 :: 64 :: LA) A A') (hk : (LA.all fun x => !(x == 65) && !(x == 66)) = true) (hm : ∀ k n g, k < 8 → k ≠ i → k ≠ 6 → MP A k n g → MP A' k n g) (hi : i < 6) (hp : MP A' i p.1 p.2) : RM F A' (sPlan S i p) := by
  obtain ⟨⟨a1, a2⟩, b, ⟨c1, c2, c3⟩, d1, d2, d3⟩ := h
  have kA : ∀ o, o = 65 ∨ o = 66 → A' o = A o := fun o ho => hA o (fun z => by
    simp only [List.mem_cons] at z
    rcases z with z | z | z
    · omega
    · omega
    · have := List.all_eq_true.mp hk o z
      simp only [Bool.and_eq_true, Bool.not_eq_true', beq_eq_false_iff_ne] at this
      omega)
  refine ⟨⟨a1, by rw [kA 65 (by omega)]; exact a2⟩, fun k hk => ?_, ⟨c1, c2, by rw [kA 66 (by omega)]; exact c3⟩, hm 7 _ _ (by omega) (by omega) (by omega) d1, d2, d3⟩
  by_cases e : k = i
  · subst e
    rw [sPlan_s]
    exact hp
  · rw [sPlan_n _ _ e]
    exact hm k _ _ (by omega) e (by omega) (b k hk)
/-- one arrow of the model -/
theorem MP.put {A : Nat → Nat → Int32} {i n : Nat} {g : Nat → Nat → Nat → Nat} (h : MP A i n g) {s l t v : Nat} (hs : s < 6) (hl : l < 3) (ht : t < 6) : MP (va_up A 63 (upd (A 63) (108 * i + 18 * s + 6 * l + t) (nI v))) i n (gset g s l t v) := by
  refine ⟨by rw [va_up_n _ _ (by decide)]; exact h.1, fun a b c ha hb hc => ?_⟩
  rw [va_up_s]
  unfold upd gset
  by_cases e : a = s ∧ b = l ∧ c = t
  · rw [if_pos e, if_pos (by omega)]
  · rw [if_neg e, if_neg (by omega)]
    exact h.2 a b c ha hb hc
theorem MP.keep {A : Nat → Nat → Int32} {i j n : Nat} {g : Nat → Nat → Nat → Nat} (h : MP A j n g) (hij : j ≠ i) {s l t : Nat} (v : Int32) (hs : s < 6) (hl : l < 3) (ht : t < 6) : MP (va_up A 63 (upd (A 63) (108 * i + 18 * s + 6 * l + t) v)) j n g := by
  refine ⟨by rw [va_up_n _ _ (by decide)]; exact h.1, fun a b c ha hb hc => ?_⟩
  rw [va_up_s]
  unfold upd
  rw [if_neg (by omega)]
  exact h.2 a b c ha hb hc
theorem op_put (W : Wf S) (x y l z v : Int32) : OP n_MM_put n_Mo_put [.int x, .int y, .int l, .int z, .int v] S := by
  by_cases h : Ar S x y l z
  · obtain ⟨i, s, k, t, hi, hs, hk, ht, rfl, rfl, rfl, rfl⟩ := h
    have hn := (W.2.1 i hi).1.2
    rcases let3 v with hv | ⟨v, hv, rfl⟩
    · refine op_ro W (-1) (fun Y F A hC => ?_) (fun Y F A hM => ?_)
      · refine rn_in m_MM_put rfl ⟨rfl, rfl⟩ ?_
        show ev _ t_MM_put 0 [.ref 9, .int (nI i), .int (nI s), .int (nI k), .int (nI t), .int v, .float 0] [] _ _
        repeat (refine ev_np [] rfl rfl rfl ?_)
        refine ev_vc rfl (by rfl) (by rfl) rfl (c_MM_noArrowF 76 hC W hi hs hk ht) ?_
        repeat (refine ev_np [] rfl rfl rfl ?_)
        refine ev_if (fun c => ?_) (fun c => ?_)
        · repeat (refine ev_np [] rfl rfl rfl ?_)
          exact ev_ri rfl rfl
        · repeat (refine ev_np [] rfl rfl rfl ?_)
          refine ev_ie (fun z => ?_) ?_
          · rcases hv with hv | hv
            · exact c hv
            · exact absurd (show v ≤ 2 from z) (by rw [Int32.le_iff_toInt_le] at *; have := hv; simp at *; omega)
          repeat (refine ev_np [] rfl rfl rfl ?_)
          exact ev_ri rfl rfl
      · have hM0 := hM.thrown 0
        refine rn_in m_Mo_put rfl ⟨rfl, rfl⟩ ?_
        show ev _ t_Mo_put 0 [.ref 62, .int (nI i), .int (nI s), .int (nI k), .int (nI t), .int v, .float 0] [] _ _
        repeat (refine ev_np [] rfl rfl rfl ?_)
        refine ev_pf rfl (by rfl) ⟨by rfl, by rfl⟩ ?_
        repeat (refine ev_np [] rfl rfl rfl ?_)
        refine ev_vc rfl (by rfl) (by rfl) rfl (c_Mo_isStateT 76 hM0 W hi hs) ?_
        repeat (refine ev_np [] rfl rfl rfl ?_)
        refine ev_ca rfl (c_Mo_in 78 _ _ _) ?_
        rw [show (2 : Int32) = nI 2 from rfl, in_F (N := 2) (by omega) (by omega)]
        repeat (refine ev_np [] rfl rfl rfl ?_)
        refine ev_vc rfl (by rfl) (by rfl) rfl (c_Mo_isStateT 76 hM0 W hi ht) ?_
        repeat (refine ev_np [] rfl rfl rfl ?_)
        refine ev_ca rfl (c_Mo_in 78 _ _ _) ?_
        rw [show (2 : Int32) = nI 2 from rfl, in_T (N := 2) (by omega) hv]
        repeat (refine ev_np [] rfl rfl rfl ?_)
        exact ev_ri rfl rfl
    · refine ⟨nI ((S.2.1 i).2 s k t), sPlan S i ((S.2.1 i).1, gset (S.2.1 i).2 s k t v), sPlan_wf W (gset_wf (W.2.1 i hi) hs hk ht (by omega)), fun Y F A hC => ?_, fun Y F A hM => ?_⟩
      · obtain ⟨A', b1, b2, b3⟩ := c_Plan_lay (Y := Y) 76 (PLi hi) (hC.2.1 i hi) (s := s) (l := k) (t := t) (v := v) (by omega) hk (by omega) (by omega)
        refine ⟨F, A', ?_, hC.plan (LA := []) (LF := []) hi b2 sF.rf ⟨rfl, rfl⟩ b3, ?_⟩
        · refine rn_in m_MM_put rfl ⟨rfl, rfl⟩ ?_
          show ev _ t_MM_put 0 [.ref 9, .int (nI i), .int (nI s), .int (nI k), .int (nI t), .int (nI v), .float 0] [] _ _
          repeat (refine ev_np [] rfl rfl rfl ?_)
          refine ev_vc rfl (by rfl) (by rfl) rfl (c_MM_noArrowF 76 hC W hi hs hk ht) ?_
          repeat (refine ev_np [] rfl rfl rfl ?_)
          refine ev_ie (nI_pos (by omega)) ?_
          repeat (refine ev_np [] rfl rfl rfl ?_)
          refine ev_it (nI_le (b := 2) (by omega) (by omega)) ?_
          repeat (first | refine ev_np [] rfl rfl rfl ?_ | refine ev_grs [] rfl rfl (by rfl) (by rfl) ?_)
          refine ev_aa rfl hi ?_
          repeat (refine ev_np [] rfl rfl rfl ?_)
          refine ev_vc rfl (by rfl) (PLi hi).1 rfl (c_Plan_at 76 (PLi hi) (hC.2.1 i hi) (by omega) hk (by omega) ((W.2.1 i hi).2 s k t).1) ?_
          repeat (first | refine ev_np [] rfl rfl rfl ?_ | refine ev_grs [] rfl rfl (by rfl) (by rfl) ?_)
          refine ev_aa rfl hi ?_
          repeat (refine ev_np [] rfl rfl rfl ?_)
          refine ev_vc rfl (by rfl) (PLi hi).1 rfl b1 ?_
          repeat (refine ev_np [] rfl rfl rfl ?_)
          exact ev_ri rfl rfl
        · intro o ho
          exact ⟨b2 o (by simp; omega), rfl⟩
      · have hM0 := hM.thrown 0
        refine ⟨uF F 62 0 0, va_up A 63 (upd (A 63) (108 * i + 18 * s + 6 * k + t) (nI v)), ?_, hM0.plan (LA := []) (sA.up (by decide)) rfl (fun j n g _ hj _ h => h.keep hj (nI v) (by omega) hk (by omega)) hi ((hM0.2.1 i hi).put (by omega) hk (by omega)), (KC.fld F A 0 0).tr (KC.upA _ _ (by decide) _)⟩
        refine rn_in m_Mo_put rfl ⟨rfl, rfl⟩ ?_
        show ev _ t_Mo_put 0 [.ref 62, .int (nI i), .int (nI s), .int (nI k), .int (nI t), .int (nI v), .float 0] [] _ _
        repeat (refine ev_np [] rfl rfl rfl ?_)
        refine ev_pf rfl (by rfl) ⟨by rfl, by rfl⟩ ?_
        repeat (refine ev_np [] rfl rfl rfl ?_)
        refine ev_vc rfl (by rfl) (by rfl) rfl (c_Mo_isStateT 76 hM0 W hi hs) ?_
        repeat (refine ev_np [] rfl rfl rfl ?_)
        refine ev_ca rfl (c_Mo_in 78 _ _ _) ?_
        rw [show (2 : Int32) = nI 2 from rfl, in_F (N := 2) (by omega) (by omega)]
        repeat (refine ev_np [] rfl rfl rfl ?_)
        refine ev_vc rfl (by rfl) (by rfl) rfl (c_Mo_isStateT 76 hM0 W hi ht) ?_
        repeat (refine ev_np [] rfl rfl rfl ?_)
        refine ev_ca rfl (c_Mo_in 78 _ _ _) ?_
        rw [show (2 : Int32) = nI 2 from rfl, in_F (N := 2) (by omega) (by omega)]
        repeat (refine ev_np [] rfl rfl rfl ?_)
        refine ev_vc rfl (by rfl) (by rfl) rfl (c_Mo_of 77 (by omega) (hM0.2.1 i hi) (by omega) hk (by omega)) ?_
        repeat (first | refine ev_np [] rfl rfl rfl ?_ | refine ev_grs [] rfl rfl (by rfl) (by rfl) ?_)
        refine ev_ca rfl (c_Mo_at 78 i s k t) ?_
        repeat (refine ev_np [] rfl rfl rfl ?_)
        refine ev_am rfl (by rfl) rfl (by omega) rfl ?_
        repeat (refine ev_np [] rfl rfl rfl ?_)
        exact ev_ri rfl rfl
  · refine op_ro W (-1) (fun Y F A hC => ?_) (fun Y F A hM => ?_)
    · refine rn_in m_MM_put rfl ⟨rfl, rfl⟩ ?_
      show ev _ t_MM_put 0 [.ref 9, .int x, .int y, .int l, .int z, .int v, .float 0] [] _ _
      repeat (refine ev_np [] rfl rfl rfl ?_)
      refine ev_vc rfl (by rfl) (by rfl) rfl (c_MM_noArrowT 76 hC W h) ?_
      repeat (refine ev_np [] rfl rfl rfl ?_)
      exact ev_ri rfl rfl
    · have hM0 := hM.thrown 0
      refine rn_in m_Mo_put rfl ⟨rfl, rfl⟩ ?_
      show ev _ t_Mo_put 0 [.ref 62, .int x, .int y, .int l, .int z, .int v, .float 0] [] _ _
      repeat (refine ev_np [] rfl rfl rfl ?_)
      refine ev_pf rfl (by rfl) ⟨by rfl, by rfl⟩ ?_
      repeat (refine ev_np [] rfl rfl rfl ?_)
      by_cases h1 : St S x y
      · obtain ⟨i, s, hi, hs, rfl, rfl⟩ := h1
        refine ev_vc rfl (by rfl) (by rfl) rfl (c_Mo_isStateT 76 hM0 W hi hs) ?_
        repeat (refine ev_np [] rfl rfl rfl ?_)
        refine ev_ca rfl (c_Mo_in 78 _ _ _) ?_
        rcases let3 l with hl | ⟨k, hk, rfl⟩
        · rw [show (2 : Int32) = nI 2 from rfl, in_T (N := 2) (by omega) hl]
          repeat (refine ev_np [] rfl rfl rfl ?_)
          exact ev_ri rfl rfl
        · rw [show (2 : Int32) = nI 2 from rfl, in_F (N := 2) (by omega) (by omega)]
          repeat (refine ev_np [] rfl rfl rfl ?_)
          by_cases h2 : St S (nI i) z
          · obtain ⟨i', t, hi', ht, e, rfl⟩ := h2
            have : i = i' := (nI_eq (by omega) (by omega)).mp e
            subst this
            exact absurd ⟨i, s, k, t, hi, hs, hk, ht, rfl, rfl, rfl, rfl⟩ h
          · refine ev_vc rfl (by rfl) (by rfl) rfl (c_Mo_isStateF 76 hM0 W h2) ?_
            repeat (refine ev_np [] rfl rfl rfl ?_)
            exact ev_ri rfl rfl
      · refine ev_vc rfl (by rfl) (by rfl) rfl (c_Mo_isStateF 76 hM0 W h1) ?_
        repeat (refine ev_np [] rfl rfl rfl ?_)
        exact ev_ri rfl rfl
end OPS2
end
section
/-! ===== calls: go, walk, count, states ===== -/
section OPS3
variable {S : SP}
def sGo (S : SP) (l : Nat) : SP := (S.1, S.2.1, S.2.2.1, (S.2.2.2.1, nx S.2.2.2.1.2 S.2.2.2.2.1 l, S.2.2.2.2.2 + 1))
theorem op_go (W : Wf S) (x : Int32) : OP n_MM_go n_Mo_go [.int x] S := by
  obtain ⟨wg, wu, wk⟩ := W.2.2.2
  rcases let3 x with hx | ⟨l, hl, rfl⟩
  · refine op_ro W (-1) (fun Y F A hC => ?_) (fun Y F A hM => ?_)
    · refine rn_in m_MM_go rfl ⟨rfl, rfl⟩ ?_
      show ev _ t_MM_go 0 [.ref 9, .int x] [] _ _
      repeat (refine ev_np [] rfl rfl rfl ?_)
      refine ev_ca rfl (c_MM_noLetterT 78 hx) ?_
      repeat (refine ev_np [] rfl rfl rfl ?_)
      exact ev_ri rfl rfl
    · refine rn_in m_Mo_go rfl ⟨rfl, rfl⟩ ?_
      show ev _ t_Mo_go 0 [.ref 62, .int x, .float 0] [] _ _
      repeat (refine ev_np [] rfl rfl rfl ?_)
      refine ev_pf rfl (by rfl) ⟨by rfl, by rfl⟩ ?_
      repeat (refine ev_np [] rfl rfl rfl ?_)
      refine ev_ca rfl (c_Mo_in 78 _ _ _) ?_
      rw [show (2 : Int32) = nI 2 from rfl, in_T (N := 2) (by omega) hx]
      repeat (refine ev_np [] rfl rfl rfl ?_)
      exact ev_ri rfl rfl
  · obtain ⟨g, hg⟩ : ∃ g, g = S.2.2.2.1.2 := ⟨_, rfl⟩
    obtain ⟨u, hu⟩ : ∃ u, u = S.2.2.2.2.1 := ⟨_, rfl⟩
    obtain ⟨k, hk⟩ : ∃ k, k = S.2.2.2.2.2 := ⟨_, rfl⟩
    have hlt := bm_lt (nx g u l)
    by_cases e : bm (nx g u l) = 0 ∨ k = 200
    · refine op_ro W (if bm (nx g u l) = 0 then -2 else -3) (fun Y F A hC => ?_) (fun Y F A hM => ?_)
      · obtain ⟨d1, d2, d3⟩ := hC.2.2.2
        have h1 := c_Walker_step (Y := Y) 75 d2 d1 hl d3 wk
        rw [← hg, ← hu, ← hk, if_pos e] at h1
        refine rn_in m_MM_go rfl ⟨rfl, rfl⟩ ?_
        show ev _ t_MM_go 0 [.ref 9, .int (nI l)] [] _ _
        repeat (refine ev_np [] rfl rfl rfl ?_)
        refine ev_ca rfl (c_MM_noLetterF 78 hl) ?_
        repeat (first | refine ev_np [] rfl rfl rfl ?_ | refine ev_grs [] rfl rfl (by rfl) (by rfl) ?_)
        refine ev_vc rfl (by rfl) (by rfl) rfl (h1) ?_
        refine ev_ri rfl ?_
        by_cases e1 : bm (nx g u l) = 0
        · rw [if_pos e1, if_pos e1]
        · rw [if_neg e1, if_neg e1, if_pos (e.resolve_left e1)]
      · have hM0 := hM.thrown 0
        obtain ⟨d1, d2, d3⟩ := hM0.2.2.2
        refine rn_in m_Mo_go rfl ⟨rfl, rfl⟩ ?_
        show ev _ t_Mo_go 0 [.ref 62, .int (nI l), .float 0] [] _ _
        repeat (refine ev_np [] rfl rfl rfl ?_)
        refine ev_pf rfl (by rfl) ⟨by rfl, by rfl⟩ ?_
        repeat (refine ev_np [] rfl rfl rfl ?_)
        refine ev_ca rfl (c_Mo_in 78 _ _ _) ?_
        rw [show (2 : Int32) = nI 2 from rfl, in_F (N := 2) (by omega) (by omega)]
        repeat (refine ev_np [] rfl rfl rfl ?_)
        refine ev_vc rfl (by rfl) (by rfl) rfl (c_Mo_onward 76 d2 d1 wg hl) ?_
        rw [← hg, ← hu]
        by_cases e1 : bm (nx g u l) = 0
        · rw [if_pos e1, e1]
          repeat (refine ev_np [] rfl rfl rfl ?_)
          exact ev_ri rfl rfl
        · repeat (refine ev_np [] rfl rfl rfl ?_)
          refine ev_it (nI_ne0 (by omega) (by omega)) ?_
          repeat (refine ev_np [] rfl rfl rfl ?_)
          refine ev_gi rfl (by rfl) (by rfl) ?_
          rw [d3, ← hk, e.resolve_left e1, if_neg e1]
          repeat (refine ev_np [] rfl rfl rfl ?_)
          exact ev_ri rfl rfl
    · have e1 : ¬ bm (nx g u l) = 0 := fun z => e (Or.inl z)
      have e2 : ¬ k = 200 := fun z => e (Or.inr z)
      refine ⟨nI (cnt (nx g u l) 6), sGo S l, ⟨W.1, W.2.1, W.2.2.1, wg, fun s _ hs => ?_, ?_⟩, fun Y F A hC => ?_, fun Y F A hM => ?_⟩
      · obtain ⟨a, -, ha⟩ := List.any_eq_true.mp hs
        simp only [Bool.and_eq_true, decide_eq_true_eq] at ha
        exact ((wg.2 a l s).2 (by omega)).2.2
      · show S.2.2.2.2.2 + 1 ≤ 200
        omega
      · obtain ⟨d1, d2, d3⟩ := hC.2.2.2
        have h1 := c_Walker_step (Y := Y) 75 d2 d1 hl d3 wk
        rw [← hg, ← hu, ← hk, if_neg e, if_neg e1, if_neg e2] at h1
        refine ⟨uF (uF F 58 1 (nI (bm (nx g u l)))) 58 2 (nI (k + 1)), A, ?_, ?_, KM.of (LF := [5801, 5802]) ((sF.up (by decide)).tr (sF.up (by decide))) (sA.rf (L := [])) ⟨rfl, rfl⟩⟩
        · refine rn_in m_MM_go rfl ⟨rfl, rfl⟩ ?_
          show ev _ t_MM_go 0 [.ref 9, .int (nI l)] [] _ _
          repeat (refine ev_np [] rfl rfl rfl ?_)
          refine ev_ca rfl (c_MM_noLetterF 78 hl) ?_
          repeat (first | refine ev_np [] rfl rfl rfl ?_ | refine ev_grs [] rfl rfl (by rfl) (by rfl) ?_)
          refine ev_vc rfl (by rfl) (by rfl) rfl (h1) ?_
          exact ev_ri rfl rfl
        · obtain ⟨⟨a1, a2⟩, b, ⟨c1, c2, c3⟩, -⟩ := hC
          exact ⟨⟨by rw [uF_n _ _ (by decide), uF_n _ _ (by decide)]; exact a1, a2⟩, fun i hi => (b i hi).frame (by rw [uF_n _ _ (by omega), uF_n _ _ (by omega)]) rfl rfl, ⟨by rw [uF_n _ _ (by decide), uF_n _ _ (by decide)]; exact c1, by rw [uF_n _ _ (by decide), uF_n _ _ (by decide)]; exact c2, c3⟩, d1.frame (by rw [uF_n _ _ (by decide), uF_n _ _ (by decide)]) rfl rfl, by rw [uF_n _ _ (by decide), uF_s, hg, hu]; rfl, by rw [uF_s, hk]; rfl⟩
      · have hM0 := hM.thrown 0
        obtain ⟨d1, d2, d3⟩ := hM0.2.2.2
        refine ⟨uF (uF (uF F 62 0 0) 62 23 (nI (bm (nx g u l)))) 62 24 (nI k + 1), A, ?_, ?_, ((KC.fld F A 0 0).tr (KC.fld _ _ _ _)).tr (KC.fld _ _ _ _)⟩
        · refine rn_in m_Mo_go rfl ⟨rfl, rfl⟩ ?_
          show ev _ t_Mo_go 0 [.ref 62, .int (nI l), .float 0] [] _ _
          repeat (refine ev_np [] rfl rfl rfl ?_)
          refine ev_pf rfl (by rfl) ⟨by rfl, by rfl⟩ ?_
          repeat (refine ev_np [] rfl rfl rfl ?_)
          refine ev_ca rfl (c_Mo_in 78 _ _ _) ?_
          rw [show (2 : Int32) = nI 2 from rfl, in_F (N := 2) (by omega) (by omega)]
          repeat (refine ev_np [] rfl rfl rfl ?_)
          refine ev_vc rfl (by rfl) (by rfl) rfl (c_Mo_onward 76 d2 d1 wg hl) ?_
          rw [← hg, ← hu]
          repeat (refine ev_np [] rfl rfl rfl ?_)
          refine ev_it (nI_ne0 (by omega) (by omega)) ?_
          repeat (refine ev_np [] rfl rfl rfl ?_)
          refine ev_gi rfl (by rfl) (by rfl) ?_
          rw [d3, ← hk]
          repeat (refine ev_np [] rfl rfl rfl ?_)
          refine ev_it (fun z => e2 ((nI_eq (a := k) (b := 200) (by omega) (by omega)).mp z)) ?_
          repeat (refine ev_np [] rfl rfl rfl ?_)
          refine ev_pf rfl (by rfl) ⟨by rfl, by rfl⟩ ?_
          repeat (refine ev_np [] rfl rfl rfl ?_)
          refine ev_gi rfl (by rfl) (by rfl) ?_
          rw [uF_n _ _ (by decide), d3, ← hk]
          repeat (refine ev_np [] rfl rfl rfl ?_)
          refine ev_pf rfl (by rfl) ⟨by rfl, by rfl⟩ ?_
          repeat (refine ev_np [] rfl rfl rfl ?_)
          refine ev_ca rfl (c_Mo_ones 78 (nx g u l)) ?_
          exact ev_ri rfl rfl
        · obtain ⟨⟨a1, a2⟩, b, ⟨c1, c2, c3⟩, -⟩ := hM0
          exact ⟨⟨by rw [uF_n _ _ (by decide), uF_n _ _ (by decide)]; exact a1, a2⟩, b, ⟨by rw [uF_n _ _ (by decide), uF_n _ _ (by decide)]; exact c1, by rw [uF_n _ _ (by decide), uF_n _ _ (by decide)]; exact c2, c3⟩, d1, by rw [uF_n _ _ (by decide), uF_s, hg, hu]; rfl, by rw [uF_s, hk]; exact (nI_succ _).symm⟩
theorem ix4 (x : Int32) {n : Nat} (hn : n < 1000) : (x < 0 ∨ nI n ≤ x) ∨ ∃ k, k < n ∧ x = nI k := by
  rcases pk_ix x (n := n) (by omega) with h | h | h
  · exact Or.inl (Or.inl h)
  · exact Or.inl (Or.inr h)
  · exact Or.inr h
theorem out_le {x : Int32} {n : Nat} (hn : n < 1000) (h : x < 0 ∨ nI (n + 1) ≤ x) (c : ¬ x < 0) : ¬ x ≤ nI n := by
  rcases h with h | h
  · exact absurd h c
  · intro z
    rw [Int32.le_iff_toInt_le, nI_toInt (by omega)] at h z
    omega
theorem out_ne {x : Int32} {n k : Nat} (hn : n < 1000) (hk : k < n) (h : x < 0 ∨ nI n ≤ x) : ¬ x = nI k := by
  rintro rfl
  rcases h with h | h
  · exact nI_pos (by omega) h
  · exact nI_ge hk (by omega) h
/-- both tests of an argument fail -/
theorem or0 (f : Nat → Bool) : nI (bm f) ||| 0 = nI (bm f) := by
  rw [show (0 : Int32) = nI (bm (fun _ => false)) from rfl, or_bm]
  simp
theorem op_walk (W : Wf S) (x : Int32) : OP n_MM_walk n_Mo_walk [.int x] S := by
  obtain ⟨wg, wu, wk⟩ := W.2.2.2
  obtain ⟨may, hmay⟩ : ∃ may : Nat → Bool, may = fun l => decide (bm (nx S.2.2.2.1.2 S.2.2.2.2.1 l) ≠ 0) := ⟨_, rfl⟩
  obtain ⟨must, hmust⟩ : ∃ must : Nat → Bool, must = fun l => sure S.2.2.2.1.2 S.2.2.2.2.1 l := ⟨_, rfl⟩
  have model : ∀ Y F A, RM F A S → ∀ r, (∀ v4 : Value, ev 79 t_Mo_walk 64 [.ref 62, .int x, .int (nI (bm fun l => decide (l < 3) && may l)), .int (nI (bm fun l => decide (l < 3) && must l)), v4] [] (hp Y (uF F 62 0 0) A) (some (.int r), hp Y (uF F 62 0 0) A)) → xa_rn xa_ms 80 n_Mo_walk [.ref 62, .int x] (hp Y F A) (some (.int r)) (hp Y (uF F 62 0 0) A) := by
    intro Y F A hM r hr
    have hM0 := hM.thrown 0
    obtain ⟨d1, d2, d3⟩ := hM0.2.2.2
    refine rn_in m_Mo_walk rfl ⟨rfl, rfl⟩ ?_
    show ev _ t_Mo_walk 0 [.ref 62, .int x, .float 0, .float 0, .float 0] [] _ _
    repeat (refine ev_np [] rfl rfl rfl ?_)
    refine ev_pf rfl (by rfl) ⟨by rfl, by rfl⟩ ?_
    repeat (refine ev_np [12] rfl rfl rfl ?_)
    refine lp_to (E := fun k q => ev 79 t_Mo_walk 12 [.ref 62, .int x, .int (nI (bm fun l => decide (l < k) && may l)), .int (nI (bm fun l => decide (l < k) && must l)), .int (nI k)] [] (hp Y (uF F 62 0 0) A) q) 3 (fun k hk q hq => ?_) _ ?_
    · rw [nI_succ] at hq
      repeat (refine ev_np [] rfl rfl rfl ?_)
      refine ev_ie (nI_ge (b := 3) hk (by omega)) ?_
      repeat (refine ev_np [] rfl rfl rfl ?_)
      refine ev_vc rfl (by rfl) (by rfl) rfl (c_Mo_onward 76 d2 d1 wg hk) ?_
      have hlt := bm_lt (nx S.2.2.2.1.2 S.2.2.2.2.1 k)
      have step2 : ∀ a : Int32, a = nI (bm fun l => decide (l < k + 1) && may l) → ev 79 t_Mo_walk 38 [.ref 62, .int x, .int a, .int (nI (bm fun l => decide (l < k) && must l)), .int (nI k)] [] (hp Y (uF F 62 0 0) A) q := by
        intro a ha
        repeat (refine ev_np [] rfl rfl rfl ?_)
        refine ev_vc rfl (by rfl) (by rfl) rfl (c_Mo_isSure 76 d2 wu d1 wg hk) ?_
        rw [← show must k = sure S.2.2.2.1.2 S.2.2.2.2.1 k by rw [hmust]]
        rw [ha]
        cases e : must k with
        | false =>
          repeat (refine ev_np [12] rfl rfl rfl ?_)
          rw [or0]
          rw [bm_congr (f := fun l => decide (l < k + 1) && must l) (g := fun l => decide (l < k) && must l) (fun l _ => by
            by_cases h1 : l = k
            · subst h1; simp [e]
            · rw [dlt h1])] at hq
          exact hq
        | true =>
          repeat (refine ev_np [12] rfl rfl rfl ?_)
          rw [orb_bm _ (by omega)]
          rw [bm_congr (f := fun l => decide (l < k + 1) && must l) (g := fun l => (decide (l < k) && must l) || l == k) (fun l _ => by
            by_cases h1 : l = k
            · subst h1; simp [e]
            · rw [dlt h1]
              simp [h1])] at hq
          exact hq
      by_cases e : bm (nx S.2.2.2.1.2 S.2.2.2.2.1 k) = 0
      · rw [e]
        repeat (refine ev_np [38] rfl rfl rfl ?_)
        refine step2 _ ?_
        rw [or0]
        refine congrArg nI (bm_congr fun l _ => ?_)
        by_cases h1 : l = k
        · subst h1; simp [hmay, e]
        · rw [dlt h1]
      · repeat (refine ev_np [] rfl rfl rfl ?_)
        refine ev_ie (nI_ne0 (by omega) (by omega)) ?_
        repeat (refine ev_np [38] rfl rfl rfl ?_)
        refine step2 _ ?_
        rw [orb_bm _ (by omega)]
        refine congrArg nI (bm_congr fun l _ => ?_)
        by_cases h1 : l = k
        · subst h1; simp [hmay, e]
        · rw [dlt h1]
          simp [h1]
    · repeat (refine ev_np [64] rfl rfl rfl ?_)
      exact hr _
  rcases ix4 x (n := 4) (by decide) with hx | ⟨k, hk, rfl⟩
  · refine op_ro W (-1) (fun Y F A hC => ?_) (fun Y F A hM => model Y F A hM _ (fun v4 => ?_))
    · refine rn_in m_MM_walk rfl ⟨rfl, rfl⟩ ?_
      show ev _ t_MM_walk 0 [.ref 9, .int x] [] _ _
      repeat (refine ev_np [] rfl rfl rfl ?_)
      refine ev_if (fun c => ?_) (fun c => ?_)
      · repeat (refine ev_np [] rfl rfl rfl ?_)
        exact ev_ri rfl rfl
      · repeat (refine ev_np [] rfl rfl rfl ?_)
        refine ev_ie (out_le (n := 3) (by decide) hx c) ?_
        repeat (refine ev_np [] rfl rfl rfl ?_)
        exact ev_ri rfl rfl
    · repeat (refine ev_np [] rfl rfl rfl ?_)
      refine ev_it (out_ne (n := 4) (k := 0) (by decide) (by decide) hx) ?_
      repeat (refine ev_np [] rfl rfl rfl ?_)
      refine ev_it (out_ne (n := 4) (k := 1) (by decide) (by decide) hx) ?_
      repeat (refine ev_np [] rfl rfl rfl ?_)
      refine ev_it (out_ne (n := 4) (k := 2) (by decide) (by decide) hx) ?_
      repeat (refine ev_np [] rfl rfl rfl ?_)
      refine ev_it (out_ne (n := 4) (k := 3) (by decide) (by decide) hx) ?_
      repeat (refine ev_np [] rfl rfl rfl ?_)
      exact ev_ri rfl rfl
  · have h4 : k = 0 ∨ k = 1 ∨ k = 2 ∨ k = 3 := by omega
    rcases h4 with rfl | rfl | rfl | rfl
    · refine op_ro W (nI (bm S.2.2.2.2.1)) (fun Y F A hC => ?_) (fun Y F A hM => model Y F A hM _ (fun v4 => ?_))
      · refine rn_in m_MM_walk rfl ⟨rfl, rfl⟩ ?_
        show ev _ t_MM_walk 0 [.ref 9, .int (nI 0)] [] _ _
        repeat (first | refine ev_np [] rfl rfl rfl ?_ | refine ev_grs [] rfl rfl (by rfl) (by rfl) ?_)
        refine ev_vc rfl (by rfl) (by rfl) rfl (?_ : xa_rn xa_ms 79 n_Walker_where [.ref 58] (hp Y F A) (some (.int (F 58 1))) (hp Y F A)) ?_
        · refine rn_in m_Walker_where rfl ⟨rfl, rfl⟩ ?_
          show ev _ t_Walker_where 0 [.ref 58] [] _ _
          repeat (refine ev_np [] rfl rfl rfl ?_)
          refine ev_gi rfl (by rfl) (by rfl) ?_
          exact ev_ri rfl rfl
        · exact ev_ri rfl hC.2.2.2.2.1
      · repeat (refine ev_np [] rfl rfl rfl ?_)
        refine ev_gi rfl (by rfl) (by rfl) ?_
        repeat (refine ev_np [] rfl rfl rfl ?_)
        exact ev_ri rfl (hM.thrown 0).2.2.2.2.1
    · refine op_ro W (nI (bm fun l => decide (l < 3) && may l)) (fun Y F A hC => ?_) (fun Y F A hM => model Y F A hM _ (fun v4 => ?_))
      · refine rn_in m_MM_walk rfl ⟨rfl, rfl⟩ ?_
        show ev _ t_MM_walk 0 [.ref 9, .int (nI 1)] [] _ _
        repeat (first | refine ev_np [] rfl rfl rfl ?_ | refine ev_grs [] rfl rfl (by rfl) (by rfl) ?_)
        refine ev_vc rfl (by rfl) (by rfl) rfl (c_Walker_mayCome 75 hC.2.2.2.2.1 hC.2.2.2.1) ?_
        exact ev_ri rfl (by rw [hmay])
      · repeat (refine ev_np [] rfl rfl rfl ?_)
        exact ev_ri rfl rfl
    · refine op_ro W (nI (bm fun l => decide (l < 3) && must l)) (fun Y F A hC => ?_) (fun Y F A hM => model Y F A hM _ (fun v4 => ?_))
      · refine rn_in m_MM_walk rfl ⟨rfl, rfl⟩ ?_
        show ev _ t_MM_walk 0 [.ref 9, .int (nI 2)] [] _ _
        repeat (first | refine ev_np [] rfl rfl rfl ?_ | refine ev_grs [] rfl rfl (by rfl) (by rfl) ?_)
        refine ev_vc rfl (by rfl) (by rfl) rfl (c_Walker_mustBeThere 75 hC.2.2.2.2.1 hC.2.2.2.1) ?_
        repeat (refine ev_np [] rfl rfl rfl ?_)
        exact ev_ri rfl (by rw [hmust])
      · repeat (refine ev_np [] rfl rfl rfl ?_)
        exact ev_ri rfl rfl
    · refine op_ro W (nI S.2.2.2.2.2) (fun Y F A hC => ?_) (fun Y F A hM => model Y F A hM _ (fun v4 => ?_))
      · refine rn_in m_MM_walk rfl ⟨rfl, rfl⟩ ?_
        show ev _ t_MM_walk 0 [.ref 9, .int (nI 3)] [] _ _
        repeat (first | refine ev_np [] rfl rfl rfl ?_ | refine ev_grs [] rfl rfl (by rfl) (by rfl) ?_)
        refine ev_vc rfl (by rfl) (by rfl) rfl (?_ : xa_rn xa_ms 79 n_Walker_gone [.ref 58] (hp Y F A) (some (.int (F 58 2))) (hp Y F A)) ?_
        · refine rn_in m_Walker_gone rfl ⟨rfl, rfl⟩ ?_
          show ev _ t_Walker_gone 0 [.ref 58] [] _ _
          repeat (refine ev_np [] rfl rfl rfl ?_)
          refine ev_gi rfl (by rfl) (by rfl) ?_
          exact ev_ri rfl rfl
        · exact ev_ri rfl hC.2.2.2.2.2
      · repeat (refine ev_np [] rfl rfl rfl ?_)
        refine ev_gi rfl (by rfl) (by rfl) ?_
        repeat (refine ev_np [] rfl rfl rfl ?_)
        exact ev_ri rfl (hM.thrown 0).2.2.2.2.2
/-- a sum -/
def sumN (f : Nat → Nat) : Nat → Nat
  | 0 => 0
  | k + 1 => sumN f k + f k
theorem op_count (W : Wf S) (x : Int32) : OP n_MM_count n_Mo_count [.int x] S := by
  have model : ∀ Y F A, RM F A S → ∀ r, (∀ v4 : Value, ev 79 t_Mo_count 30 [.ref 62, .int x, .int (nI (sumN (fun i => (S.2.1 i).1) 6)), v4] [] (hp Y (uF F 62 0 0) A) (some (.int r), hp Y (uF F 62 0 0) A)) → xa_rn xa_ms 80 n_Mo_count [.ref 62, .int x] (hp Y F A) (some (.int r)) (hp Y (uF F 62 0 0) A) := by
    intro Y F A hM r hr
    refine rn_in m_Mo_count rfl ⟨rfl, rfl⟩ ?_
    show ev _ t_Mo_count 0 [.ref 62, .int x, .float 0, .float 0] [] _ _
    repeat (refine ev_np [] rfl rfl rfl ?_)
    refine ev_pf rfl (by rfl) ⟨by rfl, by rfl⟩ ?_
    repeat (refine ev_np [9] rfl rfl rfl ?_)
    refine lp_to (E := fun k q => ev 79 t_Mo_count 9 [.ref 62, .int x, .int (nI (sumN (fun i => (S.2.1 i).1) k)), .int (nI k)] [] (hp Y (uF F 62 0 0) A) q) 6 (fun k hk q hq => ?_) _ ?_
    · repeat (refine ev_np [] rfl rfl rfl ?_)
      refine ev_ie (nI_ge (b := 6) hk (by omega)) ?_
      repeat (first | refine ev_np [] rfl rfl rfl ?_ | refine ev_grs [] rfl rfl (by rfl) (by rfl) ?_)
      refine ev_an rfl (by rfl) rfl (by omega) rfl ?_
      rw [(hM.2.1 k hk).1]
      repeat (refine ev_np [9] rfl rfl rfl ?_)
      rw [nI_add]
      rw [nI_succ] at hq
      exact hq
    · repeat (refine ev_np [30] rfl rfl rfl ?_)
      exact hr _
  rcases ix4 x (n := 3) (by decide) with hx | ⟨k, hk, rfl⟩
  · refine op_ro W (-1) (fun Y F A hC => ?_) (fun Y F A hM => model Y F A hM _ (fun v4 => ?_))
    · refine rn_in m_MM_count rfl ⟨rfl, rfl⟩ ?_
      show ev _ t_MM_count 0 [.ref 9, .int x] [] _ _
      repeat (refine ev_np [] rfl rfl rfl ?_)
      refine ev_if (fun c => ?_) (fun c => ?_)
      · repeat (refine ev_np [] rfl rfl rfl ?_)
        exact ev_ri rfl rfl
      · repeat (refine ev_np [] rfl rfl rfl ?_)
        refine ev_ie (out_le (n := 2) (by decide) hx c) ?_
        repeat (refine ev_np [] rfl rfl rfl ?_)
        exact ev_ri rfl rfl
    · repeat (refine ev_np [] rfl rfl rfl ?_)
      refine ev_it (out_ne (n := 3) (k := 0) (by decide) (by decide) hx) ?_
      repeat (refine ev_np [] rfl rfl rfl ?_)
      refine ev_it (out_ne (n := 3) (k := 1) (by decide) (by decide) hx) ?_
      repeat (refine ev_np [] rfl rfl rfl ?_)
      refine ev_it (out_ne (n := 3) (k := 2) (by decide) (by decide) hx) ?_
      repeat (refine ev_np [] rfl rfl rfl ?_)
      exact ev_ri rfl rfl
  · have h4 : k = 0 ∨ k = 1 ∨ k = 2 := by omega
    rcases h4 with rfl | rfl | rfl
    · refine op_ro W (nI (sumN (fun i => (S.2.1 i).1) 6)) (fun Y F A hC => ?_) (fun Y F A hM => model Y F A hM _ (fun v4 => ?_))
      · refine rn_in m_MM_count rfl ⟨rfl, rfl⟩ ?_
        show ev _ t_MM_count 0 [.ref 9, .int (nI 0)] [] _ _
        repeat (first | refine ev_np [] rfl rfl rfl ?_ | refine ev_grs [] rfl rfl (by rfl) (by rfl) ?_)
        refine ev_vc rfl (by rfl) (by rfl) rfl (?_ : xa_rn xa_ms 79 n_MM_statesOfAll [.ref 9] (hp Y F A) (some (.int (nI (sumN (fun i => (S.2.1 i).1) 6)))) (hp Y F A)) ?_
        · refine rn_in m_MM_statesOfAll rfl ⟨rfl, rfl⟩ ?_
          show ev _ t_MM_statesOfAll 0 [.ref 9, .float 0, .float 0] [] _ _
          repeat (refine ev_np [4] rfl rfl rfl ?_)
          refine lp_to (E := fun k q => ev 78 t_MM_statesOfAll 4 [.ref 9, .int (nI (sumN (fun i => (S.2.1 i).1) k)), .int (nI k)] [] (hp Y F A) q) 6 (fun k hk q hq => ?_) _ ?_
          · repeat (refine ev_np [] rfl rfl rfl ?_)
            refine ev_ie (nI_ge (b := 6) hk (by omega)) ?_
            repeat (first | refine ev_np [] rfl rfl rfl ?_ | refine ev_grs [] rfl rfl (by rfl) (by rfl) ?_)
            refine ev_aa rfl hk ?_
            refine ev_vc rfl (by rfl) (PLi hk).1 rfl (c_Plan_size 77 (PLi hk)) ?_
            rw [(hC.2.1 k hk).1]
            repeat (refine ev_np [4] rfl rfl rfl ?_)
            rw [nI_add]
            rw [nI_succ] at hq
            exact hq
          · repeat (refine ev_np [] rfl rfl rfl ?_)
            exact ev_ri rfl rfl
        · exact ev_ri rfl rfl
      · repeat (refine ev_np [] rfl rfl rfl ?_)
        exact ev_ri rfl rfl
    · refine op_ro W (nI S.1.1) (fun Y F A hC => ?_) (fun Y F A hM => model Y F A hM _ (fun v4 => ?_))
      · refine rn_in m_MM_count rfl ⟨rfl, rfl⟩ ?_
        show ev _ t_MM_count 0 [.ref 9, .int (nI 1)] [] _ _
        repeat (first | refine ev_np [] rfl rfl rfl ?_ | refine ev_grs [] rfl rfl (by rfl) (by rfl) ?_)
        refine ev_vc rfl (by rfl) (by rfl) rfl (c_Text_size 78) ?_
        repeat (refine ev_np [] rfl rfl rfl ?_)
        exact ev_ri rfl hC.1.1
      · repeat (refine ev_np [] rfl rfl rfl ?_)
        refine ev_gi rfl (by rfl) (by rfl) ?_
        repeat (refine ev_np [] rfl rfl rfl ?_)
        exact ev_ri rfl (hM.thrown 0).1.1
    · refine op_ro W (nI S.2.2.1.2.1) (fun Y F A hC => ?_) (fun Y F A hM => model Y F A hM _ (fun v4 => ?_))
      · refine rn_in m_MM_count rfl ⟨rfl, rfl⟩ ?_
        show ev _ t_MM_count 0 [.ref 9, .int (nI 2)] [] _ _
        repeat (first | refine ev_np [] rfl rfl rfl ?_ | refine ev_grs [] rfl rfl (by rfl) (by rfl) ?_)
        refine ev_vc rfl (by rfl) (by rfl) rfl (?_ : xa_rn xa_ms 79 n_Saying_bits [.ref 39] (hp Y F A) (some (.int (F 39 2))) (hp Y F A)) ?_
        · refine rn_in m_Saying_bits rfl ⟨rfl, rfl⟩ ?_
          show ev _ t_Saying_bits 0 [.ref 39] [] _ _
          repeat (refine ev_np [] rfl rfl rfl ?_)
          refine ev_gi rfl (by rfl) (by rfl) ?_
          exact ev_ri rfl rfl
        · exact ev_ri rfl hC.2.2.1.2.1
      · repeat (refine ev_np [] rfl rfl rfl ?_)
        refine ev_gi rfl (by rfl) (by rfl) ?_
        repeat (refine ev_np [] rfl rfl rfl ?_)
        exact ev_ri rfl (hM.thrown 0).2.2.1.2.1
theorem cnt_blk (f : Nat → Nat → Bool) : ∀ j, cnt (fun k => f (k / 6) (k % 6)) (6 * j) = sumN (fun b => cnt (f b) 6) j := by
  intro j
  induction j with
  | zero => rfl
  | succ j ih =>
    rw [show 6 * (j + 1) = 6 * j + 1 + 1 + 1 + 1 + 1 + 1 by omega]
    rw [show sumN (fun b => cnt (f b) 6) (j + 1) = sumN (fun b => cnt (f b) 6) j + cnt (f j) 6 from rfl, ← ih]
    simp only [cnt]
    have e : ∀ c, c < 6 → (6 * j + c) / 6 = j ∧ (6 * j + c) % 6 = c := fun c hc => by omega
    rw [show 6 * j + 1 + 1 + 1 + 1 + 1 = 6 * j + 5 by omega, show 6 * j + 1 + 1 + 1 + 1 = 6 * j + 4 by omega, show 6 * j + 1 + 1 + 1 = 6 * j + 3 by omega, show 6 * j + 1 + 1 = 6 * j + 2 by omega]
    rw [(e 5 (by omega)).1, (e 5 (by omega)).2, (e 4 (by omega)).1, (e 4 (by omega)).2, (e 3 (by omega)).1, (e 3 (by omega)).2, (e 2 (by omega)).1, (e 2 (by omega)).2, (e 1 (by omega)).1, (e 1 (by omega)).2, show 6 * j / 6 = j by omega, show 6 * j % 6 = 0 by omega]
    omega
/-- all arrows in a row -/
def gk (g : Nat → Nat → Nat → Nat) (k : Nat) : Nat := g (k / 6 / 3) (k / 6 % 3) (k % 6)
theorem c_Plan_bitsOf {Y : Nat × (Nat → Int32)} {F A : Nat → Nat → Int32} (d : Nat) {o : Nat} {g : Nat → Nat → Nat → Nat} {v : Nat} (ho : lo_at o = some (.inl 18)) (h : ∀ s l, s < 6 → l < 3 → A o (3 * s + l) = nI (bm (fun t => decide (v ≤ g s l t)))) : xa_rn xa_ms (d + 2) n_Plan_bitsOf [.ref o] (hp Y F A) (some (.int (nI (cnt (fun k => decide (v ≤ gk g k)) 108)))) (hp Y F A) := by
  have e : cnt (fun k => decide (v ≤ gk g k)) 108 = sumN (fun b => cnt (fun t => decide (v ≤ g (b / 3) (b % 3) t)) 6) 18 := cnt_blk (fun b t => decide (v ≤ g (b / 3) (b % 3) t)) 18
  rw [e]
  refine rn_in m_Plan_bitsOf rfl ⟨rfl, rfl⟩ ?_
  show ev _ t_Plan_bitsOf 0 [.ref o, .float 0, .float 0, .float 0, .float 0, .float 0] [] _ _
  repeat (refine ev_np [] rfl rfl rfl ?_)
  refine ev_ln rfl ho ?_
  repeat (refine ev_np [10] rfl rfl rfl ?_)
  have key := lp_to (E := fun k q => ∀ v5 : Value, ev (d + 1) t_Plan_bitsOf 10 [.ref o, .int (nI (sumN (fun b => cnt (fun t => decide (v ≤ g (b / 3) (b % 3) t)) 6) k)), .ref o, .int (nI 18), .int (nI k), v5] [] (hp Y F A) q) 18 (fun k hk q hq => by
    intro v5
    repeat (refine ev_np [] rfl rfl rfl ?_)
    refine ev_ie (nI_ge (b := 18) hk (by omega)) ?_
    repeat (refine ev_np [] rfl rfl rfl ?_)
    refine ev_an rfl ho rfl hk rfl ?_
    rw [show A o k = nI (bm (fun t => decide (v ≤ g (k / 3) (k % 3) t))) by rw [← h (k / 3) (k % 3) (by omega) (by omega)]; congr 1; omega]
    repeat (refine ev_np [] rfl rfl rfl ?_)
    refine ev_ca rfl (c_Int_bitCount d _) ?_
    repeat (refine ev_np [10] rfl rfl rfl ?_)
    rw [nI_add]
    rw [nI_succ k] at hq
    exact hq _) (some (.int (nI (sumN (fun b => cnt (fun t => decide (v ≤ g (b / 3) (b % 3) t)) 6) 18))), hp Y F A) (by
    intro v5
    repeat (refine ev_np [] rfl rfl rfl ?_)
    exact ev_ri rfl rfl)
  exact key _
theorem cnt_split (f : Nat → Nat) : ∀ n, cnt (fun k => decide (1 ≤ f k)) n = cnt (fun k => decide (2 ≤ f k)) n + cnt (fun k => decide (f k = 1)) n := by
  intro n
  induction n with
  | zero => rfl
  | succ n ih =>
    simp only [cnt]
    rw [ih]
    by_cases h1 : 1 ≤ f n
    · by_cases h2 : 2 ≤ f n
      · simp [h1, h2, show ¬ f n = 1 by omega]; omega
      · simp [h1, h2, show f n = 1 by omega]; omega
    · simp [h1, show ¬ 2 ≤ f n by omega, show ¬ f n = 1 by omega]
theorem c_Mo_many {Y : Nat × (Nat → Int32)} {F A : Nat → Nat → Int32} (d : Nat) {i n v : Nat} {g : Nat → Nat → Nat → Nat} (hi : i < 8) (hm : MP A i n g) (hg : ∀ s l t, g s l t ≤ 2) (hv : v ≤ 2) : xa_rn xa_ms (d + 1) n_Mo_many [.ref 62, .int (nI i), .int (nI v)] (hp Y F A) (some (.int (nI (cnt (fun k => decide (gk g k = v)) 108)))) (hp Y F A) := by
  have hix : ∀ (a k : Nat), 108 * nI a + nI k = nI (108 * a + k) := fun a k => by rw [show (108 : Int32) = nI 108 from rfl, pk_mul, nI_add]
  refine rn_in m_Mo_many rfl ⟨rfl, rfl⟩ ?_
  show ev _ t_Mo_many 0 [.ref 62, .int (nI i), .int (nI v), .float 0, .float 0] [] _ _
  repeat (refine ev_np [5] rfl rfl rfl ?_)
  refine lp_to (E := fun k q => ev d t_Mo_many 5 [.ref 62, .int (nI i), .int (nI v), .int (nI (cnt (fun k => decide (gk g k = v)) k)), .int (nI k)] [] (hp Y F A) q) 108 (fun k hk q hq => ?_) _ ?_
  · rw [nI_succ] at hq
    repeat (refine ev_np [] rfl rfl rfl ?_)
    refine ev_ie (nI_ge (b := 108) hk (by omega)) ?_
    repeat (first | refine ev_np [] rfl rfl rfl ?_ | refine ev_grs [] rfl rfl (by rfl) (by rfl) ?_)
    refine ev_an rfl (by rfl) (hix i k) (by omega) rfl ?_
    have e : A 63 (108 * i + k) = nI (gk g k) := by
      unfold gk
      rw [← hm.2 (k / 6 / 3) (k / 6 % 3) (k % 6) (by omega) (by omega) (by omega)]
      congr 1
      omega
    have hle : gk g k ≤ 2 := hg _ _ _
    rw [e]
    repeat (refine ev_np [] rfl rfl rfl ?_)
    simp only [cnt] at hq
    by_cases h1 : gk g k = v
    · rw [decide_eq_true h1] at hq
      refine ev_ie (fun z => z (by rw [h1])) ?_
      repeat (refine ev_np [5] rfl rfl rfl ?_)
      rw [nI_1]
      exact hq
    · rw [decide_eq_false h1] at hq
      refine ev_it (fun z => h1 ((nI_eq (by omega) (by omega)).mp z)) ?_
      repeat (refine ev_np [5] rfl rfl rfl ?_)
      rw [show ∀ a : Int32, a + 0 = a from Int32.add_zero]
      exact hq
  · repeat (refine ev_np [] rfl rfl rfl ?_)
    exact ev_ri rfl rfl
theorem op_states (W : Wf S) (x y : Int32) : OP n_MM_states n_Mo_states [.int x, .int y] S := by
  rcases ix4 x (n := 6) (by decide) with hx | ⟨i, hi, rfl⟩
  · refine op_ro W (-1) (fun Y F A hC => ?_) (fun Y F A hM => ?_)
    · refine rn_in m_MM_states rfl ⟨rfl, rfl⟩ ?_
      show ev _ t_MM_states 0 [.ref 9, .int x, .int y] [] _ _
      repeat (refine ev_np [] rfl rfl rfl ?_)
      refine ev_ca rfl (c_MM_noPlanT 78 hx) ?_
      repeat (refine ev_np [] rfl rfl rfl ?_)
      exact ev_ri rfl rfl
    · refine rn_in m_Mo_states rfl ⟨rfl, rfl⟩ ?_
      show ev _ t_Mo_states 0 [.ref 62, .int x, .int y] [] _ _
      repeat (refine ev_np [] rfl rfl rfl ?_)
      refine ev_pf rfl (by rfl) ⟨by rfl, by rfl⟩ ?_
      repeat (refine ev_np [] rfl rfl rfl ?_)
      refine ev_ca rfl (c_Mo_isPlanF 77 hx) ?_
      repeat (refine ev_np [] rfl rfl rfl ?_)
      exact ev_ri rfl rfl
  · obtain ⟨wn, wg⟩ := W.2.1 i hi
    rcases let3 y with hy | ⟨k, hk, rfl⟩
    · refine op_ro W (-1) (fun Y F A hC => ?_) (fun Y F A hM => ?_)
      · refine rn_in m_MM_states rfl ⟨rfl, rfl⟩ ?_
        show ev _ t_MM_states 0 [.ref 9, .int (nI i), .int y] [] _ _
        repeat (refine ev_np [] rfl rfl rfl ?_)
        refine ev_ca rfl (c_MM_noPlanF 78 hi) ?_
        repeat (refine ev_np [] rfl rfl rfl ?_)
        refine ev_if (fun c => ?_) (fun c => ?_)
        · repeat (refine ev_np [] rfl rfl rfl ?_)
          exact ev_ri rfl rfl
        · repeat (refine ev_np [] rfl rfl rfl ?_)
          refine ev_ie (out_le (n := 2) (by decide) hy c) ?_
          repeat (refine ev_np [] rfl rfl rfl ?_)
          exact ev_ri rfl rfl
      · refine rn_in m_Mo_states rfl ⟨rfl, rfl⟩ ?_
        show ev _ t_Mo_states 0 [.ref 62, .int (nI i), .int y] [] _ _
        repeat (refine ev_np [] rfl rfl rfl ?_)
        refine ev_pf rfl (by rfl) ⟨by rfl, by rfl⟩ ?_
        repeat (refine ev_np [] rfl rfl rfl ?_)
        refine ev_ca rfl (c_Mo_isPlanT 77 hi) ?_
        repeat (refine ev_np [] rfl rfl rfl ?_)
        refine ev_ca rfl (c_Mo_in 78 _ _ _) ?_
        rw [show (2 : Int32) = nI 2 from rfl, in_T (N := 2) (by omega) hy]
        repeat (refine ev_np [] rfl rfl rfl ?_)
        exact ev_ri rfl rfl
    · have model : ∀ Y F A, RM F A S → ∀ r, ev 79 t_Mo_states 25 [.ref 62, .int (nI i), .int (nI k)] [] (hp Y (uF F 62 0 0) A) (some (.int r), hp Y (uF F 62 0 0) A) → xa_rn xa_ms 80 n_Mo_states [.ref 62, .int (nI i), .int (nI k)] (hp Y F A) (some (.int r)) (hp Y (uF F 62 0 0) A) := by
        intro Y F A hM r hr
        refine rn_in m_Mo_states rfl ⟨rfl, rfl⟩ ?_
        show ev _ t_Mo_states 0 [.ref 62, .int (nI i), .int (nI k)] [] _ _
        repeat (refine ev_np [] rfl rfl rfl ?_)
        refine ev_pf rfl (by rfl) ⟨by rfl, by rfl⟩ ?_
        repeat (refine ev_np [] rfl rfl rfl ?_)
        refine ev_ca rfl (c_Mo_isPlanT 77 hi) ?_
        repeat (refine ev_np [] rfl rfl rfl ?_)
        refine ev_ca rfl (c_Mo_in 78 _ _ _) ?_
        rw [show (2 : Int32) = nI 2 from rfl, in_F (N := 2) (by omega) (by omega)]
        repeat (refine ev_np [25] rfl rfl rfl ?_)
        exact hr
      have clas : ∀ Y F A, RC F A S → ∀ r, ev 79 t_MM_states 18 [.ref 9, .int (nI i), .int (nI k)] [] (hp Y F A) (some (.int r), hp Y F A) → xa_rn xa_ms 80 n_MM_states [.ref 9, .int (nI i), .int (nI k)] (hp Y F A) (some (.int r)) (hp Y F A) := by
        intro Y F A hM r hr
        refine rn_in m_MM_states rfl ⟨rfl, rfl⟩ ?_
        show ev _ t_MM_states 0 [.ref 9, .int (nI i), .int (nI k)] [] _ _
        repeat (refine ev_np [] rfl rfl rfl ?_)
        refine ev_ca rfl (c_MM_noPlanF 78 hi) ?_
        repeat (refine ev_np [] rfl rfl rfl ?_)
        refine ev_ie (nI_pos (by omega)) ?_
        repeat (refine ev_np [] rfl rfl rfl ?_)
        refine ev_it (nI_le (b := 2) (by omega) (by omega)) ?_
        exact hr
      have h4 : k = 0 ∨ k = 1 ∨ k = 2 := by omega
      rcases h4 with rfl | rfl | rfl
      · refine op_ro W (nI (S.2.1 i).1) (fun Y F A hC => clas Y F A hC _ ?_) (fun Y F A hM => model Y F A hM _ ?_)
        · repeat (first | refine ev_np [] rfl rfl rfl ?_ | refine ev_grs [] rfl rfl (by rfl) (by rfl) ?_)
          refine ev_aa rfl hi ?_
          refine ev_vc rfl (by rfl) (PLi hi).1 rfl (c_Plan_size 78 (PLi hi)) ?_
          exact ev_ri rfl (hC.2.1 i hi).1
        · repeat (first | refine ev_np [] rfl rfl rfl ?_ | refine ev_grs [] rfl rfl (by rfl) (by rfl) ?_)
          refine ev_an rfl (by rfl) rfl (by omega) rfl ?_
          repeat (refine ev_np [] rfl rfl rfl ?_)
          exact ev_ri rfl (hM.2.1 i hi).1
      · refine op_ro W (nI (cnt (fun k => decide (2 ≤ gk (S.2.1 i).2 k)) 108)) (fun Y F A hC => clas Y F A hC _ ?_) (fun Y F A hM => model Y F A hM _ ?_)
        · repeat (first | refine ev_np [] rfl rfl rfl ?_ | refine ev_grs [] rfl rfl (by rfl) (by rfl) ?_)
          refine ev_aa rfl hi ?_
          refine ev_vc rfl (by rfl) (PLi hi).1 rfl (?_ : xa_rn xa_ms 79 n_Plan_musts [.ref (11 + 3 * i)] (hp Y F A) (some (.int (nI (cnt (fun k => decide (2 ≤ gk (S.2.1 i).2 k)) 108)))) (hp Y F A)) ?_
          · refine rn_in m_Plan_musts rfl ⟨rfl, rfl⟩ ?_
            show ev _ t_Plan_musts 0 [.ref (11 + 3 * i)] [] _ _
            repeat (refine ev_np [] rfl rfl rfl ?_)
            refine ev_gr rfl (PLi hi).1 rfl ?_
            refine ev_ca rfl (c_Plan_bitsOf 76 (PLi hi).2.2 (fun s l hs hl => ((hC.2.1 i hi).2 s l hs hl).2)) ?_
            exact ev_ri rfl rfl
          · repeat (refine ev_np [] rfl rfl rfl ?_)
            exact ev_ri rfl rfl
        · repeat (refine ev_np [] rfl rfl rfl ?_)
          refine ev_vc rfl (by rfl) (by rfl) rfl (c_Mo_many (v := 2) 78 (by omega) (hM.2.1 i hi) (fun s l t => (wg s l t).1) (by omega)) ?_
          refine ev_ri rfl (congrArg nI (cnt_congr _ fun t _ => ?_))
          have : gk (S.2.1 i).2 t ≤ 2 := (wg _ _ _).1
          exact decide_eq_decide.mpr (by omega)
      · refine op_ro W (nI (cnt (fun k => decide (gk (S.2.1 i).2 k = 1)) 108)) (fun Y F A hC => clas Y F A hC _ ?_) (fun Y F A hM => model Y F A hM _ ?_)
        · repeat (first | refine ev_np [] rfl rfl rfl ?_ | refine ev_grs [] rfl rfl (by rfl) (by rfl) ?_)
          refine ev_aa rfl hi ?_
          refine ev_vc rfl (by rfl) (PLi hi).1 rfl (?_ : xa_rn xa_ms 79 n_Plan_choices [.ref (11 + 3 * i)] (hp Y F A) (some (.int (nI (cnt (fun k => decide (gk (S.2.1 i).2 k = 1)) 108)))) (hp Y F A)) ?_
          · refine rn_in m_Plan_choices rfl ⟨rfl, rfl⟩ ?_
            show ev _ t_Plan_choices 0 [.ref (11 + 3 * i)] [] _ _
            repeat (refine ev_np [] rfl rfl rfl ?_)
            refine ev_gr rfl (PLi hi).1 rfl ?_
            refine ev_ca rfl (c_Plan_bitsOf 76 (PLi hi).2.1 (fun s l hs hl => ((hC.2.1 i hi).2 s l hs hl).1)) ?_
            repeat (refine ev_np [] rfl rfl rfl ?_)
            refine ev_gr rfl (PLi hi).1 rfl ?_
            refine ev_ca rfl (c_Plan_bitsOf 76 (PLi hi).2.2 (fun s l hs hl => ((hC.2.1 i hi).2 s l hs hl).2)) ?_
            repeat (refine ev_np [] rfl rfl rfl ?_)
            refine ev_ri rfl ?_
            rw [cnt_split, ← nI_add]
            rw [Int32.add_comm, Int32.add_sub_cancel]
          · exact ev_ri rfl rfl
        · repeat (refine ev_np [] rfl rfl rfl ?_)
          refine ev_vc rfl (by rfl) (by rfl) rfl (c_Mo_many (v := 1) 78 (by omega) (hM.2.1 i hi) (fun s l t => (wg s l t).1) (by omega)) ?_
          exact ev_ri rfl rfl
end OPS3
end
section
/-! ===== calls: stricter, stays, alike ===== -/
section OPS4
variable {S : SP}
/-- the class's scratch is written -/
theorem RC.keep {F A F' A' : Nat → Nat → Int32} (h : RC F A S) {LA LF : List Nat} (hA : sA LA A A') (hF : sF LF F F') (hk : (LA.all fun x => Nat.blt 28 x && !(x == 33) && !(x == 40) && !(x == 60) && !(x == 61)) = true ∧ (LF.all fun x => Nat.blt 2800 x && !(x == 3201) && !(x == 3901) && !(x == 3902) && !(x == 5801) && !(x == 5802) && !(x == 5900)) = true) : RC F' A' S := by
  obtain ⟨⟨a1, a2⟩, b, ⟨c1, c2, c3⟩, d1, d2, d3⟩ := h
  have kA : ∀ o, o = 33 ∨ o = 40 ∨ o = 60 ∨ o = 61 ∨ o < 29 → A' o = A o := fun o ho => hA o (fun z => by
    have := List.all_eq_true.mp hk.1 o z
    simp only [Bool.and_eq_true, Bool.not_eq_true', beq_eq_false_iff_ne] at this
    have h2 := Nat.le_of_ble_eq_true this.1.1.1.1
    omega)
  have kF : ∀ o k, o * 100 + k = 3201 ∨ o * 100 + k = 3901 ∨ o * 100 + k = 3902 ∨ o * 100 + k = 5801 ∨ o * 100 + k = 5802 ∨ o * 100 + k = 5900 ∨ o * 100 + k < 2801 → F' o k = F o k := fun o k ho => hF o k (fun z => by
    have := List.all_eq_true.mp hk.2 _ z
    simp only [Bool.and_eq_true, Bool.not_eq_true', beq_eq_false_iff_ne] at this
    have h2 := Nat.le_of_ble_eq_true this.1.1.1.1.1.1
    omega)
  exact ⟨⟨by rw [kF 32 1 (by omega)]; exact a1, by rw [kA 33 (by omega)]; exact a2⟩, fun k hk => (b k hk).frame (kF _ 0 (by omega)) (kA _ (by omega)) (kA _ (by omega)), ⟨by rw [kF 39 1 (by omega)]; exact c1, by rw [kF 39 2 (by omega)]; exact c2, by rw [kA 40 (by omega)]; exact c3⟩, d1.frame (kF 59 0 (by omega)) (kA 60 (by omega)) (kA 61 (by omega)), by rw [kF 58 1 (by omega)]; exact d2, by rw [kF 58 2 (by omega)]; exact d3⟩
theorem RM.keep {F A F' A' : Nat → Nat → Int32} (h : RM F A S) {LA LF : List Nat} (hA : sA LA A A') (hF : sF LF F F') (hk : (LA.all fun x => !(x == 63) && !(x == 64) && !(x == 65) && !(x == 66)) = true ∧ (LF.all fun x => !(x == 6204) && !(x == 6212) && !(x == 6214) && !(x == 6223) && !(x == 6224)) = true) : RM F' A' S := by
  obtain ⟨⟨a1, a2⟩, b, ⟨c1, c2, c3⟩, d1, d2, d3⟩ := h
  have kA : ∀ o, o = 63 ∨ o = 64 ∨ o = 65 ∨ o = 66 → A' o = A o := fun o ho => hA o (fun z => by
    have := List.all_eq_true.mp hk.1 o z
    simp only [Bool.and_eq_true, Bool.not_eq_true', beq_eq_false_iff_ne] at this
    omega)
  have kF : ∀ o k, o * 100 + k = 6204 ∨ o * 100 + k = 6212 ∨ o * 100 + k = 6214 ∨ o * 100 + k = 6223 ∨ o * 100 + k = 6224 → F' o k = F o k := fun o k ho => hF o k (fun z => by
    have := List.all_eq_true.mp hk.2 _ z
    simp only [Bool.and_eq_true, Bool.not_eq_true', beq_eq_false_iff_ne] at this
    omega)
  exact ⟨⟨by rw [kF 62 4 (by omega)]; exact a1, by rw [kA 65 (by omega)]; exact a2⟩, fun k hk => (b k hk).frame (kA 63 (by omega)) (kA 64 (by omega)), ⟨by rw [kF 62 12 (by omega)]; exact c1, by rw [kF 62 14 (by omega)]; exact c2, by rw [kA 66 (by omega)]; exact c3⟩, d1.frame (kA 63 (by omega)) (kA 64 (by omega)), by rw [kF 62 23 (by omega)]; exact d2, by rw [kF 62 24 (by omega)]; exact d3⟩
/-- a call that writes scratch alone -/
theorem op_sc {mc mm : Nat} {as : List Value} {S : SP} (W : Wf S) (r : Int32) (hc : ∀ Y F A, RC F A S → ∃ F' A' LA LF, xa_rn xa_ms 80 mc (.ref 9 :: as) (hp Y F A) (some (.int r)) (hp Y F' A') ∧ sA LA A A' ∧ sF LF F F' ∧ (LA.all fun x => Nat.blt x 62 && (Nat.blt 28 x && !(x == 33) && !(x == 40) && !(x == 60) && !(x == 61))) = true ∧ (LF.all fun x => Nat.blt x 6200 && (Nat.blt 2800 x && !(x == 3201) && !(x == 3901) && !(x == 3902) && !(x == 5801) && !(x == 5802) && !(x == 5900))) = true) (hm : ∀ Y F A, RM F A S → ∃ A' LA, xa_rn xa_ms 80 mm (.ref 62 :: as) (hp Y F A) (some (.int r)) (hp Y (uF F 62 0 0) A') ∧ sA LA A A' ∧ (LA.all fun x => Nat.ble 62 x && (!(x == 63) && !(x == 64) && !(x == 65) && !(x == 66))) = true) : OP mc mm as S := by
  refine ⟨r, S, W, fun Y F A hC => ?_, fun Y F A hM => ?_⟩
  · obtain ⟨F', A', LA, LF, h1, h2, h3, h4, h5⟩ := hc Y F A hC
    have k4 : ∀ x ∈ LA, _ := fun x hx => Bool.and_eq_true .. ▸ List.all_eq_true.mp h4 x hx
    have k5 : ∀ x ∈ LF, _ := fun x hx => Bool.and_eq_true .. ▸ List.all_eq_true.mp h5 x hx
    exact ⟨F', A', h1, hC.keep h2 h3 ⟨List.all_eq_true.mpr fun x hx => (k4 x hx).2, List.all_eq_true.mpr fun x hx => (k5 x hx).2⟩, KM.of h3 h2 ⟨List.all_eq_true.mpr fun x hx => (k5 x hx).1, List.all_eq_true.mpr fun x hx => (k4 x hx).1⟩⟩
  · obtain ⟨A', LA, h1, h2, h4⟩ := hm Y F A hM
    have k4 : ∀ x ∈ LA, _ := fun x hx => Bool.and_eq_true .. ▸ List.all_eq_true.mp h4 x hx
    exact ⟨_, A', h1, (hM.thrown 0).keep h2 (sF.rf (L := [])) ⟨List.all_eq_true.mpr fun x hx => (k4 x hx).2, rfl⟩, (KC.fld F A 0 0).tr (KC.sA h2 (List.all_eq_true.mpr fun x hx => (k4 x hx).1))⟩
section RSP
variable {n1 n2 : Nat} {g1 g2 : Nat → Nat → Nat → Nat}
theorem wR_go : ∀ N {k R : Nat}, R ≠ 0 → wR n1 n2 g1 g2 N k = R → gok n1 n2 g1 g2 (wR n1 n2 g1 g2 (R - 1)) k = true ∧ R ≤ N := by
  intro N
  induction N with
  | zero => intro k R h0 h; exact absurd h.symm h0
  | succ N ih =>
    intro k R h0 h
    have h' : w1 n1 n2 g1 g2 (N + 1) (wR n1 n2 g1 g2 N) k = R := h
    unfold w1 at h'
    cases e : gok n1 n2 g1 g2 (wR n1 n2 g1 g2 N) k with
    | true =>
      rw [e] at h'
      have : R = N + 1 := h'.symm
      subst this
      exact ⟨e, Nat.le_refl _⟩
    | false =>
      rw [e] at h'
      obtain ⟨a, b⟩ := ih h0 h'
      exact ⟨a, by omega⟩
theorem wR_at {R : Nat} (hR : R ≤ 37) (k : Nat) : wR n1 n2 g1 g2 R k = 0 ↔ wE n1 n2 g1 g2 k = 0 ∨ R + 1 ≤ wE n1 n2 g1 g2 k := by
  constructor
  · intro h
    have key : ∀ m, wR n1 n2 g1 g2 (R + m) k = 0 ∨ R + 1 ≤ wR n1 n2 g1 g2 (R + m) k := by
      intro m
      induction m with
      | zero => exact Or.inl h
      | succ m ih =>
        show w1 n1 n2 g1 g2 (R + m + 1) (wR n1 n2 g1 g2 (R + m)) k = 0 ∨ R + 1 ≤ w1 n1 n2 g1 g2 (R + m + 1) (wR n1 n2 g1 g2 (R + m)) k
        unfold w1
        cases gok n1 n2 g1 g2 (wR n1 n2 g1 g2 (R + m)) k
        · exact ih
        · right
          show R + 1 ≤ R + m + 1
          omega
    have := key (37 - R)
    rwa [show R + (37 - R) = 37 by omega] at this
  · intro h
    refine Classical.byContradiction fun h0 => ?_
    have h1 := wR_keep h0 (37 - R)
    rw [show R + (37 - R) = 37 by omega] at h1
    have h2 := wR_le (n1 := n1) (n2 := n2) (g1 := g1) (g2 := g2) R k
    unfold wE at h
    omega
end RSP
theorem wE_lt (n1 n2 : Nat) (g1 g2 : Nat → Nat → Nat → Nat) (k : Nat) : wE n1 n2 g1 g2 k < 1000 := by
  have := wR_le (n1 := n1) (n2 := n2) (g1 := g1) (g2 := g2) 37 k
  unfold wE
  omega
theorem op_alike (W : Wf S) (x y : Int32) : OP n_MM_alike n_Mo_alike [.int x, .int y] S := by
  rcases ix4 x (n := 6) (by decide) with hx | ⟨i, hi, rfl⟩
  · refine op_ro W (-1) (fun Y F A hC => ?_) (fun Y F A hM => ?_)
    · refine rn_in m_MM_alike rfl ⟨rfl, rfl⟩ ?_
      show ev _ t_MM_alike 0 [.ref 9, .int x, .int y] [] _ _
      repeat (refine ev_np [] rfl rfl rfl ?_)
      refine ev_ca rfl (c_MM_noPlanT 78 hx) ?_
      repeat (refine ev_np [] rfl rfl rfl ?_)
      exact ev_ri rfl rfl
    · refine rn_in m_Mo_alike rfl ⟨rfl, rfl⟩ ?_
      show ev _ t_Mo_alike 0 [.ref 62, .int x, .int y, .float 0] [] _ _
      repeat (refine ev_np [] rfl rfl rfl ?_)
      refine ev_pf rfl (by rfl) ⟨by rfl, by rfl⟩ ?_
      repeat (refine ev_np [] rfl rfl rfl ?_)
      refine ev_ca rfl (c_Mo_isPlanF 77 hx) ?_
      repeat (refine ev_np [] rfl rfl rfl ?_)
      exact ev_ri rfl rfl
  rcases ix4 y (n := 6) (by decide) with hy | ⟨j, hj, rfl⟩
  · refine op_ro W (-1) (fun Y F A hC => ?_) (fun Y F A hM => ?_)
    · refine rn_in m_MM_alike rfl ⟨rfl, rfl⟩ ?_
      show ev _ t_MM_alike 0 [.ref 9, .int (nI i), .int y] [] _ _
      repeat (refine ev_np [] rfl rfl rfl ?_)
      refine ev_ca rfl (c_MM_noPlanF 78 hi) ?_
      repeat (refine ev_np [] rfl rfl rfl ?_)
      refine ev_ca rfl (c_MM_noPlanT 78 hy) ?_
      repeat (refine ev_np [] rfl rfl rfl ?_)
      exact ev_ri rfl rfl
    · refine rn_in m_Mo_alike rfl ⟨rfl, rfl⟩ ?_
      show ev _ t_Mo_alike 0 [.ref 62, .int (nI i), .int y, .float 0] [] _ _
      repeat (refine ev_np [] rfl rfl rfl ?_)
      refine ev_pf rfl (by rfl) ⟨by rfl, by rfl⟩ ?_
      repeat (refine ev_np [] rfl rfl rfl ?_)
      refine ev_ca rfl (c_Mo_isPlanT 77 hi) ?_
      repeat (refine ev_np [] rfl rfl rfl ?_)
      refine ev_ca rfl (c_Mo_isPlanF 77 hy) ?_
      repeat (refine ev_np [] rfl rfl rfl ?_)
      exact ev_ri rfl rfl
  have wi := W.2.1 i hi
  have wj := W.2.1 j hj
  obtain ⟨a, ha⟩ : ∃ a, a = wE (S.2.1 i).1 (S.2.1 j).1 (S.2.1 i).2 (S.2.1 j).2 0 := ⟨_, rfl⟩
  obtain ⟨b, hb⟩ : ∃ b, b = wE (S.2.1 j).1 (S.2.1 i).1 (S.2.1 j).2 (S.2.1 i).2 0 := ⟨_, rfl⟩
  have la : a < 1000 := by rw [ha]; exact wE_lt ..
  have lb : b < 1000 := by rw [hb]; exact wE_lt ..
  refine op_sc W (z01 (decide (a = 0) && decide (b = 0))) (fun Y F A hC => ?_) (fun Y F A hM => ?_)
  · obtain ⟨F1, A1, b1, b2, b3, b4, -⟩ := c_Rounds_play (Y := Y) 73 (PLi hi) (PLi hj) (hC.2.1 i hi) (hC.2.1 j hj) wi.1 wj.1
    rw [← ha] at b1
    have hC1 := hC.keep b2 b3 ⟨rfl, rfl⟩
    obtain ⟨F2, A2, c1, c2, c3, c4, -⟩ := c_Rounds_play (Y := Y) 73 (PLi hj) (PLi hi) (hC1.2.1 j hj) (hC1.2.1 i hi) wj.1 wi.1
    rw [← hb] at c1
    have start : ∀ q, (ev 79 t_MM_alike 35 [.ref 9, .int (nI i), .int (nI j)] [.int (z01 (decide (a = 0)))] (hp Y F1 A1) q) → ev 79 t_MM_alike 0 [.ref 9, .int (nI i), .int (nI j)] [] (hp Y F A) q := by
      intro q hq
      repeat (refine ev_np [] rfl rfl rfl ?_)
      refine ev_ca rfl (c_MM_noPlanF 78 hi) ?_
      repeat (refine ev_np [] rfl rfl rfl ?_)
      refine ev_ca rfl (c_MM_noPlanF 78 hj) ?_
      repeat (first | refine ev_np [] rfl rfl rfl ?_ | refine ev_grs [] rfl rfl (by rfl) (by rfl) ?_)
      refine ev_aa rfl hi ?_
      repeat (first | refine ev_np [] rfl rfl rfl ?_ | refine ev_grs [] rfl rfl (by rfl) (by rfl) ?_)
      refine ev_aa rfl hj ?_
      refine ev_vc rfl (by rfl) (by rfl) rfl (b1) ?_
      exact hq
    by_cases e1 : a = 0
    · refine ⟨F2, A2, [47, 48, 49], [4502, 4503], ?_, b2.tr c2, b3.tr c3, rfl, rfl⟩
      refine rn_in m_MM_alike rfl ⟨rfl, rfl⟩ ?_
      show ev _ t_MM_alike 0 [.ref 9, .int (nI i), .int (nI j)] [] _ _
      refine start _ ?_
      rw [decide_eq_true e1]
      repeat (first | refine ev_np [] rfl rfl rfl ?_ | refine ev_grs [] rfl rfl (by rfl) (by rfl) ?_)
      refine ev_aa rfl hj ?_
      repeat (first | refine ev_np [] rfl rfl rfl ?_ | refine ev_grs [] rfl rfl (by rfl) (by rfl) ?_)
      refine ev_aa rfl hi ?_
      refine ev_vc rfl (by rfl) (by rfl) rfl (c1) ?_
      by_cases e2 : b = 0
      · rw [decide_eq_true e2]
        repeat (refine ev_np [] rfl rfl rfl ?_)
        exact ev_ri rfl rfl
      · rw [decide_eq_false e2]
        repeat (refine ev_np [] rfl rfl rfl ?_)
        exact ev_ri rfl rfl
    · refine ⟨F1, A1, [47, 48, 49], [4502, 4503], ?_, b2, b3, rfl, rfl⟩
      refine rn_in m_MM_alike rfl ⟨rfl, rfl⟩ ?_
      show ev _ t_MM_alike 0 [.ref 9, .int (nI i), .int (nI j)] [] _ _
      refine start _ ?_
      rw [decide_eq_false e1]
      repeat (refine ev_np [] rfl rfl rfl ?_)
      exact ev_ri rfl rfl
  · have hM0 := hM.thrown 0
    obtain ⟨A1, b1, b2, b3⟩ := c_Mo_goes (Y := Y) (F := uF F 62 0 0) 75 (i := i) (j := j) (by omega) (by omega) (hM0.2.1 i hi) (hM0.2.1 j hj) wi wj
    have hM1 := hM0.keep b2 (sF.rf (L := [])) ⟨rfl, rfl⟩
    obtain ⟨A2, c1, c2, c3⟩ := c_Mo_goes (Y := Y) (F := uF F 62 0 0) 75 (i := j) (j := i) (by omega) (by omega) (hM1.2.1 j hj) (hM1.2.1 i hi) wj wi
    refine ⟨A2, [70], ?_, b2.tr c2, rfl⟩
    refine rn_in m_Mo_alike rfl ⟨rfl, rfl⟩ ?_
    show ev _ t_Mo_alike 0 [.ref 62, .int (nI i), .int (nI j), .float 0] [] _ _
    repeat (refine ev_np [] rfl rfl rfl ?_)
    refine ev_pf rfl (by rfl) ⟨by rfl, by rfl⟩ ?_
    repeat (refine ev_np [] rfl rfl rfl ?_)
    refine ev_ca rfl (c_Mo_isPlanT 77 hi) ?_
    repeat (refine ev_np [] rfl rfl rfl ?_)
    refine ev_ca rfl (c_Mo_isPlanT 77 hj) ?_
    repeat (refine ev_np [] rfl rfl rfl ?_)
    refine ev_vc rfl (by rfl) (by rfl) rfl (b1) ?_
    repeat (first | refine ev_np [] rfl rfl rfl ?_ | refine ev_grs [] rfl rfl (by rfl) (by rfl) ?_)
    refine ev_an rfl (by rfl) (j := 0) rfl (by decide) rfl ?_
    rw [b3 0 (by decide), ← ha]
    by_cases e1 : a = 0
    · rw [e1]
      repeat (refine ev_np [] rfl rfl rfl ?_)
      refine ev_vc rfl (by rfl) (by rfl) rfl (c1) ?_
      repeat (first | refine ev_np [] rfl rfl rfl ?_ | refine ev_grs [] rfl rfl (by rfl) (by rfl) ?_)
      refine ev_an rfl (by rfl) (j := 0) rfl (by decide) rfl ?_
      rw [c3 0 (by decide), ← hb]
      by_cases e2 : b = 0
      · rw [e2]
        repeat (refine ev_np [] rfl rfl rfl ?_)
        exact ev_ri rfl rfl
      · repeat (refine ev_np [] rfl rfl rfl ?_)
        refine ev_it (nI_ne0 (by omega) (by omega)) ?_
        repeat (refine ev_np [] rfl rfl rfl ?_)
        exact ev_ri rfl (by rw [decide_eq_false e2]; rfl)
    · repeat (refine ev_np [] rfl rfl rfl ?_)
      refine ev_it (nI_ne0 (by omega) (by omega)) ?_
      repeat (refine ev_np [] rfl rfl rfl ?_)
      refine ev_vc rfl (by rfl) (by rfl) rfl (c1) ?_
      repeat (refine ev_np [] rfl rfl rfl ?_)
      exact ev_ri rfl (by rw [decide_eq_false e1]; rfl)
theorem op_stays (W : Wf S) (x y u v : Int32) : OP n_MM_stays n_Mo_stays [.int x, .int y, .int u, .int v] S := by
  by_cases h1 : St S x y
  · obtain ⟨i, s, hi, hs, rfl, rfl⟩ := h1
    by_cases h2 : St S u v
    · obtain ⟨j, t, hj, ht, rfl, rfl⟩ := h2
      have wi := W.2.1 i hi
      have wj := W.2.1 j hj
      have hs6 : s < 6 := by have := wi.1.2; omega
      have ht6 : t < 6 := by have := wj.1.2; omega
      refine op_sc W (nI (wE (S.2.1 i).1 (S.2.1 j).1 (S.2.1 i).2 (S.2.1 j).2 (6 * s + t))) (fun Y F A hC => ?_) (fun Y F A hM => ?_)
      · obtain ⟨F1, A1, b1, b2, b3, b4, -⟩ := c_Rounds_play (Y := Y) 73 (PLi hi) (PLi hj) (hC.2.1 i hi) (hC.2.1 j hj) wi.1 wj.1
        refine ⟨F1, A1, [47, 48, 49], [4502, 4503], ?_, b2, b3, rfl, rfl⟩
        refine rn_in m_MM_stays rfl ⟨rfl, rfl⟩ ?_
        show ev _ t_MM_stays 0 [.ref 9, .int (nI i), .int (nI s), .int (nI j), .int (nI t)] [] _ _
        repeat (refine ev_np [] rfl rfl rfl ?_)
        refine ev_vc rfl (by rfl) (by rfl) rfl (c_MM_noStateF 77 hC W hi hs) ?_
        repeat (refine ev_np [] rfl rfl rfl ?_)
        refine ev_vc rfl (by rfl) (by rfl) rfl (c_MM_noStateF 77 hC W hj ht) ?_
        repeat (first | refine ev_np [] rfl rfl rfl ?_ | refine ev_grs [] rfl rfl (by rfl) (by rfl) ?_)
        refine ev_aa rfl hi ?_
        repeat (first | refine ev_np [] rfl rfl rfl ?_ | refine ev_grs [] rfl rfl (by rfl) (by rfl) ?_)
        refine ev_aa rfl hj ?_
        refine ev_vc rfl (by rfl) (by rfl) rfl (b1) ?_
        repeat (first | refine ev_np [] rfl rfl rfl ?_ | refine ev_grs [] rfl rfl (by rfl) (by rfl) ?_)
        refine ev_vc rfl (by rfl) (by rfl) rfl (c_Rounds_roundOf 78 b4 hs6 ht6) ?_
        exact ev_ri rfl rfl
      · have hM0 := hM.thrown 0
        obtain ⟨A1, b1, b2, b3⟩ := c_Mo_goes (Y := Y) (F := uF F 62 0 0) 75 (i := i) (j := j) (by omega) (by omega) (hM0.2.1 i hi) (hM0.2.1 j hj) wi wj
        refine ⟨A1, [70], ?_, b2, rfl⟩
        refine rn_in m_Mo_stays rfl ⟨rfl, rfl⟩ ?_
        show ev _ t_Mo_stays 0 [.ref 62, .int (nI i), .int (nI s), .int (nI j), .int (nI t)] [] _ _
        repeat (refine ev_np [] rfl rfl rfl ?_)
        refine ev_pf rfl (by rfl) ⟨by rfl, by rfl⟩ ?_
        repeat (refine ev_np [] rfl rfl rfl ?_)
        refine ev_vc rfl (by rfl) (by rfl) rfl (c_Mo_isStateT 76 hM0 W hi hs) ?_
        repeat (refine ev_np [] rfl rfl rfl ?_)
        refine ev_vc rfl (by rfl) (by rfl) rfl (c_Mo_isStateT 76 hM0 W hj ht) ?_
        repeat (refine ev_np [] rfl rfl rfl ?_)
        refine ev_vc rfl (by rfl) (by rfl) rfl (b1) ?_
        repeat (first | refine ev_np [] rfl rfl rfl ?_ | refine ev_grs [] rfl rfl (by rfl) (by rfl) ?_)
        refine ev_an rfl (by rfl) (j := 6 * s + t) (by rw [show (6 : Int32) = nI 6 from rfl, pk_mul, nI_add]) (by omega) rfl ?_
        exact ev_ri rfl (b3 _ (by omega))
    · refine op_ro W (-1) (fun Y F A hC => ?_) (fun Y F A hM => ?_)
      · refine rn_in m_MM_stays rfl ⟨rfl, rfl⟩ ?_
        show ev _ t_MM_stays 0 [.ref 9, .int (nI i), .int (nI s), .int u, .int v] [] _ _
        repeat (refine ev_np [] rfl rfl rfl ?_)
        refine ev_vc rfl (by rfl) (by rfl) rfl (c_MM_noStateF 77 hC W hi hs) ?_
        repeat (refine ev_np [] rfl rfl rfl ?_)
        refine ev_vc rfl (by rfl) (by rfl) rfl (c_MM_noStateT 77 hC W h2) ?_
        repeat (refine ev_np [] rfl rfl rfl ?_)
        exact ev_ri rfl rfl
      · have hM0 := hM.thrown 0
        refine rn_in m_Mo_stays rfl ⟨rfl, rfl⟩ ?_
        show ev _ t_Mo_stays 0 [.ref 62, .int (nI i), .int (nI s), .int u, .int v] [] _ _
        repeat (refine ev_np [] rfl rfl rfl ?_)
        refine ev_pf rfl (by rfl) ⟨by rfl, by rfl⟩ ?_
        repeat (refine ev_np [] rfl rfl rfl ?_)
        refine ev_vc rfl (by rfl) (by rfl) rfl (c_Mo_isStateT 76 hM0 W hi hs) ?_
        repeat (refine ev_np [] rfl rfl rfl ?_)
        refine ev_vc rfl (by rfl) (by rfl) rfl (c_Mo_isStateF 76 hM0 W h2) ?_
        repeat (refine ev_np [] rfl rfl rfl ?_)
        exact ev_ri rfl rfl
  · refine op_ro W (-1) (fun Y F A hC => ?_) (fun Y F A hM => ?_)
    · refine rn_in m_MM_stays rfl ⟨rfl, rfl⟩ ?_
      show ev _ t_MM_stays 0 [.ref 9, .int x, .int y, .int u, .int v] [] _ _
      repeat (refine ev_np [] rfl rfl rfl ?_)
      refine ev_vc rfl (by rfl) (by rfl) rfl (c_MM_noStateT 77 hC W h1) ?_
      repeat (refine ev_np [] rfl rfl rfl ?_)
      exact ev_ri rfl rfl
    · have hM0 := hM.thrown 0
      refine rn_in m_Mo_stays rfl ⟨rfl, rfl⟩ ?_
      show ev _ t_Mo_stays 0 [.ref 62, .int x, .int y, .int u, .int v] [] _ _
      repeat (refine ev_np [] rfl rfl rfl ?_)
      refine ev_pf rfl (by rfl) ⟨by rfl, by rfl⟩ ?_
      repeat (refine ev_np [] rfl rfl rfl ?_)
      refine ev_vc rfl (by rfl) (by rfl) rfl (c_Mo_isStateF 76 hM0 W h1) ?_
      repeat (refine ev_np [] rfl rfl rfl ?_)
      exact ev_ri rfl rfl
theorem op_stricter (W : Wf S) (x y z : Int32) : OP n_MM_stricter n_Mo_stricter [.int x, .int y, .int z] S := by
  rcases ix4 x (n := 6) (by decide) with hx | ⟨i, hi, rfl⟩
  · refine op_ro W (-1) (fun Y F A hC => ?_) (fun Y F A hM => ?_)
    · refine rn_in m_MM_stricter rfl ⟨rfl, rfl⟩ ?_
      show ev _ t_MM_stricter 0 [.ref 9, .int x, .int y, .int z, .float 0] [] _ _
      repeat (refine ev_np [] rfl rfl rfl ?_)
      refine ev_ca rfl (c_MM_noPlanT 78 hx) ?_
      repeat (refine ev_np [] rfl rfl rfl ?_)
      exact ev_ri rfl rfl
    · refine rn_in m_Mo_stricter rfl ⟨rfl, rfl⟩ ?_
      show ev _ t_Mo_stricter 0 [.ref 62, .int x, .int y, .int z, .float 0, .float 0, .float 0] [] _ _
      repeat (refine ev_np [] rfl rfl rfl ?_)
      refine ev_pf rfl (by rfl) ⟨by rfl, by rfl⟩ ?_
      repeat (refine ev_np [] rfl rfl rfl ?_)
      refine ev_ca rfl (c_Mo_isPlanF 77 hx) ?_
      repeat (refine ev_np [] rfl rfl rfl ?_)
      exact ev_ri rfl rfl
  rcases ix4 y (n := 6) (by decide) with hy | ⟨j, hj, rfl⟩
  · refine op_ro W (-1) (fun Y F A hC => ?_) (fun Y F A hM => ?_)
    · refine rn_in m_MM_stricter rfl ⟨rfl, rfl⟩ ?_
      show ev _ t_MM_stricter 0 [.ref 9, .int (nI i), .int y, .int z, .float 0] [] _ _
      repeat (refine ev_np [] rfl rfl rfl ?_)
      refine ev_ca rfl (c_MM_noPlanF 78 hi) ?_
      repeat (refine ev_np [] rfl rfl rfl ?_)
      refine ev_ca rfl (c_MM_noPlanT 78 hy) ?_
      repeat (refine ev_np [] rfl rfl rfl ?_)
      exact ev_ri rfl rfl
    · refine rn_in m_Mo_stricter rfl ⟨rfl, rfl⟩ ?_
      show ev _ t_Mo_stricter 0 [.ref 62, .int (nI i), .int y, .int z, .float 0, .float 0, .float 0] [] _ _
      repeat (refine ev_np [] rfl rfl rfl ?_)
      refine ev_pf rfl (by rfl) ⟨by rfl, by rfl⟩ ?_
      repeat (refine ev_np [] rfl rfl rfl ?_)
      refine ev_ca rfl (c_Mo_isPlanT 77 hi) ?_
      repeat (refine ev_np [] rfl rfl rfl ?_)
      refine ev_ca rfl (c_Mo_isPlanF 77 hy) ?_
      repeat (refine ev_np [] rfl rfl rfl ?_)
      exact ev_ri rfl rfl
  rcases ix4 z (n := 4) (by decide) with hz | ⟨k, hk, rfl⟩
  · refine op_ro W (-1) (fun Y F A hC => ?_) (fun Y F A hM => ?_)
    · refine rn_in m_MM_stricter rfl ⟨rfl, rfl⟩ ?_
      show ev _ t_MM_stricter 0 [.ref 9, .int (nI i), .int (nI j), .int z, .float 0] [] _ _
      repeat (refine ev_np [] rfl rfl rfl ?_)
      refine ev_ca rfl (c_MM_noPlanF 78 hi) ?_
      repeat (refine ev_np [] rfl rfl rfl ?_)
      refine ev_ca rfl (c_MM_noPlanF 78 hj) ?_
      repeat (refine ev_np [] rfl rfl rfl ?_)
      refine ev_if (fun c => ?_) (fun c => ?_)
      · repeat (refine ev_np [] rfl rfl rfl ?_)
        exact ev_ri rfl rfl
      · repeat (refine ev_np [] rfl rfl rfl ?_)
        refine ev_ie (out_le (n := 3) (by decide) hz c) ?_
        repeat (refine ev_np [] rfl rfl rfl ?_)
        exact ev_ri rfl rfl
    · refine rn_in m_Mo_stricter rfl ⟨rfl, rfl⟩ ?_
      show ev _ t_Mo_stricter 0 [.ref 62, .int (nI i), .int (nI j), .int z, .float 0, .float 0, .float 0] [] _ _
      repeat (refine ev_np [] rfl rfl rfl ?_)
      refine ev_pf rfl (by rfl) ⟨by rfl, by rfl⟩ ?_
      repeat (refine ev_np [] rfl rfl rfl ?_)
      refine ev_ca rfl (c_Mo_isPlanT 77 hi) ?_
      repeat (refine ev_np [] rfl rfl rfl ?_)
      refine ev_ca rfl (c_Mo_isPlanT 77 hj) ?_
      repeat (refine ev_np [] rfl rfl rfl ?_)
      refine ev_ca rfl (c_Mo_in 78 _ _ _) ?_
      rw [show (3 : Int32) = nI 3 from rfl, in_T (N := 3) (by omega) hz]
      repeat (refine ev_np [] rfl rfl rfl ?_)
      exact ev_ri rfl rfl
  have wi := W.2.1 i hi
  have wj := W.2.1 j hj
  obtain ⟨n1, hn1⟩ : ∃ a, a = (S.2.1 i).1 := ⟨_, rfl⟩
  obtain ⟨n2, hn2⟩ : ∃ a, a = (S.2.1 j).1 := ⟨_, rfl⟩
  obtain ⟨g1, hg1⟩ : ∃ a, a = (S.2.1 i).2 := ⟨_, rfl⟩
  obtain ⟨g2, hg2⟩ : ∃ a, a = (S.2.1 j).2 := ⟨_, rfl⟩
  rw [← hn1, ← hg1] at wi
  rw [← hn2, ← hg2] at wj
  obtain ⟨R, hR⟩ : ∃ R, R = wE n1 n2 g1 g2 0 := ⟨_, rfl⟩
  have lR : R < 1000 := by rw [hR]; exact wE_lt ..
  have lR37 : R ≤ 37 := by rw [hR]; exact wR_le 37 0
  obtain ⟨f, hf⟩ : ∃ f : Nat → Nat, f = sd g1 g2 (rs n1 n2 (wR n1 n2 g1 g2 (R - 1))) 0 0 := ⟨_, rfl⟩
  have fle : ∀ l, f l ≤ 2 := fun l => by rw [hf]; exact sd_le ..
  -- the class
  have clas : ∀ Y F A, RC F A S → ∃ F' A', sA [47, 48, 49] A A' ∧ sF [4502, 4503] F F' ∧ WE A' 49 (wE n1 n2 g1 g2) ∧ F' 45 2 = (if R = 0 then -9 else nI (fl f)) ∧ F' 45 3 = (if R = 0 then 0 else nI (f (fl f))) ∧ ∀ r, ev 79 t_MM_stricter 46 [.ref 9, .int (nI i), .int (nI j), .int (nI k), .int (z01 (decide (R = 0)))] [] (hp Y F' A') (some (.int r), hp Y F' A') → xa_rn xa_ms 80 n_MM_stricter [.ref 9, .int (nI i), .int (nI j), .int (nI k)] (hp Y F A) (some (.int r)) (hp Y F' A') := by
    intro Y F A hC
    obtain ⟨F1, A1, b1, b2, b3, b4, b5⟩ := c_Rounds_play (Y := Y) 73 (PLi hi) (PLi hj) (hC.2.1 i hi) (hC.2.1 j hj) (by rw [← hn1]; exact wi.1) (by rw [← hn2]; exact wj.1)
    rw [← hn1, ← hn2, ← hg1, ← hg2] at b1 b4 b5
    obtain ⟨b5, b6⟩ := b5
    rw [show wR n1 n2 g1 g2 37 0 = R from hR.symm, ← hf] at b5 b6
    rw [← hR] at b1
    refine ⟨F1, A1, b2, b3, b4, b5, b6, fun r hr => ?_⟩
    refine rn_in m_MM_stricter rfl ⟨rfl, rfl⟩ ?_
    show ev _ t_MM_stricter 0 [.ref 9, .int (nI i), .int (nI j), .int (nI k), .float 0] [] _ _
    repeat (refine ev_np [] rfl rfl rfl ?_)
    refine ev_ca rfl (c_MM_noPlanF 78 hi) ?_
    repeat (refine ev_np [] rfl rfl rfl ?_)
    refine ev_ca rfl (c_MM_noPlanF 78 hj) ?_
    repeat (refine ev_np [] rfl rfl rfl ?_)
    refine ev_ie (nI_pos (by omega)) ?_
    repeat (refine ev_np [] rfl rfl rfl ?_)
    refine ev_it (nI_le (b := 3) (by omega) (by omega)) ?_
    repeat (first | refine ev_np [] rfl rfl rfl ?_ | refine ev_grs [] rfl rfl (by rfl) (by rfl) ?_)
    refine ev_aa rfl hi ?_
    repeat (first | refine ev_np [] rfl rfl rfl ?_ | refine ev_grs [] rfl rfl (by rfl) (by rfl) ?_)
    refine ev_aa rfl hj ?_
    refine ev_vc rfl (by rfl) (by rfl) rfl (b1) ?_
    repeat (refine ev_np [46] rfl rfl rfl ?_)
    exact hr
  have model : ∀ Y F A, RM F A S → ∃ A', sA [70] A A' ∧ WE A' 70 (wE n1 n2 g1 g2) ∧ ∀ r, ev 79 t_Mo_stricter 44 [.ref 62, .int (nI i), .int (nI j), .int (nI k), .int (nI R), .float 0, .float 0] [] (hp Y (uF F 62 0 0) A') (some (.int r), hp Y (uF F 62 0 0) A') → xa_rn xa_ms 80 n_Mo_stricter [.ref 62, .int (nI i), .int (nI j), .int (nI k)] (hp Y F A) (some (.int r)) (hp Y (uF F 62 0 0) A') := by
    intro Y F A hM
    have hM0 := hM.thrown 0
    obtain ⟨A1, b1, b2, b3⟩ := c_Mo_goes (Y := Y) (F := uF F 62 0 0) 75 (i := i) (j := j) (by omega) (by omega) (hM0.2.1 i hi) (hM0.2.1 j hj) (by rw [← hn1, ← hg1]; exact wi) (by rw [← hn2, ← hg2]; exact wj)
    rw [← hn1, ← hn2, ← hg1, ← hg2] at b3
    refine ⟨A1, b2, b3, fun r hr => ?_⟩
    refine rn_in m_Mo_stricter rfl ⟨rfl, rfl⟩ ?_
    show ev _ t_Mo_stricter 0 [.ref 62, .int (nI i), .int (nI j), .int (nI k), .float 0, .float 0, .float 0] [] _ _
    repeat (refine ev_np [] rfl rfl rfl ?_)
    refine ev_pf rfl (by rfl) ⟨by rfl, by rfl⟩ ?_
    repeat (refine ev_np [] rfl rfl rfl ?_)
    refine ev_ca rfl (c_Mo_isPlanT 77 hi) ?_
    repeat (refine ev_np [] rfl rfl rfl ?_)
    refine ev_ca rfl (c_Mo_isPlanT 77 hj) ?_
    repeat (refine ev_np [] rfl rfl rfl ?_)
    refine ev_ca rfl (c_Mo_in 78 _ _ _) ?_
    rw [show (3 : Int32) = nI 3 from rfl, in_F (N := 3) (by omega) (by omega)]
    repeat (refine ev_np [] rfl rfl rfl ?_)
    refine ev_vc rfl (by rfl) (by rfl) rfl (b1) ?_
    repeat (first | refine ev_np [] rfl rfl rfl ?_ | refine ev_grs [] rfl rfl (by rfl) (by rfl) ?_)
    refine ev_an rfl (by rfl) (j := 0) rfl (by decide) rfl ?_
    rw [b3 0 (by decide), ← hR]
    repeat (refine ev_np [44] rfl rfl rfl ?_)
    exact hr
  have why : ∀ Y F A l, RM F A S → WE A 70 (wE n1 n2 g1 g2) → l < 3 → R ≠ 0 → xa_rn xa_ms 79 n_Mo_why [.ref 62, .int (nI i), .int 0, .int (nI j), .int 0, .int (nI l), .int (nI R)] (hp Y F A) (some (.int (nI (f l)))) (hp Y F A) := by
    intro Y F A l hM hw hl hR0
    have h1 := c_Mo_why (Y := Y) (F := F) (A := A) 76 (i := i) (j := j) (by omega) (by omega) (hM.2.1 i hi) (hM.2.1 j hj) (by rw [← hn1]; exact wi.1.2) (by rw [← hn2]; exact wj.1.2) (by rw [← hg1]; exact fun s l t => (wi.2 s l t).1) (by rw [← hg2]; exact fun s l t => (wj.2 s l t).1) hw (wE_lt n1 n2 g1 g2) (s := 0) (t := 0) (l := l) (R := R) (by decide) (by decide) hl lR
    rw [← hn1, ← hn2, ← hg1, ← hg2] at h1
    rw [← sM_eq wi wj (r := rs n1 n2 (wR n1 n2 g1 g2 (R - 1))) (r' := fun a b => decide (wE n1 n2 g1 g2 (6 * a + b) = 0) || decide (R ≤ wE n1 n2 g1 g2 (6 * a + b))) (fun a b ha hb => by
      unfold rs
      rw [decide_eq_true ha, decide_eq_true hb]
      have := wR_at (n1 := n1) (n2 := n2) (g1 := g1) (g2 := g2) (R := R - 1) (by omega) (6 * a + b)
      rw [show R - 1 + 1 = R by omega] at this
      rw [decide_eq_decide.mpr this, Bool.decide_or]
      rfl), ← hf] at h1
    exact h1
  have hhg : R ≠ 0 → hg f = true := by
    intro h0
    obtain ⟨h1, -⟩ := wR_go 37 h0 hR.symm
    unfold gok at h1
    rw [Bool.and_eq_true] at h1
    rw [hf]
    exact h1.2
  have h4 : k = 0 ∨ k = 1 ∨ k = 2 ∨ k = 3 := by omega
  rcases h4 with rfl | rfl | h23
  · refine op_sc W (z01 (decide (R = 0))) (fun Y F A hC => ?_) (fun Y F A hM => ?_)
    · obtain ⟨F1, A1, a1, a2, a3, a4, a5, a6⟩ := clas Y F A hC
      refine ⟨F1, A1, [47, 48, 49], [4502, 4503], a6 _ ?_, a1, a2, rfl, rfl⟩
      cases decide (R = 0) with
      | true =>
        repeat (refine ev_np [] rfl rfl rfl ?_)
        exact ev_ri rfl rfl
      | false =>
        repeat (refine ev_np [] rfl rfl rfl ?_)
        exact ev_ri rfl rfl
    · obtain ⟨A1, a1, a2, a3⟩ := model Y F A hM
      refine ⟨A1, [70], a3 _ ?_, a1, rfl⟩
      repeat (refine ev_np [] rfl rfl rfl ?_)
      by_cases e : R = 0
      · rw [e]
        repeat (refine ev_np [] rfl rfl rfl ?_)
        exact ev_ri rfl rfl
      · refine ev_it (nI_ne0 (by omega) (by omega)) ?_
        repeat (refine ev_np [] rfl rfl rfl ?_)
        exact ev_ri rfl (by rw [decide_eq_false e]; rfl)
  · refine op_sc W (nI R) (fun Y F A hC => ?_) (fun Y F A hM => ?_)
    · obtain ⟨F1, A1, a1, a2, a3, a4, a5, a6⟩ := clas Y F A hC
      refine ⟨F1, A1, [47, 48, 49], [4502, 4503], a6 _ ?_, a1, a2, rfl, rfl⟩
      repeat (first | refine ev_np [] rfl rfl rfl ?_ | refine ev_grs [] rfl rfl (by rfl) (by rfl) ?_)
      refine ev_vc rfl (by rfl) (by rfl) rfl (c_Rounds_roundOf 78 a3 (s := 0) (t := 0) (by decide) (by decide)) ?_
      exact ev_ri rfl (by rw [hR])
    · obtain ⟨A1, a1, a2, a3⟩ := model Y F A hM
      refine ⟨A1, [70], a3 _ ?_, a1, rfl⟩
      repeat (refine ev_np [] rfl rfl rfl ?_)
      exact ev_ri rfl rfl
  · have hk2 : 2 ≤ k := by omega
    refine op_sc W (if R = 0 then (if k = 2 then -9 else 0) else (if k = 2 then nI (fl f) else nI (f (fl f)))) (fun Y F A hC => ?_) (fun Y F A hM => ?_)
    · obtain ⟨F1, A1, a1, a2, a3, a4, a5, a6⟩ := clas Y F A hC
      refine ⟨F1, A1, [47, 48, 49], [4502, 4503], a6 _ ?_, a1, a2, rfl, rfl⟩
      rcases h23 with rfl | rfl
      · repeat (first | refine ev_np [] rfl rfl rfl ?_ | refine ev_grs [] rfl rfl (by rfl) (by rfl) ?_)
        refine ev_vc rfl (by rfl) (by rfl) rfl (?_ : xa_rn xa_ms 79 n_Rounds_whyLetter [.ref 45] (hp Y F1 A1) (some (.int (F1 45 2))) (hp Y F1 A1)) ?_
        · refine rn_in m_Rounds_whyLetter rfl ⟨rfl, rfl⟩ ?_
          show ev _ t_Rounds_whyLetter 0 [.ref 45] [] _ _
          repeat (refine ev_np [] rfl rfl rfl ?_)
          refine ev_gi rfl (by rfl) (by rfl) ?_
          exact ev_ri rfl rfl
        · repeat (refine ev_np [] rfl rfl rfl ?_)
          refine ev_ri rfl ?_
          rw [a4]
          rfl
      · repeat (first | refine ev_np [] rfl rfl rfl ?_ | refine ev_grs [] rfl rfl (by rfl) (by rfl) ?_)
        refine ev_vc rfl (by rfl) (by rfl) rfl (?_ : xa_rn xa_ms 79 n_Rounds_whySide [.ref 45] (hp Y F1 A1) (some (.int (F1 45 3))) (hp Y F1 A1)) ?_
        · refine rn_in m_Rounds_whySide rfl ⟨rfl, rfl⟩ ?_
          show ev _ t_Rounds_whySide 0 [.ref 45] [] _ _
          repeat (refine ev_np [] rfl rfl rfl ?_)
          refine ev_gi rfl (by rfl) (by rfl) ?_
          exact ev_ri rfl rfl
        · refine ev_ri rfl ?_
          rw [a5]
          rfl
    · obtain ⟨A1, a1, a2, a3⟩ := model Y F A hM
      refine ⟨A1, [70], a3 _ ?_, a1, rfl⟩
      have hM1 := (hM.thrown 0).keep a1 (sF.rf (L := [])) ⟨rfl, rfl⟩
      repeat (refine ev_np [] rfl rfl rfl ?_)
      refine ev_it (nI_le (a := 2) hk2 (by omega)) ?_
      repeat (refine ev_np [73] rfl rfl rfl ?_)
      by_cases e : R = 0
      · rw [e, if_pos rfl]
        rcases h23 with rfl | rfl
        · repeat (refine ev_np [] rfl rfl rfl ?_)
          exact ev_ri rfl rfl
        · repeat (refine ev_np [] rfl rfl rfl ?_)
          exact ev_ri rfl rfl
      · rw [if_neg e]
        have fin : ∀ l, l < 3 → f l ≠ 0 → fl f = l → ∀ v6 : Value, ev 79 t_Mo_stricter 73 [.ref 62, .int (nI i), .int (nI j), .int (nI k), .int (nI R), .int (nI l), v6] [] (hp Y (uF F 62 0 0) A1) (some (.int (if k = 2 then nI (fl f) else nI (f (fl f)))), hp Y (uF F 62 0 0) A1) := by
          intro l hl h0 hfl v6
          have := fle l
          rw [hfl]
          repeat (refine ev_np [] rfl rfl rfl ?_)
          refine ev_ie (nI_ge (b := 3) hl (by omega)) ?_
          repeat (refine ev_np [] rfl rfl rfl ?_)
          refine ev_ie (nI_nle (by omega) (by omega)) ?_
          repeat (refine ev_np [] rfl rfl rfl ?_)
          refine ev_vc rfl (by rfl) (by rfl) rfl (why Y _ A1 l hM1 a2 hl e) ?_
          repeat (refine ev_np [] rfl rfl rfl ?_)
          refine ev_ie (nI_nle (by omega) (by omega)) ?_
          rcases h23 with rfl | rfl
          · repeat (refine ev_np [] rfl rfl rfl ?_)
            exact ev_ri rfl rfl
          · repeat (refine ev_np [] rfl rfl rfl ?_)
            exact ev_ri rfl rfl
        have skip : ∀ l, l < 3 → f l = 0 → ∀ (v6 : Value) q, (∀ v6 : Value, ev 79 t_Mo_stricter 73 [.ref 62, .int (nI i), .int (nI j), .int (nI k), .int (nI R), .int (nI (l + 1)), v6] [] (hp Y (uF F 62 0 0) A1) q) → ev 79 t_Mo_stricter 73 [.ref 62, .int (nI i), .int (nI j), .int (nI k), .int (nI R), .int (nI l), v6] [] (hp Y (uF F 62 0 0) A1) q := by
          intro l hl h0 v6 q hq
          rw [nI_succ] at hq
          repeat (refine ev_np [] rfl rfl rfl ?_)
          refine ev_ie (nI_ge (b := 3) hl (by omega)) ?_
          repeat (refine ev_np [] rfl rfl rfl ?_)
          refine ev_ie (nI_nle (by omega) (by omega)) ?_
          repeat (refine ev_np [] rfl rfl rfl ?_)
          refine ev_vc rfl (by rfl) (by rfl) rfl (why Y _ A1 l hM1 a2 hl e) ?_
          rw [h0]
          repeat (refine ev_np [73] rfl rfl rfl ?_)
          exact hq _
        have hh := hhg e
        by_cases f0 : f 0 = 0
        · refine skip 0 (by decide) f0 _ _ (fun v6 => ?_)
          by_cases f1 : f 1 = 0
          · refine skip 1 (by decide) f1 _ _ (fun v6 => ?_)
            refine fin 2 (by decide) ?_ ?_ _
            · unfold hg at hh
              simpa [f0, f1] using hh
            · simp [fl, f0, f1]
          · exact fin 1 (by decide) f1 (by simp [fl, f0, f1]) _
        · exact fin 0 (by decide) f0 (by simp [fl, f0]) _
end OPS4
end
section
/-! ===== call: type ===== -/
/-- the byte of a long, k from the right -/
def cby (v : Int64) (k : Nat) : Int32 := (v.toUInt64 >>> ((8 * nI k).toInt64.toUInt64 &&& Int64.toUInt64 63)).toInt64.toInt32 &&& 255
def mby (v : Int64) (k : Nat) : Int32 := ((v >>> ((8 * nI k).toInt64 &&& 63)) &&& Int64.ofNat 255).toInt32
theorem cby_n (v : Int64) (k : Nat) : ∃ j : Nat, j < 256 ∧ cby v k = nI j := pk_andE _ 8 (by decide)
theorem by_bits {x : BitVec 64} {n : Nat} (hn : n ≤ 56) : (x >>> n).setWidth 32 &&& 255#32 = ((x.sshiftRight n) &&& 255#64).setWidth 32 := by
  ext i hi
  have h1 : (255#32).getLsbD i = decide (i < 8) := by
    have := BitVec.getLsbD_ofNat 32 255 i
    rw [this, show (255 : Nat) = 2 ^ 8 - 1 from rfl, Nat.testBit_two_pow_sub_one]
    simp [hi]
  have h2 : (255#64).getLsbD i = decide (i < 8) := by
    have := BitVec.getLsbD_ofNat 64 255 i
    rw [this, show (255 : Nat) = 2 ^ 8 - 1 from rfl, Nat.testBit_two_pow_sub_one]
    simp [show i < 64 by omega]
  by_cases h8 : i < 8
  · simp [← BitVec.getLsbD_eq_getElem, h1, h2, h8, BitVec.getLsbD_sshiftRight, show i < 64 by omega, show n + i < 64 by omega, hi, show ¬ 64 ≤ i by omega]
  · simp [← BitVec.getLsbD_eq_getElem, h1, h2, h8]
theorem by_gen (v s : Int64) (t : UInt64) {n : Nat} (hn : n ≤ 56) (h1 : (s.toBitVec.smod 64#64).toNat = n) (h2 : (t.toBitVec % 64#64).toNat = n) : ((v >>> s) &&& Int64.ofNat 255).toInt32 = (v.toUInt64 >>> t).toInt64.toInt32 &&& 255 := by
  apply Int32.toBitVec_inj.mp
  rw [Int32.toBitVec_and, Int64.toBitVec_toInt32, Int64.toBitVec_toInt32, Int64.toBitVec_and, Int64.toBitVec_shiftRight, UInt64.toBitVec_toInt64, UInt64.toBitVec_shiftRight, Int64.toBitVec_toUInt64]
  rw [BitVec.signExtend_eq_setWidth_of_le _ (by decide), BitVec.signExtend_eq_setWidth_of_le _ (by decide)]
  rw [BitVec.sshiftRight_eq', show ∀ a b : BitVec 64, a >>> b = a >>> b.toNat from fun _ _ => rfl]
  have e1 : (s.toBitVec.smod (OfNat.ofNat 64)).toNat = n := h1
  have e2 : (t.toBitVec % (OfNat.ofNat 64)).toNat = n := h2
  rw [e1, e2]
  exact (by_bits hn).symm
theorem cby_mby (v : Int64) {k : Nat} (hk : k < 8) : mby v k = cby v k := by
  unfold mby cby
  have h : k = 0 ∨ k = 1 ∨ k = 2 ∨ k = 3 ∨ k = 4 ∨ k = 5 ∨ k = 6 ∨ k = 7 := by omega
  rcases h with rfl | rfl | rfl | rfl | rfl | rfl | rfl | rfl
  · exact by_gen v _ _ (n := 0) (by decide) (by decide) (by decide)
  · exact by_gen v _ _ (n := 8) (by decide) (by decide) (by decide)
  · exact by_gen v _ _ (n := 16) (by decide) (by decide) (by decide)
  · exact by_gen v _ _ (n := 24) (by decide) (by decide) (by decide)
  · exact by_gen v _ _ (n := 32) (by decide) (by decide) (by decide)
  · exact by_gen v _ _ (n := 40) (by decide) (by decide) (by decide)
  · exact by_gen v _ _ (n := 48) (by decide) (by decide) (by decide)
  · exact by_gen v _ _ (n := 56) (by decide) (by decide) (by decide)
def bN (v : Int64) (k : Nat) : Nat := (cby v k).toNatClampNeg
theorem bN_lt (v : Int64) (k : Nat) : bN v k < 256 := by
  obtain ⟨j, hj, h⟩ := cby_n v k
  unfold bN
  rw [h, nI_clamp (by omega)]
  exact hj
theorem cby_b (v : Int64) (k : Nat) : cby v k = nI (bN v k) := by
  obtain ⟨j, hj, h⟩ := cby_n v k
  unfold bN
  rw [h, nI_clamp (by omega)]
theorem n18 (x : Int32) : (x < 1 ∨ 8 < x) ∨ ∃ k, 1 ≤ k ∧ k ≤ 8 ∧ x = nI k := by
  rcases pk_ix x (n := 9) (by decide) with h | h | ⟨k, hk, rfl⟩
  · left; left
    rw [Int32.lt_iff_toInt_lt] at h ⊢
    have : (1 : Int32).toInt = 1 := by decide
    have : (0 : Int32).toInt = 0 := by decide
    omega
  · left; right
    rw [Int32.le_iff_toInt_le, nI_toInt (by omega)] at h
    rw [Int32.lt_iff_toInt_lt]
    have : (8 : Int32).toInt = 8 := by decide
    omega
  · by_cases h0 : k = 0
    · subst h0
      left; left
      decide
    · right
      exact ⟨k, by omega, by omega, rfl⟩
def kv (n m : Nat) : Int32 := if m < n then nI (n - 1 - m) else -1
theorem kv_s {n m : Nat} (h : m < n) : kv n m + (-1) = kv n (m + 1) := by
  unfold kv
  rw [if_pos h]
  by_cases h2 : m + 1 < n
  · rw [if_pos h2, show n - 1 - m = n - 1 - (m + 1) + 1 by omega, pk_m1]
  · rw [if_neg h2, show n - 1 - m = 0 by omega]
    decide
def sType (S : SP) (v : Int64) (n : Nat) : SP := ((S.1.1 + n, fun j => if S.1.1 ≤ j then bN v (n - 1 - (j - S.1.1)) else S.1.2 j), S.2)
section TYPE
variable {S : SP}
theorem sType_wf (W : Wf S) (v : Int64) {n : Nat} (h : S.1.1 + n ≤ 300) : Wf (sType S v n) := by
  refine ⟨⟨h, fun j => ?_⟩, W.2⟩
  show (if S.1.1 ≤ j then bN v (n - 1 - (j - S.1.1)) else S.1.2 j) < 256
  split
  · exact bN_lt v _
  · exact W.1.2 j
theorem c_Text_append {Y : Nat × (Nat → Int32)} {F A : Nat → Nat → Int32} (d : Nat) {T : Nat} {t : Nat → Nat} (v : Int64) {n : Nat} (h1 : 1 ≤ n) (h8 : n ≤ 8) (hT : T + n ≤ 300) (hF : F 32 1 = nI T) (hA : ∀ j, j < T → A 33 j = nI (t j)) : ∃ F' A', xa_rn xa_ms (d + 1) n_Text_append [.ref 32, .long v, .int (nI n)] (hp Y F A) (some (.int 1)) (hp Y F' A') ∧ sA [33] A A' ∧ sF [3201] F F' ∧ F' 32 1 = nI (T + n) ∧ ∀ j, j < T + n → A' 33 j = nI (if T ≤ j then bN v (n - 1 - (j - T)) else t j) := by
  obtain ⟨⟨F1, A1⟩, ⟨i1, i2, i3, i4⟩, h3⟩ := lp_ex (α := (Nat → Nat → Int32) × (Nat → Nat → Int32)) (fun m B => sA [33] A B.2 ∧ sF [3201] F B.1 ∧ B.1 32 1 = nI (T + m) ∧ ∀ j, j < T + m → B.2 33 j = nI (if T ≤ j then bN v (n - 1 - (j - T)) else t j)) (fun m B q => ev d t_Text_append 19 [.ref 32, .long v, .float 0, .int (nI n), .int (kv n m)] [] (hp Y B.1 B.2) q) n (fun m B hm hI => by
    obtain ⟨i1, i2, i3, i4⟩ := hI
    refine ⟨(uF B.1 32 1 (nI (T + m) + 1), va_up B.2 33 (upd (B.2 33) (T + m) (cby v (n - 1 - m)))), ⟨i1.tr (sA.up (by decide)), i2.tr (sF.up (by decide)), by dsimp only; rw [uF_s, nI_1]; rfl, fun j hj => ?_⟩, fun q hq => ?_⟩
    · dsimp only
      rw [va_up_s]
      unfold upd
      by_cases e : j = T + m
      · rw [if_pos e, if_pos (by omega), cby_b, show j - T = m by omega]
      · rw [if_neg e]
        exact i4 j (by omega)
    · rw [← kv_s hm, show kv n m = nI (n - 1 - m) from if_pos hm] at hq
      rw [show kv n m = nI (n - 1 - m) from if_pos hm]
      repeat (refine ev_np [] rfl rfl rfl ?_)
      refine ev_ie (nI_pos (by omega)) ?_
      repeat (first | refine ev_np [] rfl rfl rfl ?_ | refine ev_grs [] rfl rfl (by rfl) (by rfl) ?_)
      refine ev_gi rfl (by rfl) (by rfl) ?_
      rw [i3]
      repeat (refine ev_np [] rfl rfl rfl ?_)
      refine ev_am rfl (by rfl) (j := T + m) rfl (by omega) rfl ?_
      repeat (refine ev_np [] rfl rfl rfl ?_)
      refine ev_gi rfl (by rfl) (by rfl) ?_
      rw [i3]
      repeat (refine ev_np [] rfl rfl rfl ?_)
      refine ev_pf rfl (by rfl) ⟨by rfl, by rfl⟩ ?_
      repeat (refine ev_np [19] rfl rfl rfl ?_)
      exact hq) n 0 (F, A) (by omega) ⟨sA.rf, sF.rf, hF, fun j hj => by rw [if_neg (by omega)]; exact hA j hj⟩
  refine ⟨F1, A1, ?_, i1, i2, i3, i4⟩
  refine rn_in m_Text_append rfl ⟨rfl, rfl⟩ ?_
  show ev _ t_Text_append 0 [.ref 32, .long v, .float 0, .int (nI n), .float 0] [] _ _
  repeat (refine ev_np [] rfl rfl rfl ?_)
  refine ev_gi rfl (by rfl) (by rfl) ?_
  rw [hF]
  repeat (refine ev_np [] rfl rfl rfl ?_)
  refine ev_it (show nI n ≤ 300 - nI T by rw [show (300 : Int32) = nI 300 from rfl, pk_sub (by omega)]; exact nI_le (by omega) (by omega)) ?_
  repeat (refine ev_np [19] rfl rfl rfl ?_)
  rw [nI_m1 h1]
  have := h3 (some (.int 1), hp Y F1 A1)
  rw [show kv n 0 = nI (n - 1) from if_pos (by omega), show kv n n = -1 from if_neg (by omega)] at this
  refine this ?_
  repeat (refine ev_np [] rfl rfl rfl ?_)
  exact ev_rz rfl rfl (Or.inr rfl)
theorem op_type (W : Wf S) (v : Int64) (x : Int32) : OP n_MM_type n_Mo_type [.long v, .int x] S := by
  have wT := W.1.1
  rcases n18 x with hx | ⟨n, h1, h8, rfl⟩
  · refine op_ro W (-1) (fun Y F A hC => ?_) (fun Y F A hM => ?_)
    · refine rn_in m_MM_type rfl ⟨rfl, rfl⟩ ?_
      show ev _ t_MM_type 0 [.ref 9, .long v, .float 0, .int x] [] _ _
      repeat (refine ev_np [] rfl rfl rfl ?_)
      refine ev_if (fun c => ?_) (fun c => ?_)
      · repeat (refine ev_np [] rfl rfl rfl ?_)
        exact ev_ri rfl rfl
      · repeat (refine ev_np [] rfl rfl rfl ?_)
        refine ev_ie (fun z => ?_) ?_
        · rcases hx with hx | hx
          · exact c hx
          · exact absurd (show x ≤ 8 from z) (Int32.not_le.mpr hx)
        repeat (refine ev_np [] rfl rfl rfl ?_)
        exact ev_ri rfl rfl
    · refine rn_in m_Mo_type rfl ⟨rfl, rfl⟩ ?_
      show ev _ t_Mo_type 0 [.ref 62, .long v, .float 0, .int x, .float 0] [] _ _
      repeat (refine ev_np [] rfl rfl rfl ?_)
      refine ev_pf rfl (by rfl) ⟨by rfl, by rfl⟩ ?_
      repeat (refine ev_np [] rfl rfl rfl ?_)
      refine ev_ca rfl (c_Mo_in 78 _ _ _) ?_
      have e : (decide (¬ x < 1) && decide (¬ (8 : Int32) < x)) = false := by
        rcases hx with hx | hx
        · simp [hx]
        · simp [hx]
      rw [e]
      repeat (refine ev_np [] rfl rfl rfl ?_)
      exact ev_ri rfl rfl
  have e18 : (decide (¬ nI n < 1) && decide (¬ (8 : Int32) < nI n)) = true := by
    simp [show ¬ nI n < 1 from nI_nlt (b := 1) h1 (by omega), show ¬ (8 : Int32) < nI n from nI_nlt (a := 8) h8 (by omega)]
  by_cases hT : S.1.1 + n ≤ 300
  · refine ⟨nI (S.1.1 + n), sType S v n, sType_wf W v hT, fun Y F A hC => ?_, fun Y F A hM => ?_⟩
    · obtain ⟨F1, A1, b1, b2, b3, b4, b5⟩ := c_Text_append (Y := Y) 78 v h1 h8 hT hC.1.1 hC.1.2
      refine ⟨F1, A1, ?_, ?_, KM.of b3 b2 ⟨rfl, rfl⟩⟩
      · refine rn_in m_MM_type rfl ⟨rfl, rfl⟩ ?_
        show ev _ t_MM_type 0 [.ref 9, .long v, .float 0, .int (nI n)] [] _ _
        repeat (refine ev_np [] rfl rfl rfl ?_)
        refine ev_ie (nI_nlt (b := 1) h1 (by omega)) ?_
        repeat (refine ev_np [] rfl rfl rfl ?_)
        refine ev_it (nI_le (b := 8) h8 (by omega)) ?_
        repeat (first | refine ev_np [] rfl rfl rfl ?_ | refine ev_grs [] rfl rfl (by rfl) (by rfl) ?_)
        refine ev_vc rfl (by rfl) (by rfl) rfl (b1) ?_
        repeat (first | refine ev_np [] rfl rfl rfl ?_ | refine ev_grs [] rfl rfl (by rfl) (by rfl) ?_)
        refine ev_vc rfl (by rfl) (by rfl) rfl (c_Text_size 78) ?_
        repeat (refine ev_np [] rfl rfl rfl ?_)
        exact ev_ri rfl b4
      · obtain ⟨-, b, ⟨c1, c2, c3⟩, d1, d2, d3⟩ := hC
        exact ⟨⟨b4, b5⟩, fun k hk => (b k hk).frame (b3 _ _ (by simp; omega)) (b2 _ (by simp; omega)) (b2 _ (by simp; omega)), ⟨by rw [b3 39 1 (by decide)]; exact c1, by rw [b3 39 2 (by decide)]; exact c2, by rw [b2 40 (by decide)]; exact c3⟩, d1.frame (b3 _ _ (by decide)) (b2 _ (by decide)) (b2 _ (by decide)), by rw [b3 58 1 (by decide)]; exact d2, by rw [b3 58 2 (by decide)]; exact d3⟩
    · have hM0 := hM.thrown 0
      obtain ⟨⟨F1, A1⟩, ⟨i1, i2, i3, i4, i5⟩, h3⟩ := lp_ex (α := (Nat → Nat → Int32) × (Nat → Nat → Int32)) (fun m B => sA [65] A B.2 ∧ sF [6204] (uF F 62 0 0) B.1 ∧ B.1 62 4 = nI (S.1.1 + m) ∧ (∀ j, j < S.1.1 + m → B.2 65 j = nI (if S.1.1 ≤ j then bN v (n - 1 - (j - S.1.1)) else S.1.2 j)) ∧ KC (uF F 62 0 0) A B.1 B.2) (fun m B q => ev 79 t_Mo_type 37 [.ref 62, .long v, .float 0, .int (nI n), .int (kv n m)] [] (hp Y B.1 B.2) q) n (fun m B hm hI => by
        obtain ⟨i1, i2, i3, i4, i5⟩ := hI
        refine ⟨(uF B.1 62 4 (nI (S.1.1 + m) + 1), va_up B.2 65 (upd (B.2 65) (S.1.1 + m) (cby v (n - 1 - m)))), ⟨i1.tr (sA.up (by decide)), i2.tr (sF.up (by decide)), by dsimp only; rw [uF_s, nI_1]; rfl, fun j hj => ?_, i5.tr ((KC.upA _ _ (by decide) _).tr (KC.fld _ _ _ _))⟩, fun q hq => ?_⟩
        · dsimp only
          rw [va_up_s]
          unfold upd
          by_cases e : j = S.1.1 + m
          · rw [if_pos e, if_pos (by omega), cby_b, show j - S.1.1 = m by omega]
          · rw [if_neg e]
            exact i4 j (by omega)
        · rw [← kv_s hm, show kv n m = nI (n - 1 - m) from if_pos hm] at hq
          rw [show kv n m = nI (n - 1 - m) from if_pos hm]
          repeat (refine ev_np [] rfl rfl rfl ?_)
          refine ev_ie (nI_pos (by omega)) ?_
          repeat (first | refine ev_np [] rfl rfl rfl ?_ | refine ev_grs [] rfl rfl (by rfl) (by rfl) ?_)
          refine ev_gi rfl (by rfl) (by rfl) ?_
          rw [i3]
          repeat (refine ev_np [] rfl rfl rfl ?_)
          refine ev_am rfl (by rfl) (j := S.1.1 + m) rfl (by omega) rfl ?_
          repeat (refine ev_np [] rfl rfl rfl ?_)
          refine ev_gi rfl (by rfl) (by rfl) ?_
          rw [i3]
          repeat (refine ev_np [] rfl rfl rfl ?_)
          refine ev_pf rfl (by rfl) ⟨by rfl, by rfl⟩ ?_
          repeat (refine ev_np [37] rfl rfl rfl ?_)
          rw [← cby_mby v (show n - 1 - m < 8 by omega)] at hq
          exact hq) n 0 (uF F 62 0 0, A) (by omega) ⟨sA.rf, sF.rf, hM0.1.1, fun j hj => by rw [if_neg (by omega)]; exact hM0.1.2 j hj, KC.rf⟩
      dsimp only at i1 i2 i3 i4 i5 h3
      refine ⟨F1, A1, ?_, ?_, (KC.fld F A 0 0).tr i5⟩
      · refine rn_in m_Mo_type rfl ⟨rfl, rfl⟩ ?_
        show ev _ t_Mo_type 0 [.ref 62, .long v, .float 0, .int (nI n), .float 0] [] _ _
        repeat (refine ev_np [] rfl rfl rfl ?_)
        refine ev_pf rfl (by rfl) ⟨by rfl, by rfl⟩ ?_
        repeat (refine ev_np [] rfl rfl rfl ?_)
        refine ev_ca rfl (c_Mo_in 78 _ _ _) ?_
        rw [e18]
        repeat (refine ev_np [] rfl rfl rfl ?_)
        refine ev_gi rfl (by rfl) (by rfl) ?_
        rw [hM0.1.1]
        repeat (refine ev_np [] rfl rfl rfl ?_)
        refine ev_it (show nI S.1.1 + nI n ≤ 300 by rw [nI_add]; exact nI_le (b := 300) hT (by omega)) ?_
        repeat (refine ev_np [37] rfl rfl rfl ?_)
        rw [nI_m1 h1]
        have := h3 (some (.int (nI (S.1.1 + n))), hp Y F1 A1)
        rw [show kv n 0 = nI (n - 1) from if_pos (by omega), show kv n n = -1 from if_neg (by omega)] at this
        refine this ?_
        repeat (refine ev_np [] rfl rfl rfl ?_)
        refine ev_gi rfl (by rfl) (by rfl) ?_
        exact ev_ri rfl i3
      · obtain ⟨-, b, ⟨c1, c2, c3⟩, d1, d2, d3⟩ := hM0
        exact ⟨⟨i3, i4⟩, fun k hk => (b k hk).frame (i1 _ (by decide)) (i1 _ (by decide)), ⟨by rw [i2 62 12 (by decide)]; exact c1, by rw [i2 62 14 (by decide)]; exact c2, by rw [i1 66 (by decide)]; exact c3⟩, d1.frame (i1 _ (by decide)) (i1 _ (by decide)), by rw [i2 62 23 (by decide)]; exact d2, by rw [i2 62 24 (by decide)]; exact d3⟩
  · refine op_ro W (-3) (fun Y F A hC => ?_) (fun Y F A hM => ?_)
    · refine rn_in m_MM_type rfl ⟨rfl, rfl⟩ ?_
      show ev _ t_MM_type 0 [.ref 9, .long v, .float 0, .int (nI n)] [] _ _
      repeat (refine ev_np [] rfl rfl rfl ?_)
      refine ev_ie (nI_nlt (b := 1) h1 (by omega)) ?_
      repeat (refine ev_np [] rfl rfl rfl ?_)
      refine ev_it (nI_le (b := 8) h8 (by omega)) ?_
      repeat (first | refine ev_np [] rfl rfl rfl ?_ | refine ev_grs [] rfl rfl (by rfl) (by rfl) ?_)
      refine ev_vc rfl (by rfl) (by rfl) rfl (?_ : xa_rn xa_ms 79 n_Text_append [.ref 32, .long v, .int (nI n)] (hp Y F A) (some (.int 0)) (hp Y F A)) ?_
      · refine rn_in m_Text_append rfl ⟨rfl, rfl⟩ ?_
        show ev _ t_Text_append 0 [.ref 32, .long v, .float 0, .int (nI n), .float 0] [] _ _
        repeat (refine ev_np [] rfl rfl rfl ?_)
        refine ev_gi rfl (by rfl) (by rfl) ?_
        rw [hC.1.1]
        repeat (refine ev_np [] rfl rfl rfl ?_)
        refine ev_ie (show ¬ nI n ≤ 300 - nI S.1.1 by rw [show (300 : Int32) = nI 300 from rfl, pk_sub wT]; exact nI_ge (by omega) (by omega)) ?_
        repeat (refine ev_np [] rfl rfl rfl ?_)
        exact ev_rz rfl rfl (Or.inl rfl)
      · repeat (refine ev_np [] rfl rfl rfl ?_)
        exact ev_ri rfl rfl
    · have hM0 := hM.thrown 0
      refine rn_in m_Mo_type rfl ⟨rfl, rfl⟩ ?_
      show ev _ t_Mo_type 0 [.ref 62, .long v, .float 0, .int (nI n), .float 0] [] _ _
      repeat (refine ev_np [] rfl rfl rfl ?_)
      refine ev_pf rfl (by rfl) ⟨by rfl, by rfl⟩ ?_
      repeat (refine ev_np [] rfl rfl rfl ?_)
      refine ev_ca rfl (c_Mo_in 78 _ _ _) ?_
      rw [e18]
      repeat (refine ev_np [] rfl rfl rfl ?_)
      refine ev_gi rfl (by rfl) (by rfl) ?_
      rw [hM0.1.1]
      repeat (refine ev_np [] rfl rfl rfl ?_)
      refine ev_ie (show ¬ nI S.1.1 + nI n ≤ 300 by rw [nI_add]; exact nI_ge (a := 300) (by omega) (by omega)) ?_
      repeat (refine ev_np [] rfl rfl rfl ?_)
      exact ev_ri rfl rfl
end TYPE
end
section
/-! ===== plans made small: what is reached ===== -/
def one (w : Nat → Nat) (s t : Nat) : Bool := decide (w (6 * s + t) = 0) && decide (w (6 * t + s) = 0)
/-- the least of those that are one with s, of s and the j before it -/
def lf (w : Nat → Nat) (s : Nat) : Nat → Nat
  | 0 => s
  | j + 1 => bif one w s (s - 1 - j) then s - 1 - j else lf w s j
theorem lf_le (w : Nat → Nat) (s : Nat) : ∀ j, lf w s j ≤ s := by
  intro j
  induction j with
  | zero => exact Nat.le_refl s
  | succ j ih =>
    simp only [lf]
    cases one w s (s - 1 - j)
    · exact ih
    · show s - 1 - j ≤ s
      omega
def lst (n : Nat) (w : Nat → Nat) (s : Nat) : Nat := if s < n then lf w s s else s
theorem lst_le (n : Nat) (w : Nat → Nat) (s : Nat) : lst n w s ≤ s := by
  unfold lst
  split
  · exact lf_le w s s
  · exact Nat.le_refl s
def nxt (g : Nat → Nat → Nat → Nat) (ls : Nat → Nat) (s t : Nat) : Bool := (List.range 3).any fun l => (List.range 6).any fun t' => decide (1 ≤ g s l t') && (t == ls t')
def stp (g : Nat → Nat → Nat → Nat) (ls : Nat → Nat) (s : Nat) (u : Nat → Bool) : Nat → Bool := fun t => u t || (u s && nxt g ls s t)
def trn (g : Nat → Nat → Nat → Nat) (ls : Nat → Nat) : Nat → (Nat → Bool) → Nat → Bool
  | 0, u => u
  | s + 1, u => stp g ls s (trn g ls s u)
def rch (g : Nat → Nat → Nat → Nat) (ls : Nat → Nat) (n : Nat) : Nat → Nat → Bool
  | 0 => fun t => t == 0
  | m + 1 => trn g ls n (rch g ls n m)
section RCH
variable {g : Nat → Nat → Nat → Nat} {ls : Nat → Nat} {n : Nat}
theorem trn_le {u : Nat → Bool} {t : Nat} (h : u t = true) : ∀ k, trn g ls k u t = true := by
  intro k
  induction k with
  | zero => exact h
  | succ k ih => simp only [trn, stp]; rw [ih]; rfl
theorem trn_mono {u : Nat → Bool} {t k : Nat} (h : trn g ls k u t = true) : ∀ m, trn g ls (k + m) u t = true := by
  intro m
  induction m with
  | zero => exact h
  | succ m ih =>
    show trn g ls (k + m + 1) u t = true
    simp only [trn, stp]
    rw [ih]
    rfl
theorem nxt_in (hg : GW n g) (hl : ∀ t, ls t ≤ t) {s t : Nat} (h : nxt g ls s t = true) : t < n := by
  obtain ⟨l, -, h⟩ := List.any_eq_true.mp h
  obtain ⟨t', -, h⟩ := List.any_eq_true.mp h
  simp only [Bool.and_eq_true, decide_eq_true_eq, beq_iff_eq] at h
  have h1 := ((hg.2 s l t').2 (by omega)).2.2
  have h2 := hl t'
  omega
theorem trn_in (hg : GW n g) (hl : ∀ t, ls t ≤ t) {u : Nat → Bool} (hu : ∀ t, u t = true → t < n) : ∀ k t, trn g ls k u t = true → t < n := by
  intro k
  induction k with
  | zero => exact hu
  | succ k ih =>
    intro t h
    simp only [trn, stp, Bool.or_eq_true, Bool.and_eq_true] at h
    rcases h with h | ⟨-, h⟩
    · exact ih t h
    · exact nxt_in hg hl h
theorem rch_in (hg : GW n g) (hl : ∀ t, ls t ≤ t) : ∀ m t, rch g ls n m t = true → t < n := by
  intro m
  induction m with
  | zero =>
    intro t h
    have : t = 0 := by simpa [rch] using h
    have := hg.1.1
    omega
  | succ m ih => exact trn_in hg hl ih n
theorem rch_ext (hg : GW n g) (hl : ∀ t, ls t ≤ t) {m m' : Nat} (h : bm (rch g ls n m) = bm (rch g ls n m')) : rch g ls n m = rch g ls n m' := by
  funext t
  by_cases ht : t < 6
  · rw [← bm_bit (rch g ls n m) ht, ← bm_bit (rch g ls n m') ht, h]
  · have e : ∀ m, rch g ls n m t = false := fun m => by
      cases hr : rch g ls n m t with
      | false => rfl
      | true => have := rch_in hg hl m t hr; have := hg.1.2; omega
    rw [e, e]
theorem rch_keep {m : Nat} (h : rch g ls n (m + 1) = rch g ls n m) : ∀ k, rch g ls n (m + k) = rch g ls n m := by
  intro k
  induction k with
  | zero => rfl
  | succ k ih =>
    show trn g ls n (rch g ls n (m + k)) = _
    rw [ih]
    exact h
theorem rch_cnt (hg : GW n g) (hl : ∀ t, ls t ≤ t) : ∀ m, (∃ m0, m0 < m ∧ rch g ls n (m0 + 1) = rch g ls n m0) ∨ m + 1 ≤ cnt (rch g ls n m) 6 := by
  intro m
  induction m with
  | zero => right; show 0 + 1 ≤ cnt (fun t => t == 0) 6; decide
  | succ m ih =>
    rcases ih with ⟨m0, h1, h2⟩ | ih
    · exact Or.inl ⟨m0, by omega, h2⟩
    · by_cases e : rch g ls n (m + 1) = rch g ls n m
      · exact Or.inl ⟨m, by omega, e⟩
      · right
        have h3 : ∃ t, t < 6 ∧ rch g ls n m t = false ∧ rch g ls n (m + 1) t = true := by
          refine Classical.byContradiction fun hn => e ?_
          funext t
          cases ht : rch g ls n (m + 1) t with
          | false =>
            cases h4 : rch g ls n m t with
            | false => rfl
            | true => rw [← ht]; exact (trn_le h4 n)
          | true =>
            have h6 := rch_in hg hl _ t ht
            have := hg.1.2
            cases h4 : rch g ls n m t with
            | true => rfl
            | false => exact absurd ⟨t, by omega, h4, ht⟩ hn
        have := cnt_lt (f := rch g ls n m) (g := rch g ls n (m + 1)) 6 (fun k _ hk => trn_le hk n) h3
        omega
theorem rch_fix (hg : GW n g) (hl : ∀ t, ls t ≤ t) : rch g ls n 7 = rch g ls n 6 := by
  rcases rch_cnt hg hl 6 with ⟨m0, h1, h2⟩ | h
  · have h3 := rch_keep h2 (7 - m0)
    have h4 := rch_keep h2 (6 - m0)
    rw [show m0 + (7 - m0) = 7 by omega] at h3
    rw [show m0 + (6 - m0) = 6 by omega] at h4
    rw [h3, h4]
  · have := cnt_le (rch g ls n 6) 6
    omega
/-- what is reached is closed -/
theorem rch_cl (hg : GW n g) (hl : ∀ t, ls t ≤ t) {s t : Nat} (hs : rch g ls n 6 s = true) (h : nxt g ls s t = true) : rch g ls n 6 t = true := by
  have hsn := rch_in hg hl 6 s hs
  rw [← rch_fix hg hl]
  show trn g ls n (rch g ls n 6) t = true
  have h1 : trn g ls (s + 1) (rch g ls n 6) t = true := by
    simp only [trn, stp]
    rw [trn_le hs s, h]
    simp
  have := trn_mono h1 (n - (s + 1))
  rwa [show s + 1 + (n - (s + 1)) = n by omega] at this
end RCH
/-- the arrows, carried over one after the other -/
def cst (g : Nat → Nat → Nat → Nat) (ls : Nat → Nat) (u : Nat → Bool) (K : Nat) (a : Nat → Nat → Nat → Nat) : Nat → Nat → Nat → Nat := bif u (K / 18) then gset a (cnt u (K / 18)) (K / 6 % 3) (cnt u (ls (K % 6))) (max (a (cnt u (K / 18)) (K / 6 % 3) (cnt u (ls (K % 6)))) (g (K / 18) (K / 6 % 3) (K % 6))) else a
def cfo (g : Nat → Nat → Nat → Nat) (ls : Nat → Nat) (u : Nat → Bool) : Nat → Nat → Nat → Nat → Nat
  | 0 => fun _ _ _ => 0
  | K + 1 => cst g ls u K (cfo g ls u K)
theorem gset_same (a : Nat → Nat → Nat → Nat) (s l t : Nat) : gset a s l t (max (a s l t) 0) = a := by
  funext x y z
  unfold gset
  split
  · rename_i h
    obtain ⟨rfl, rfl, rfl⟩ := h
    omega
  · rfl
theorem cst_0 {g : Nat → Nat → Nat → Nat} {ls : Nat → Nat} {u : Nat → Bool} {K : Nat} {a : Nat → Nat → Nat → Nat} (h : u (K / 18) = false ∨ g (K / 18) (K / 6 % 3) (K % 6) = 0) : cst g ls u K a = a := by
  unfold cst
  rcases h with h | h
  · rw [h]; rfl
  · rw [h, gset_same]
    cases u (K / 18) <;> rfl
theorem cfo_skip {g : Nat → Nat → Nat → Nat} {ls : Nat → Nat} {u : Nat → Bool} {K : Nat} : ∀ m, (∀ k, K ≤ k → k < K + m → u (k / 18) = false ∨ g (k / 18) (k / 6 % 3) (k % 6) = 0) → cfo g ls u (K + m) = cfo g ls u K := by
  intro m
  induction m with
  | zero => intro _; rfl
  | succ m ih =>
    intro h
    show cst g ls u (K + m) (cfo g ls u (K + m)) = _
    rw [cst_0 (h (K + m) (by omega) (by omega))]
    exact ih (fun k h1 h2 => h k h1 (by omega))
theorem cnt_mono (f : Nat → Bool) {a b : Nat} (h : a ≤ b) : cnt f a ≤ cnt f b := by
  obtain ⟨c, rfl⟩ : ∃ c, b = a + c := ⟨b - a, by omega⟩
  clear h
  induction c with
  | zero => exact Nat.le_refl _
  | succ c ih =>
    show cnt f a ≤ cnt f (a + c) + _
    omega
theorem cnt_rank {f : Nat → Bool} {s N : Nat} (h : f s = true) (hs : s < N) : cnt f s < cnt f N := by
  have h1 := cnt_mono f (show s + 1 ≤ N from hs)
  simp only [cnt, h, cond_true] at h1
  omega
theorem cfo_wf {g : Nat → Nat → Nat → Nat} {ls : Nat → Nat} {n : Nat} (hg : GW n g) (hl : ∀ t, ls t ≤ t) : GW (cnt (rch g ls n 6) 6) (cfo g ls (rch g ls n 6) 108) := by
  obtain ⟨u, hu⟩ : ∃ u, u = rch g ls n 6 := ⟨_, rfl⟩
  have hn := hg.1.2
  have h0 : u 0 = true := by
    rw [hu]
    have key : ∀ m, rch g ls n m 0 = true := by
      intro m
      induction m with
      | zero => rfl
      | succ m ih => exact trn_le ih n
    exact key 6
  rw [← hu]
  refine ⟨⟨by have := cnt_rank h0 (show 0 < 6 by decide); omega, cnt_le u 6⟩, ?_⟩
  have key : ∀ K, K ≤ 108 → ∀ a b c, cfo g ls u K a b c ≤ 2 ∧ (cfo g ls u K a b c ≠ 0 → a < cnt u 6 ∧ b < 3 ∧ c < cnt u 6) := by
    intro K
    induction K with
    | zero => intro _ a b c; exact ⟨Nat.zero_le _, fun h => absurd rfl h⟩
    | succ K ih =>
      intro hK a b c
      have ih := ih (by omega)
      show cst g ls u K (cfo g ls u K) a b c ≤ 2 ∧ (cst g ls u K (cfo g ls u K) a b c ≠ 0 → _)
      by_cases e : u (K / 18) = false ∨ g (K / 18) (K / 6 % 3) (K % 6) = 0
      · rw [cst_0 e]
        exact ih a b c
      · have e1 : u (K / 18) = true := by
          cases h : u (K / 18) with
          | true => rfl
          | false => exact absurd (Or.inl h) e
        have e2 : g (K / 18) (K / 6 % 3) (K % 6) ≠ 0 := fun z => e (Or.inr z)
        obtain ⟨q1, q2⟩ := hg.2 (K / 18) (K / 6 % 3) (K % 6)
        have q3 := q2 e2
        unfold cst
        rw [e1, cond_true]
        unfold gset
        split
        · rename_i h
          obtain ⟨rfl, rfl, rfl⟩ := h
          refine ⟨by have := (ih (cnt u (K / 18)) (K / 6 % 3) (cnt u (ls (K % 6)))).1; omega, fun _ => ⟨cnt_rank e1 (by omega), by omega, cnt_rank ?_ (by have := hl (K % 6); omega)⟩⟩
          rw [hu]
          rw [hu] at e1
          refine rch_cl hg hl e1 ?_
          unfold nxt
          refine List.any_eq_true.mpr ⟨K / 6 % 3, List.mem_range.mpr (by omega), List.any_eq_true.mpr ⟨K % 6, List.mem_range.mpr (by omega), ?_⟩⟩
          simp only [Bool.and_eq_true, decide_eq_true_eq, beq_iff_eq]
          exact ⟨by omega, trivial⟩
        · exact ih a b c
  exact key 108 (Nat.le_refl _)
end
section
/-! ===== class Shrinker ===== -/
section SHR
variable {Y : Nat × (Nat → Int32)} {F A : Nat → Nat → Int32} {p n : Nat} {g : Nat → Nat → Nat → Nat} (d : Nat)
theorem kv_lt {n m : Nat} (h : m < n) : kv n m = nI (n - 1 - m) := if_pos h
theorem kv_end (n : Nat) : kv n n = -1 := if_neg (by omega)
theorem kv_0 {n : Nat} (h : 1 ≤ n) : nI n - 1 = kv n 0 := by
  rw [nI_m1 h, kv_lt (by omega)]
  rfl
theorem kv_00 (n : Nat) : nI n - 1 = kv n 0 := by
  by_cases h : 1 ≤ n
  · exact kv_0 h
  · rw [show n = 0 by omega]
    decide
theorem c_Shrinker_findLeast (hp0 : PL p) (hc : CP F A p n g) (hn : n ≤ 6) {w : Nat → Nat} (hw : WE A 49 w) (hwl : ∀ k, w k < 1000) : ∃ A', xa_rn xa_ms (d + 3) n_Shrinker_findLeast [.ref 50, .ref p, .ref 45] (hp Y F A) none (hp Y F A') ∧ sA [51] A A' ∧ ∀ s, s < 6 → A' 51 s = nI (lst n w s) := by
  have hp51 : ¬ p + 1 = 51 ∧ ¬ p + 2 = 51 := by
    rcases PL_in hp0 with rfl | rfl | rfl | rfl | rfl | rfl | rfl | rfl <;> decide
  obtain ⟨A1, ⟨i1, i2⟩, h3⟩ := lp_ex (α := Nat → Nat → Int32) (fun s B => sA [51] A B ∧ ∀ k, k < s → B 51 k = nI (lst n w k)) (fun s B q => ∀ v4 : Value, ev (d + 2) t_Shrinker_findLeast 2 [.ref 50, .ref p, .ref 45, .int (nI s), v4] [] (hp Y F B) q) 6 (fun s B hs hI => by
    obtain ⟨i1, i2⟩ := hI
    obtain ⟨B1, ⟨j1, j2, j3⟩, h3⟩ := lp_ex (α := Nat → Nat → Int32) (fun j C => sA [51] A C ∧ (∀ k, k < s → C 51 k = nI (lst n w k)) ∧ C 51 s = nI (if s < n then lf w s j else s)) (fun j C q => ev (d + 2) t_Shrinker_findLeast 20 [.ref 50, .ref p, .ref 45, .int (nI s), .int (kv s j)] [] (hp Y F C) q) s (fun j C hj hI => by
      obtain ⟨j1, j2, j3⟩ := hI
      have hcC : CP F C p n g := hc.frame rfl (j1 _ (by simp [hp51.1])) (j1 _ (by simp [hp51.2]))
      have hwC : WE C 49 w := fun k hk => by rw [j1 49 (by decide)]; exact hw k hk
      have head : ∀ q, ev (d + 2) t_Shrinker_findLeast 30 [.ref 50, .ref p, .ref 45, .int (nI s), .int (nI (s - 1 - j))] [.int (nI n), .int (nI s)] (hp Y F C) q → ev (d + 2) t_Shrinker_findLeast 20 [.ref 50, .ref p, .ref 45, .int (nI s), .int (kv s j)] [] (hp Y F C) q := by
        intro q hq
        rw [kv_lt hj]
        repeat (refine ev_np [] rfl rfl rfl ?_)
        refine ev_ie (nI_pos (by omega)) ?_
        repeat (refine ev_np [] rfl rfl rfl ?_)
        refine ev_vc rfl (by rfl) hp0.1 rfl (c_Plan_size (d + 1) hp0) ?_
        rw [hcC.1]
        exact hq
      by_cases hsn : s < n
      · cases ho : one w s (s - 1 - j) with
        | true =>
          refine ⟨va_up C 51 (upd (C 51) s (nI (s - 1 - j))), ⟨j1.tr (sA.up (by decide)), fun k hk => ?_, ?_⟩, fun q hq => head q ?_⟩
          · rw [va_up_s, pk_un (by omega)]
            exact j2 k hk
          · rw [va_up_s, pk_us, if_pos hsn]
            simp only [lf, ho, cond_true]
          · rw [← kv_s hj, kv_lt hj] at hq
            repeat (refine ev_np [] rfl rfl rfl ?_)
            refine ev_ie (nI_ge hsn (by omega)) ?_
            repeat (refine ev_np [] rfl rfl rfl ?_)
            refine ev_vc rfl (by rfl) (by rfl) rfl (c_Rounds_areOne d hwC hwl hs (show s - 1 - j < 6 by omega)) ?_
            rw [show (decide (w (6 * s + (s - 1 - j)) = 0) && decide (w (6 * (s - 1 - j) + s) = 0)) = true from ho]
            repeat (first | refine ev_np [] rfl rfl rfl ?_ | refine ev_grs [] rfl rfl (by rfl) (by rfl) ?_)
            refine ev_am rfl (by rfl) rfl hs rfl ?_
            repeat (refine ev_np [20] rfl rfl rfl ?_)
            exact hq
        | false =>
          refine ⟨C, ⟨j1, j2, ?_⟩, fun q hq => head q ?_⟩
          · rw [j3, if_pos hsn, if_pos hsn]
            simp only [lf, ho, cond_false]
          · rw [← kv_s hj, kv_lt hj] at hq
            repeat (refine ev_np [] rfl rfl rfl ?_)
            refine ev_ie (nI_ge hsn (by omega)) ?_
            repeat (refine ev_np [] rfl rfl rfl ?_)
            refine ev_vc rfl (by rfl) (by rfl) rfl (c_Rounds_areOne d hwC hwl hs (show s - 1 - j < 6 by omega)) ?_
            rw [show (decide (w (6 * s + (s - 1 - j)) = 0) && decide (w (6 * (s - 1 - j) + s) = 0)) = false from ho]
            repeat (refine ev_np [20] rfl rfl rfl ?_)
            exact hq
      · refine ⟨C, ⟨j1, j2, ?_⟩, fun q hq => head q ?_⟩
        · rw [j3, if_neg hsn, if_neg hsn]
        · rw [← kv_s hj, kv_lt hj] at hq
          repeat (refine ev_np [] rfl rfl rfl ?_)
          refine ev_it (nI_le (by omega) (by omega)) ?_
          repeat (refine ev_np [20] rfl rfl rfl ?_)
          exact hq) s 0 (va_up B 51 (upd (B 51) s (nI s))) (Nat.zero_add s) ⟨i1.tr (sA.up (by decide)), fun k hk => by rw [va_up_s, pk_un (by omega)]; exact i2 k hk, by
        rw [va_up_s, pk_us]
        split <;> rfl⟩
    refine ⟨B1, ⟨j1, fun k hk => ?_⟩, fun q hq v4 => ?_⟩
    · by_cases e : k = s
      · subst e
        rw [j3]
        rfl
      · exact j2 k (by omega)
    · repeat (refine ev_np [] rfl rfl rfl ?_)
      refine ev_ie (nI_ge (b := 6) hs (by omega)) ?_
      repeat (first | refine ev_np [] rfl rfl rfl ?_ | refine ev_grs [] rfl rfl (by rfl) (by rfl) ?_)
      refine ev_am rfl (by rfl) rfl hs rfl ?_
      repeat (refine ev_np [20] rfl rfl rfl ?_)
      rw [kv_00]
      refine h3 q ?_
      rw [kv_end]
      rw [nI_succ] at hq
      repeat (refine ev_np [2] rfl rfl rfl ?_)
      exact hq _) 6 0 A rfl ⟨sA.rf, fun k hk => by omega⟩
  refine ⟨A1, ?_, i1, i2⟩
  refine rn_in m_Shrinker_findLeast rfl ⟨rfl, rfl⟩ ?_
  show ev _ t_Shrinker_findLeast 0 [.ref 50, .ref p, .ref 45, .float 0, .float 0] [] _ _
  repeat (refine ev_np [2] rfl rfl rfl ?_)
  refine h3 _ (fun v4 => ?_) _
  repeat (refine ev_np [] rfl rfl rfl ?_)
  exact ev_rv rfl
theorem c_Shrinker_nextOf (hp0 : PL p) (hc : CP F A p n g) {ls : Nat → Nat} (hl : ∀ t, ls t ≤ t) (h51 : ∀ t, t < 6 → A 51 t = nI (ls t)) {s : Nat} (hs : s < 6) : xa_rn xa_ms (d + 3) n_Shrinker_nextOf [.ref 50, .ref p, .int (nI s)] (hp Y F A) (some (.int (nI (bm (nxt g ls s))))) (hp Y F A) := by
  refine rn_in m_Shrinker_nextOf rfl ⟨rfl, rfl⟩ ?_
  show ev _ t_Shrinker_nextOf 0 [.ref 50, .ref p, .int (nI s), .float 0, .float 0, .float 0, .float 0] [] _ _
  repeat (refine ev_np [5] rfl rfl rfl ?_)
  have key := lp_to (E := fun l q => ∀ v5 v6 : Value, ev (d + 2) t_Shrinker_nextOf 5 [.ref 50, .ref p, .int (nI s), .int (nI (bm (fun t => (List.range l).any fun l => (List.range 6).any fun t' => decide (1 ≤ g s l t') && (t == ls t')))), .int (nI l), v5, v6] [] (hp Y F A) q) 3 (fun l hl3 q hq => by
    intro v5 v6
    rw [nI_succ] at hq
    simp only [anyB _ l] at hq
    repeat (refine ev_np [] rfl rfl rfl ?_)
    refine ev_ie (nI_ge (b := 3) hl3 (by omega)) ?_
    repeat (refine ev_np [] rfl rfl rfl ?_)
    refine ev_vc rfl (by rfl) hp0.1 rfl (c_Plan_anyFrom d hp0 hs hl3) ?_
    rw [(hc.2 s l hs hl3).1]
    repeat (refine ev_np [23] rfl rfl rfl ?_)
    have h1 := lp_to (E := fun k q => ev (d + 2) t_Shrinker_nextOf 23 [.ref 50, .ref p, .int (nI s), .int (nI (bm (fun t => ((List.range l).any fun l => (List.range 6).any fun t' => decide (1 ≤ g s l t') && (t == ls t')) || ((List.range k).any fun t' => decide (1 ≤ g s l t') && (t == ls t'))))), .int (nI l), .int (nI (bm (fun t => decide (1 ≤ g s l t)))), .int (nI k)] [] (hp Y F A) q) 6 (fun k hk q hq => by
      rw [nI_succ] at hq
      repeat (refine ev_np [] rfl rfl rfl ?_)
      refine ev_ie (nI_ge (b := 6) hk (by omega)) ?_
      repeat (refine ev_np [] rfl rfl rfl ?_)
      refine ev_ca rfl (c_MM_inSet (d + 1)) ?_
      rw [bi_bm _ hk]
      have hlk := hl k
      by_cases e : 1 ≤ g s l k
      · rw [decide_eq_true e]
        repeat (first | refine ev_np [] rfl rfl rfl ?_ | refine ev_grs [] rfl rfl (by rfl) (by rfl) ?_)
        refine ev_an rfl (by rfl) rfl hk rfl ?_
        rw [h51 k hk]
        repeat (refine ev_np [23] rfl rfl rfl ?_)
        rw [orb_bm _ (by omega)]
        rw [bm_congr (g := fun t => (((List.range l).any fun l => (List.range 6).any fun t' => decide (1 ≤ g s l t') && (t == ls t')) || ((List.range k).any fun t' => decide (1 ≤ g s l t') && (t == ls t'))) || t == ls k) (fun t _ => by
          rw [anyB _ k, decide_eq_true e, Bool.true_and, Bool.or_assoc])] at hq
        exact hq
      · rw [decide_eq_false e]
        repeat (refine ev_np [23] rfl rfl rfl ?_)
        rw [bm_congr (g := fun t => ((List.range l).any fun l => (List.range 6).any fun t' => decide (1 ≤ g s l t') && (t == ls t')) || ((List.range k).any fun t' => decide (1 ≤ g s l t') && (t == ls t'))) (fun t _ => by
          rw [anyB _ k, decide_eq_false e, Bool.false_and, Bool.or_false])] at hq
        exact hq) q (by
      repeat (refine ev_np [5] rfl rfl rfl ?_)
      exact hq _ _)
    simp only [List.range_zero, List.any_nil, Bool.or_false] at h1
    exact h1) (some (.int (nI (bm (nxt g ls s)))), hp Y F A) (by
    intro v5 v6
    repeat (refine ev_np [] rfl rfl rfl ?_)
    exact ev_ri rfl rfl)
  exact key _ _
theorem c_Shrinker_reachedIn (hp0 : PL p) (hc : CP F A p n g) (hn : n ≤ 6) {ls : Nat → Nat} (hl : ∀ t, ls t ≤ t) (h51 : ∀ t, t < 6 → A 51 t = nI (ls t)) : xa_rn xa_ms (d + 4) n_Shrinker_reachedIn [.ref 50, .ref p] (hp Y F A) (some (.int (nI (bm (rch g ls n 6))))) (hp Y F A) := by
  refine rn_in m_Shrinker_reachedIn rfl ⟨rfl, rfl⟩ ?_
  show ev _ t_Shrinker_reachedIn 0 [.ref 50, .ref p, .float 0, .float 0, .float 0] [] _ _
  repeat (refine ev_np [4] rfl rfl rfl ?_)
  have key := lp_to (E := fun m q => ∀ v4 : Value, ev (d + 3) t_Shrinker_reachedIn 4 [.ref 50, .ref p, .int (nI (bm (rch g ls n m))), .int (nI m), v4] [] (hp Y F A) q) 6 (fun m hm q hq => by
    intro v4
    rw [nI_succ] at hq
    repeat (refine ev_np [] rfl rfl rfl ?_)
    refine ev_ie (nI_ge (b := 6) hm (by omega)) ?_
    repeat (refine ev_np [13] rfl rfl rfl ?_)
    refine lp_to (E := fun s q => ev (d + 3) t_Shrinker_reachedIn 13 [.ref 50, .ref p, .int (nI (bm (trn g ls s (rch g ls n m)))), .int (nI m), .int (nI s)] [] (hp Y F A) q) n (fun s hs q hq => ?_) q ?_
    · rw [nI_succ] at hq
      have e : ∀ t, trn g ls (s + 1) (rch g ls n m) t = (trn g ls s (rch g ls n m) t || (trn g ls s (rch g ls n m) s && nxt g ls s t)) := fun t => rfl
      repeat (refine ev_np [] rfl rfl rfl ?_)
      refine ev_vc rfl (by rfl) hp0.1 rfl (c_Plan_size (d + 2) hp0) ?_
      rw [hc.1]
      repeat (refine ev_np [] rfl rfl rfl ?_)
      refine ev_ie (nI_ge hs (by omega)) ?_
      repeat (refine ev_np [] rfl rfl rfl ?_)
      refine ev_ca rfl (c_MM_inSet (d + 2)) ?_
      rw [bi_bm _ (by omega)]
      cases hu : trn g ls s (rch g ls n m) s with
      | true =>
        repeat (refine ev_np [] rfl rfl rfl ?_)
        refine ev_vc rfl (by rfl) (by rfl) rfl (c_Shrinker_nextOf d hp0 hc hl h51 (by omega)) ?_
        repeat (refine ev_np [13] rfl rfl rfl ?_)
        rw [or_bm]
        rw [bm_congr (f := trn g ls (s + 1) (rch g ls n m)) (g := fun t => trn g ls s (rch g ls n m) t || nxt g ls s t) (fun t _ => by rw [e, hu, Bool.true_and])] at hq
        exact hq
      | false =>
        repeat (refine ev_np [13] rfl rfl rfl ?_)
        rw [bm_congr (f := trn g ls (s + 1) (rch g ls n m)) (g := trn g ls s (rch g ls n m)) (fun t _ => by rw [e, hu, Bool.false_and, Bool.or_false])] at hq
        exact hq
    · repeat (refine ev_np [] rfl rfl rfl ?_)
      refine ev_vc rfl (by rfl) hp0.1 rfl (c_Plan_size (d + 2) hp0) ?_
      rw [hc.1]
      repeat (refine ev_np [] rfl rfl rfl ?_)
      refine ev_it (nI_le (Nat.le_refl _) (by omega)) ?_
      repeat (refine ev_np [4] rfl rfl rfl ?_)
      exact hq _) (some (.int (nI (bm (rch g ls n 6)))), hp Y F A) (by
    intro v4
    repeat (refine ev_np [] rfl rfl rfl ?_)
    exact ev_ri rfl rfl)
  exact key _
theorem cnt_low (u : Nat → Bool) {s : Nat} : ∀ m, s ≤ m → cnt (fun t => u t && decide (t < s)) m = cnt u s := by
  intro m hm
  obtain ⟨c, rfl⟩ : ∃ c, m = s + c := ⟨m - s, by omega⟩
  clear hm
  induction c with
  | zero => exact cnt_congr s (fun t ht => by simp [ht])
  | succ c ih =>
    show cnt (fun t => u t && decide (t < s)) (s + c) + _ = _
    rw [ih]
    simp [show ¬ s + c < s by omega]
theorem c_Shrinker_rankIn (u : Nat → Bool) {s : Nat} (hs : s < 6) {h : xa_H} : xa_rn xa_ms (d + 2) n_Shrinker_rankIn [.int (nI (bm u)), .int (nI s)] h (some (.int (nI (cnt u s)))) h := by
  refine rn_in m_Shrinker_rankIn rfl ⟨rfl, rfl⟩ ?_
  show ev _ t_Shrinker_rankIn 0 [.int (nI (bm u)), .int (nI s)] [] _ _
  repeat (refine ev_np [] rfl rfl rfl ?_)
  rw [low_bm (by omega), and_bm]
  refine ev_ca rfl (c_Int_bitCount d _) ?_
  exact ev_ri rfl (by rw [cnt_low u 6 (by omega)])
theorem PL29 : PL 29 := PL_mk (by simp)
theorem c_Shrinker_carryArrows (hp0 : PL p) (hp29 : p ≠ 29) (hc : CP F A p n g) (hg : ∀ s l t, g s l t ≤ 2) {ls : Nat → Nat} (hl : ∀ t, ls t ≤ t) (h51 : ∀ t, t < 6 → A 51 t = nI (ls t)) {u : Nat → Bool} {s N : Nat} (hs : s < 6) (hus : u s = true) (h29 : CP F A 29 N (cfo g ls u (18 * s))) (hN : ∀ K a b c, cfo g ls u K a b c ≤ 2) : ∃ A', xa_rn xa_ms (d + 4) n_Shrinker_carryArrows [.ref 50, .ref p, .int (nI s), .int (nI (bm u)), .ref 29] (hp Y F A) none (hp Y F A') ∧ sA [30, 31] A A' ∧ CP F A' 29 N (cfo g ls u (18 * s + 18)) := by
  have hpq : (¬ p + 1 = 30 ∧ ¬ p + 1 = 31) ∧ (¬ p + 2 = 30 ∧ ¬ p + 2 = 31) := by
    rcases PL_in hp0 with rfl | rfl | rfl | rfl | rfl | rfl | rfl | rfl <;> first | decide | exact absurd rfl hp29
  obtain ⟨A1, ⟨i1, i2⟩, h3⟩ := lp_ex (α := Nat → Nat → Int32) (fun l B => sA [30, 31] A B ∧ CP F B 29 N (cfo g ls u (18 * s + 6 * l))) (fun l B q => ∀ v6 : Value, ev (d + 3) t_Shrinker_carryArrows 3 [.ref 50, .ref p, .int (nI s), .int (nI (bm u)), .ref 29, .int (nI l), v6] [] (hp Y F B) q) 3 (fun l B hl3 hI => by
    obtain ⟨i1, i2⟩ := hI
    obtain ⟨B1, ⟨j1, j2⟩, h3⟩ := lp_ex (α := Nat → Nat → Int32) (fun t C => sA [30, 31] A C ∧ CP F C 29 N (cfo g ls u (18 * s + 6 * l + t))) (fun t C q => ev (d + 3) t_Shrinker_carryArrows 12 [.ref 50, .ref p, .int (nI s), .int (nI (bm u)), .ref 29, .int (nI l), .int (nI t)] [] (hp Y F C) q) 6 (fun t C ht hI => by
      obtain ⟨j1, j2⟩ := hI
      have hcC : CP F C p n g := hc.frame rfl (j1 _ (by simp [hpq.1])) (j1 _ (by simp [hpq.2]))
      have r1 : cnt u s < 6 := by have := cnt_le u s; omega
      have hlt := hl t
      have r2 : cnt u (ls t) < 6 := by have := cnt_le u (ls t); omega
      obtain ⟨C1, b1, b2, b3⟩ := c_Plan_raise (Y := Y) (d + 1) PL29 j2 (s := cnt u s) (l := l) (t := cnt u (ls t)) (v := g s l t) r1 hl3 r2 (hg s l t)
      refine ⟨C1, ⟨j1.tr b2, ?_⟩, fun q hq => ?_⟩
      · have e : cfo g ls u (18 * s + 6 * l + (t + 1)) = gset (cfo g ls u (18 * s + 6 * l + t)) (cnt u s) l (cnt u (ls t)) (max (cfo g ls u (18 * s + 6 * l + t) (cnt u s) l (cnt u (ls t))) (g s l t)) := by
          show cst g ls u (18 * s + 6 * l + t) _ = _
          unfold cst
          rw [show (18 * s + 6 * l + t) / 18 = s by omega, show (18 * s + 6 * l + t) / 6 % 3 = l by omega, show (18 * s + 6 * l + t) % 6 = t by omega, hus]
          rfl
        rw [e]
        exact b3
      · rw [nI_succ] at hq
        repeat (refine ev_np [] rfl rfl rfl ?_)
        refine ev_ie (nI_ge (b := 6) ht (by omega)) ?_
        repeat (refine ev_np [] rfl rfl rfl ?_)
        refine ev_ca rfl (c_Shrinker_rankIn (d + 1) u hs) ?_
        repeat (first | refine ev_np [] rfl rfl rfl ?_ | refine ev_grs [] rfl rfl (by rfl) (by rfl) ?_)
        refine ev_an rfl (by rfl) rfl ht rfl ?_
        rw [j1 51 (by decide), h51 t ht]
        refine ev_ca rfl (c_Shrinker_rankIn (d + 1) u (by omega)) ?_
        repeat (refine ev_np [] rfl rfl rfl ?_)
        refine ev_vc rfl (by rfl) hp0.1 rfl (c_Plan_at d hp0 hcC hs hl3 ht (hg s l t)) ?_
        refine ev_vc rfl (by rfl) PL29.1 rfl b1 ?_
        repeat (refine ev_np [12] rfl rfl rfl ?_)
        exact hq) 6 0 B rfl ⟨i1, i2⟩
    refine ⟨B1, ⟨j1, by rw [show 18 * s + 6 * (l + 1) = 18 * s + 6 * l + 6 by omega]; exact j2⟩, fun q hq v6 => ?_⟩
    rw [nI_succ] at hq
    repeat (refine ev_np [] rfl rfl rfl ?_)
    refine ev_ie (nI_ge (b := 3) hl3 (by omega)) ?_
    repeat (refine ev_np [12] rfl rfl rfl ?_)
    refine h3 q ?_
    repeat (refine ev_np [3] rfl rfl rfl ?_)
    exact hq _) 3 0 A rfl ⟨sA.rf, h29⟩
  refine ⟨A1, ?_, i1, i2⟩
  refine rn_in m_Shrinker_carryArrows rfl ⟨rfl, rfl⟩ ?_
  show ev _ t_Shrinker_carryArrows 0 [.ref 50, .ref p, .int (nI s), .int (nI (bm u)), .ref 29, .float 0, .float 0] [] _ _
  repeat (refine ev_np [3] rfl rfl rfl ?_)
  refine h3 _ (fun v6 => ?_) _
  repeat (refine ev_np [] rfl rfl rfl ?_)
  exact ev_rv rfl
theorem cfo_le {g : Nat → Nat → Nat → Nat} (hg : ∀ s l t, g s l t ≤ 2) (ls : Nat → Nat) (u : Nat → Bool) : ∀ K a b c, cfo g ls u K a b c ≤ 2 := by
  intro K
  induction K with
  | zero => intros; exact Nat.zero_le _
  | succ K ih =>
    intro a b c
    show cst g ls u K (cfo g ls u K) a b c ≤ 2
    unfold cst
    cases u (K / 18)
    · exact ih a b c
    · show gset _ _ _ _ _ a b c ≤ 2
      unfold gset
      split
      · have := ih (cnt u (K / 18)) (K / 6 % 3) (cnt u (ls (K % 6)))
        have := hg (K / 18) (K / 6 % 3) (K % 6)
        omega
      · exact ih a b c
theorem c_Shrinker_shrink (hp0 : PL p) (hp29 : p ≠ 29) (hc : CP F A p n g) (hg : GW n g) {w : Nat → Nat} (hw : WE A 49 w) (hwl : ∀ k, w k < 1000) : ∃ F' A', xa_rn xa_ms (d + 5) n_Shrinker_shrink [.ref 50, .ref p, .ref 45, .ref 29] (hp Y F A) none (hp Y F' A') ∧ sA [51, 30, 31] A A' ∧ sF [2900] F F' ∧ CP F' A' 29 (cnt (rch g (lst n w) n 6) 6) (cfo g (lst n w) (rch g (lst n w) n 6) 108) := by
  have hn := hg.1.2
  have hpq : ¬ p = 29 ∧ (¬ p + 1 = 30 ∧ ¬ p + 1 = 31 ∧ ¬ p + 1 = 51) ∧ (¬ p + 2 = 30 ∧ ¬ p + 2 = 31 ∧ ¬ p + 2 = 51) := by
    rcases PL_in hp0 with rfl | rfl | rfl | rfl | rfl | rfl | rfl | rfl <;> first | decide | exact absurd rfl hp29
  obtain ⟨ls, hls⟩ : ∃ ls, ls = lst n w := ⟨_, rfl⟩
  have hl : ∀ t, ls t ≤ t := fun t => by rw [hls]; exact lst_le n w t
  rw [← hls]
  obtain ⟨A1, a1, a2, a3⟩ := c_Shrinker_findLeast (Y := Y) (d + 1) hp0 hc hn hw hwl
  rw [← hls] at a3
  have hc1 : CP F A1 p n g := hc.frame rfl (a2 _ (by simp [hpq.2.1])) (a2 _ (by simp [hpq.2.2]))
  have a4 := c_Shrinker_reachedIn (Y := Y) d hp0 hc1 hn hl a3
  obtain ⟨u, hu⟩ : ∃ u, u = rch g ls n 6 := ⟨_, rfl⟩
  have hwf := cfo_wf hg hl
  rw [← hu] at a4 hwf ⊢
  obtain ⟨F2, A2, b1, b2, b3, b4⟩ := c_Plan_reset (Y := Y) (F := F) (A := A1) (d + 2) PL29 hwf.1.1 hwf.1.2
  have hc2 : CP F2 A2 p n g := hc1.frame (b3 _ _ (by simp; omega)) (b2 _ (by simp [hpq.2.1])) (b2 _ (by simp [hpq.2.2]))
  have a3' : ∀ t, t < 6 → A2 51 t = nI (ls t) := fun t ht => by rw [b2 51 (by decide)]; exact a3 t ht
  obtain ⟨A3, ⟨c1, c2⟩, c3⟩ := lp_ex (α := Nat → Nat → Int32) (fun s B => sA [30, 31] A2 B ∧ CP F2 B 29 (cnt u 6) (cfo g ls u (18 * s))) (fun s B q => ev (d + 4) t_Shrinker_shrink 25 [.ref 50, .ref p, .ref 45, .ref 29, .int (nI (bm u)), .int (nI s)] [] (hp Y F2 B) q) n (fun s B hs hI => by
    obtain ⟨i1, i2⟩ := hI
    have hcB : CP F2 B p n g := hc2.frame rfl (i1 _ (by simp [hpq.2.1])) (i1 _ (by simp [hpq.2.2]))
    have h51B : ∀ t, t < 6 → B 51 t = nI (ls t) := fun t ht => by rw [i1 51 (by decide)]; exact a3' t ht
    have head : ∀ q, ev (d + 4) t_Shrinker_shrink 41 [.ref 50, .ref p, .ref 45, .ref 29, .int (nI (bm u)), .int (nI s)] [.int (z01 (u s))] (hp Y F2 B) q → ev (d + 4) t_Shrinker_shrink 25 [.ref 50, .ref p, .ref 45, .ref 29, .int (nI (bm u)), .int (nI s)] [] (hp Y F2 B) q := by
      intro q hq
      repeat (refine ev_np [] rfl rfl rfl ?_)
      refine ev_vc rfl (by rfl) hp0.1 rfl (c_Plan_size (d + 3) hp0) ?_
      rw [hcB.1]
      repeat (refine ev_np [] rfl rfl rfl ?_)
      refine ev_ie (nI_ge hs (by omega)) ?_
      repeat (refine ev_np [] rfl rfl rfl ?_)
      refine ev_ca rfl (c_MM_inSet (d + 3)) ?_
      rw [bi_bm _ (by omega)]
      exact hq
    cases hus : u s with
    | true =>
      obtain ⟨B1, e1, e2, e3⟩ := c_Shrinker_carryArrows (Y := Y) d hp0 hp29 hcB (fun s l t => (hg.2 s l t).1) hl h51B (u := u) (s := s) (by omega) hus i2 (cfo_le (fun s l t => (hg.2 s l t).1) ls u)
      refine ⟨B1, ⟨i1.tr e2, by rw [show 18 * (s + 1) = 18 * s + 18 by omega]; exact e3⟩, fun q hq => head q ?_⟩
      rw [hus]
      repeat (refine ev_np [] rfl rfl rfl ?_)
      refine ev_vc rfl (by rfl) (by rfl) rfl (e1) ?_
      rw [nI_succ] at hq
      repeat (refine ev_np [25] rfl rfl rfl ?_)
      exact hq
    | false =>
      refine ⟨B, ⟨i1, ?_⟩, fun q hq => head q ?_⟩
      · rw [show 18 * (s + 1) = 18 * s + 18 by omega, cfo_skip 18 (fun k h1 h2 => Or.inl (by rw [show k / 18 = s by omega]; exact hus))]
        exact i2
      · rw [hus]
        rw [nI_succ] at hq
        repeat (refine ev_np [25] rfl rfl rfl ?_)
        exact hq) n 0 A2 (Nat.zero_add n) ⟨sA.rf, b4⟩
  have hcE : CP F2 A3 p n g := hc2.frame rfl (c1 _ (by simp [hpq.2.1])) (c1 _ (by simp [hpq.2.2]))
  refine ⟨F2, A3, ?_, (a2.mono (by decide)).tr ((b2.mono (by decide)).tr (c1.mono (by decide))), b3, ?_⟩
  · refine rn_in m_Shrinker_shrink rfl ⟨rfl, rfl⟩ ?_
    show ev _ t_Shrinker_shrink 0 [.ref 50, .ref p, .ref 45, .ref 29, .float 0, .float 0] [] _ _
    repeat (refine ev_np [] rfl rfl rfl ?_)
    refine ev_vc rfl (by rfl) (by rfl) rfl (a1) ?_
    repeat (refine ev_np [] rfl rfl rfl ?_)
    refine ev_vc rfl (by rfl) (by rfl) rfl (a4) ?_
    repeat (refine ev_np [] rfl rfl rfl ?_)
    refine ev_ca rfl (c_Int_bitCount (d + 3) u) ?_
    refine ev_vc rfl (by rfl) PL29.1 rfl b1 ?_
    repeat (refine ev_np [25] rfl rfl rfl ?_)
    refine c3 _ ?_
    repeat (refine ev_np [] rfl rfl rfl ?_)
    refine ev_vc rfl (by rfl) hp0.1 rfl (c_Plan_size (d + 3) hp0) ?_
    rw [hcE.1]
    repeat (refine ev_np [] rfl rfl rfl ?_)
    refine ev_it (nI_le (Nat.le_refl _) (by omega)) ?_
    exact ev_rv rfl
  · rw [show (108 : Nat) = 18 * n + (108 - 18 * n) by omega, cfo_skip (108 - 18 * n) (fun k h1 h2 => Or.inl (by
      cases hk : u (k / 18) with
      | false => rfl
      | true =>
        rw [hu] at hk
        have := rch_in hg hl 6 _ hk
        omega))]
    exact c2
end SHR
end
section
/-! ===== the model's smalls ===== -/
section DV
variable {d : Nat} {tb : List xa_I} {pc : Nat} {ls r : List Value} {q : xa_R} {h : xa_H}
theorem ev_dv {len a b : Nat} {l : List Nat} {cv : Int32} (hi : xa_lk tb pc = some (.idiv, len, l, cv)) (ha : a < 2 ^ 31) (h0 : 0 < b) (hb : b < 2 ^ 31) (kk : ev d tb (pc + len) ls (.int (nI (a / b)) :: r) h q) : ev d tb pc ls (.int (nI b) :: .int (nI a) :: r) h q := by
  refine ev_nx (?_ : xa_one tb pc ls (.int (nI b) :: .int (nI a) :: r) h = some (.inl (pc + len, ls, .int (nI (a / b)) :: r, h))) kk
  unfold xa_one
  rw [hi]
  show (match (if nI b = 0 then none else some (Value.int (nI a / nI b) :: r)) with
    | some st' => xa_nx (pc + len) ls st' h
    | none => none) = _
  rw [if_neg (nI_ne0 h0 hb), pk_div ha h0 hb]
  rfl
theorem ev_rm {len a b : Nat} {l : List Nat} {cv : Int32} (hi : xa_lk tb pc = some (.irem, len, l, cv)) (ha : a < 2 ^ 31) (h0 : 0 < b) (hb : b < 2 ^ 31) (kk : ev d tb (pc + len) ls (.int (nI (a % b)) :: r) h q) : ev d tb pc ls (.int (nI b) :: .int (nI a) :: r) h q := by
  refine ev_nx (?_ : xa_one tb pc ls (.int (nI b) :: .int (nI a) :: r) h = some (.inl (pc + len, ls, .int (nI (a % b)) :: r, h))) kk
  unfold xa_one
  rw [hi]
  show (match (if nI b = 0 then none else some (Value.int (nI a - nI a / nI b * nI b) :: r)) with
    | some st' => xa_nx (pc + len) ls st' h
    | none => none) = _
  rw [if_neg (nI_ne0 h0 hb), pk_rem ha h0 hb]
  rfl
end DV
section SMA
variable {Y : Nat × (Nat → Int32)} {F A : Nat → Nat → Int32} {n : Nat} {g : Nat → Nat → Nat → Nat} (d : Nat)
theorem c_Mo_empties {i : Nat} (hi : i < 8) (N : Nat) : ∃ A', xa_rn xa_ms (d + 1) n_Mo_empties [.ref 62, .int (nI i), .int (nI N)] (hp Y F A) none (hp Y F A') ∧ sA [63, 64] A A' ∧ MP A' i N (fun _ _ _ => 0) ∧ (∀ i' n' g', i' < 8 → i' ≠ i → MP A i' n' g' → MP A' i' n' g') := by
  have hix : ∀ (a k : Nat), 108 * nI a + nI k = nI (108 * a + k) := fun a k => by rw [show (108 : Int32) = nI 108 from rfl, pk_mul, nI_add]
  obtain ⟨A1, ⟨h1, h2⟩, h3⟩ := lp_ex (α := Nat → Nat → Int32) (fun k B => sA [63] A B ∧ ∀ z, B 63 z = if 108 * i ≤ z ∧ z < 108 * i + k then 0 else A 63 z) (fun k B q => ev d t_Mo_empties 2 [.ref 62, .int (nI i), .int (nI N), .int (nI k)] [] (hp Y F B) q) 108 (fun k B hk hI => by
    obtain ⟨hs, hz⟩ := hI
    refine ⟨va_up B 63 (upd (B 63) (108 * i + k) 0), ⟨hs.tr (sA.up (by decide)), fun z => ?_⟩, fun q hq => ?_⟩
    · rw [va_up_s]
      unfold upd
      by_cases e : z = 108 * i + k
      · rw [if_pos e, if_pos (by omega)]
      · rw [if_neg e, hz]
        by_cases e2 : 108 * i ≤ z ∧ z < 108 * i + k
        · rw [if_pos e2, if_pos (by omega)]
        · rw [if_neg e2, if_neg (by omega)]
    · repeat (refine ev_np [] rfl rfl rfl ?_)
      refine ev_ie (nI_ge (b := 108) hk (by omega)) ?_
      repeat (first | refine ev_np [] rfl rfl rfl ?_ | refine ev_grs [] rfl rfl (by rfl) (by rfl) ?_)
      refine ev_am rfl (by rfl) (hix i k) (by omega) rfl ?_
      repeat (refine ev_np [2] rfl rfl rfl ?_)
      rw [nI_succ] at hq
      exact hq) 108 0 A rfl ⟨sA.rf, fun z => by rw [if_neg (by omega)]⟩
  have h64 : A1 64 = A 64 := h1 64 (by decide)
  obtain ⟨A2, hA2⟩ : ∃ A2, A2 = va_up A1 64 (upd (A1 64) i (nI N)) := ⟨_, rfl⟩
  have e63 : A2 63 = A1 63 := by rw [hA2]; exact va_up_n _ _ (by decide)
  have e64 : ∀ z, A2 64 z = if z = i then nI N else A 64 z := fun z => by
    rw [hA2, va_up_s, h64]
    rfl
  refine ⟨A2, ?_, (h1.mono (by decide)).tr (by rw [hA2]; exact sA.up (by decide)), ⟨by rw [e64, if_pos rfl], fun s l t hs hl ht => ?_⟩, fun i' n' g' hi' hne hm' => ⟨by rw [e64, if_neg hne]; exact hm'.1, fun s l t hs hl ht => ?_⟩⟩
  · refine rn_in m_Mo_empties rfl ⟨rfl, rfl⟩ ?_
    show ev _ t_Mo_empties 0 [.ref 62, .int (nI i), .int (nI N), .float 0] [] _ _
    repeat (refine ev_np [2] rfl rfl rfl ?_)
    refine h3 _ ?_
    repeat (first | refine ev_np [] rfl rfl rfl ?_ | refine ev_grs [] rfl rfl (by rfl) (by rfl) ?_)
    refine ev_am rfl (by rfl) rfl hi rfl ?_
    rw [← hA2]
    exact ev_rv rfl
  · rw [e63, h2, if_pos (by omega)]
    rfl
  · rw [e63, h2, if_neg (by omega)]
    exact hm'.2 s l t hs hl ht
theorem nxt_k (hg : GW n g) (ls : Nat → Nat) (s t : Nat) : (List.range (3 * n)).any (fun k => decide (1 ≤ g s (k / n) (k % n)) && (t == ls (k % n))) = nxt g ls s t := by
  have hn := hg.1
  unfold nxt
  rw [Bool.eq_iff_iff, List.any_eq_true, List.any_eq_true]
  constructor
  · rintro ⟨k, hk, h⟩
    have hk := List.mem_range.mp hk
    have h1 : k % n < n := Nat.mod_lt _ (by omega)
    refine ⟨k / n, List.mem_range.mpr (Nat.div_lt_of_lt_mul (by rw [Nat.mul_comm]; exact hk)), List.any_eq_true.mpr ⟨k % n, List.mem_range.mpr (by omega), h⟩⟩
  · rintro ⟨l, hl, h⟩
    obtain ⟨t', ht', h⟩ := List.any_eq_true.mp h
    have hl := List.mem_range.mp hl
    have h2 := h
    simp only [Bool.and_eq_true, decide_eq_true_eq] at h2
    have ht : t' < n := ((hg.2 s l t').2 (by omega)).2.2
    have e1 : (n * l + t') / n = l := by rw [Nat.mul_add_div (by omega), Nat.div_eq_of_lt ht]; rfl
    have e2 : (n * l + t') % n = t' := by rw [Nat.mul_add_mod, Nat.mod_eq_of_lt ht]
    refine ⟨n * l + t', List.mem_range.mpr ?_, by rw [e1, e2]; exact h⟩
    have : n * l ≤ n * 2 := Nat.mul_le_mul_left n (by omega)
    omega
theorem ix6 (s t : Nat) : 6 * nI s + nI t = nI (6 * s + t) := by rw [show (6 : Int32) = nI 6 from rfl, pk_mul, nI_add]
/-- the queue: of each state the least that is one with it -/
theorem c_Mo_least {i : Nat} (hn : n ≤ 6) {w : Nat → Nat} (hw : WE A 70 w) (hwl : ∀ k, w k < 1000) : ∃ A', sA [71] A A' ∧ (∀ s, s < n → A' 71 s = nI (lst n w s)) ∧ ∀ q, (∀ v3 v4 v5 v6 v7 v8 v9 v10 : Value, ev (d + 1) t_Mo_smalls 96 [.ref 62, .int (nI i), .int (nI n), v3, v4, v5, v6, v7, v8, v9, v10] [] (hp Y F A') q) → ∀ v4 v5 v6 v7 v8 v9 v10 : Value, ev (d + 1) t_Mo_smalls 15 [.ref 62, .int (nI i), .int (nI n), .int 0, v4, v5, v6, v7, v8, v9, v10] [] (hp Y F A) q := by
  obtain ⟨A1, ⟨i1, i2⟩, h3⟩ := lp_ex (α := Nat → Nat → Int32) (fun s B => sA [71] A B ∧ ∀ k, k < s → B 71 k = nI (lst n w k)) (fun s B q => ∀ v4 v5 v6 v7 v8 v9 v10 : Value, ev (d + 1) t_Mo_smalls 15 [.ref 62, .int (nI i), .int (nI n), .int (nI s), v4, v5, v6, v7, v8, v9, v10] [] (hp Y F B) q) n (fun s B hs hI => by
    obtain ⟨i1, i2⟩ := hI
    obtain ⟨B1, ⟨j1, j2, j3⟩, h3⟩ := lp_ex (α := Nat → Nat → Int32) (fun j C => sA [71] A C ∧ (∀ k, k < s → C 71 k = nI (lst n w k)) ∧ C 71 s = nI (lf w s j)) (fun j C q => ∀ v5 v6 v7 v8 v9 v10 : Value, ev (d + 1) t_Mo_smalls 32 [.ref 62, .int (nI i), .int (nI n), .int (nI s), .int (kv s j), v5, v6, v7, v8, v9, v10] [] (hp Y F C) q) s (fun j C hj hI => by
      obtain ⟨j1, j2, j3⟩ := hI
      have hwC : WE C 70 w := fun k hk => by rw [j1 70 (by decide)]; exact hw k hk
      have l1 := hwl (6 * s + (s - 1 - j))
      have l2 := hwl (6 * (s - 1 - j) + s)
      refine ⟨va_up C 71 (upd (C 71) s (nI (lf w s (j + 1)))), ⟨j1.tr (sA.up (by decide)), fun k hk => ?_, ?_⟩, fun q hq v5 v6 v7 v8 v9 v10 => ?_⟩
      · rw [va_up_s, pk_un (by omega)]
        exact j2 k hk
      · rw [va_up_s, pk_us]
      · rw [← kv_s hj, kv_lt hj] at hq
        rw [kv_lt hj]
        repeat (refine ev_np [] rfl rfl rfl ?_)
        refine ev_ie (nI_pos (by omega)) ?_
        repeat (first | refine ev_np [] rfl rfl rfl ?_ | refine ev_grs [] rfl rfl (by rfl) (by rfl) ?_)
        refine ev_an rfl (by rfl) (ix6 s (s - 1 - j)) (by omega) rfl ?_
        rw [hwC _ (by omega)]
        have lst2 : ev (d + 1) t_Mo_smalls 77 [.ref 62, .int (nI i), .int (nI n), .int (nI s), .int (nI (s - 1 - j)), v5, v6, v7, v8, v9, v10] [.int (nI s), .ref 71] (hp Y F C) q ∨ one w s (s - 1 - j) = true := by
          cases ho : one w s (s - 1 - j) with
          | true => exact Or.inr rfl
          | false =>
            left
            repeat (first | refine ev_np [] rfl rfl rfl ?_ | refine ev_grs [] rfl rfl (by rfl) (by rfl) ?_)
            refine ev_an rfl (by rfl) rfl (by omega) rfl ?_
            refine ev_am rfl (by rfl) rfl (by omega) rfl ?_
            repeat (refine ev_np [32] rfl rfl rfl ?_)
            rw [j3]
            rw [show lf w s (j + 1) = lf w s j by simp only [lf, ho, cond_false]] at hq
            exact hq _ _ _ _ _ _
        by_cases e1 : w (6 * s + (s - 1 - j)) = 0
        · rw [e1]
          repeat (first | refine ev_np [] rfl rfl rfl ?_ | refine ev_grs [] rfl rfl (by rfl) (by rfl) ?_)
          refine ev_an rfl (by rfl) (ix6 (s - 1 - j) s) (by omega) rfl ?_
          rw [hwC _ (by omega)]
          by_cases e2 : w (6 * (s - 1 - j) + s) = 0
          · rw [e2]
            repeat (refine ev_np [] rfl rfl rfl ?_)
            refine ev_am rfl (by rfl) rfl (by omega) rfl ?_
            repeat (refine ev_np [32] rfl rfl rfl ?_)
            rw [show lf w s (j + 1) = s - 1 - j by simp only [lf, show one w s (s - 1 - j) = true by simp [one, e1, e2], cond_true]] at hq
            exact hq _ _ _ _ _ _
          · repeat (refine ev_np [] rfl rfl rfl ?_)
            refine ev_it (nI_ne0 (by omega) (by omega)) ?_
            exact lst2.resolve_right (by simp [one, e2])
        · repeat (refine ev_np [] rfl rfl rfl ?_)
          refine ev_it (nI_ne0 (by omega) (by omega)) ?_
          exact lst2.resolve_right (by simp [one, e1])) s 0 (va_up B 71 (upd (B 71) s (nI s))) (Nat.zero_add s) ⟨i1.tr (sA.up (by decide)), fun k hk => by rw [va_up_s, pk_un (by omega)]; exact i2 k hk, by rw [va_up_s, pk_us]; rfl⟩
    refine ⟨B1, ⟨j1, fun k hk => ?_⟩, fun q hq v4 v5 v6 v7 v8 v9 v10 => ?_⟩
    · by_cases e : k = s
      · subst e
        rw [j3, lst, if_pos hs]
      · exact j2 k (by omega)
    · repeat (refine ev_np [] rfl rfl rfl ?_)
      refine ev_ie (nI_ge hs (by omega)) ?_
      repeat (first | refine ev_np [] rfl rfl rfl ?_ | refine ev_grs [] rfl rfl (by rfl) (by rfl) ?_)
      refine ev_am rfl (by rfl) rfl (by omega) rfl ?_
      repeat (refine ev_np [32] rfl rfl rfl ?_)
      rw [kv_00]
      refine h3 q (fun v5 v6 v7 v8 v9 v10 => ?_) _ _ _ _ _ _
      rw [kv_end]
      rw [nI_succ] at hq
      repeat (refine ev_np [15] rfl rfl rfl ?_)
      exact hq _ _ _ _ _ _ _) n 0 A (Nat.zero_add n) ⟨sA.rf, fun k hk => by omega⟩
  refine ⟨A1, i1, i2, fun q hq v4 v5 v6 v7 v8 v9 v10 => h3 q (fun v4 v5 v6 v7 v8 v9 v10 => ?_) v4 v5 v6 v7 v8 v9 v10⟩
  repeat (refine ev_np [] rfl rfl rfl ?_)
  refine ev_it (nI_le (Nat.le_refl _) (by omega)) ?_
  exact hq _ _ _ _ _ _ _ _
/-- what is reached -/
theorem c_Mo_reach {i : Nat} (hi : i < 8) (hm : MP A i n g) (hg : GW n g) {ls : Nat → Nat} (hl : ∀ t, ls t ≤ t) (h71 : ∀ t, t < n → A 71 t = nI (ls t)) : ∀ q, (∀ (x4 : Int32) (v5 v6 v7 v8 v9 v10 : Value), ev (d + 2) t_Mo_smalls 191 [.ref 62, .int (nI i), .int (nI n), .int (nI (bm (rch g ls n 6))), .int x4, v5, v6, v7, v8, v9, v10] [] (hp Y F A) q) → ∀ v3 v4 v5 v6 v7 v8 v9 v10 : Value, ev (d + 2) t_Mo_smalls 96 [.ref 62, .int (nI i), .int (nI n), v3, v4, v5, v6, v7, v8, v9, v10] [] (hp Y F A) q := by
  intro q hend v3 v4 v5 v6 v7 v8 v9 v10
  have hn := hg.1
  have h3n : 3 * nI n = nI (3 * n) := by rw [show (3 : Int32) = nI 3 from rfl, pk_mul]
  -- one turn
  have turn : ∀ m, (∀ v5 v6 v7 v8 v9 v10 : Value, ev (d + 2) t_Mo_smalls 101 [.ref 62, .int (nI i), .int (nI n), .int (nI (bm (rch g ls n (m + 1)))), .int (nI (bm (rch g ls n m))), v5, v6, v7, v8, v9, v10] [] (hp Y F A) q) → ∀ v4 v5 v6 v7 v8 v9 v10 : Value, ev (d + 2) t_Mo_smalls 107 [.ref 62, .int (nI i), .int (nI n), .int (nI (bm (rch g ls n m))), v4, v5, v6, v7, v8, v9, v10] [] (hp Y F A) q := by
    intro m hq v4 v5 v6 v7 v8 v9 v10
    repeat (refine ev_np [113] rfl rfl rfl ?_)
    have key := lp_to (E := fun s q => ∀ v6 v7 v8 v9 v10 : Value, ev (d + 2) t_Mo_smalls 113 [.ref 62, .int (nI i), .int (nI n), .int (nI (bm (trn g ls s (rch g ls n m)))), .int (nI (bm (rch g ls n m))), .int (nI s), v6, v7, v8, v9, v10] [] (hp Y F A) q) n (fun s hs q hq => by
      intro v6 v7 v8 v9 v10
      rw [nI_succ] at hq
      have e : ∀ t, trn g ls (s + 1) (rch g ls n m) t = (trn g ls s (rch g ls n m) t || (trn g ls s (rch g ls n m) s && nxt g ls s t)) := fun t => rfl
      obtain ⟨U, hU⟩ : ∃ U, U = trn g ls s (rch g ls n m) := ⟨_, rfl⟩
      rw [← hU] at e ⊢
      repeat (refine ev_np [] rfl rfl rfl ?_)
      refine ev_ie (nI_ge hs (by omega)) ?_
      repeat (refine ev_np [122] rfl rfl rfl ?_)
      cases hus : U s with
      | false =>
        repeat (refine ev_np [] rfl rfl rfl ?_)
        rw [h3n]
        refine ev_ie (nI_ge (a := 0) (by omega) (by omega)) ?_
        repeat (refine ev_np [] rfl rfl rfl ?_)
        rw [sh_bm _ (by omega), hus]
        repeat (refine ev_np [113] rfl rfl rfl ?_)
        rw [bm_congr (f := trn g ls (s + 1) (rch g ls n m)) (g := U) (fun t _ => by rw [e, hus, Bool.false_and, Bool.or_false])] at hq
        exact hq _ _ _ _ _
      | true =>
        have h1 := lp_to (E := fun k q => ∀ v7 v8 v9 v10 : Value, ev (d + 2) t_Mo_smalls 122 [.ref 62, .int (nI i), .int (nI n), .int (nI (bm (fun t => U t || (List.range k).any (fun k => decide (1 ≤ g s (k / n) (k % n)) && (t == ls (k % n)))))), .int (nI (bm (rch g ls n m))), .int (nI s), .int (nI k), v7, v8, v9, v10] [] (hp Y F A) q) (3 * n) (fun k hk q hq => by
          intro v7 v8 v9 v10
          have hk3 : k / n < 3 := Nat.div_lt_of_lt_mul (by rw [Nat.mul_comm]; exact hk)
          have hkn : k % n < n := Nat.mod_lt _ (by omega)
          have hlk := hl (k % n)
          rw [nI_succ] at hq
          repeat (refine ev_np [] rfl rfl rfl ?_)
          rw [h3n]
          refine ev_ie (nI_ge hk (by omega)) ?_
          repeat (refine ev_np [] rfl rfl rfl ?_)
          rw [sh_bm _ (by omega), hus, Bool.true_or]
          repeat (refine ev_np [] rfl rfl rfl ?_)
          refine ev_dv rfl (by omega) (by omega) (by omega) ?_
          repeat (refine ev_np [] rfl rfl rfl ?_)
          refine ev_rm rfl (by omega) (by omega) (by omega) ?_
          refine ev_vc rfl (by rfl) (by rfl) rfl (c_Mo_of d hi hm (by omega) hk3 (by omega)) ?_
          repeat (refine ev_np [] rfl rfl rfl ?_)
          have hle := (hg.2 s (k / n) (k % n)).1
          by_cases e1 : 1 ≤ g s (k / n) (k % n)
          · refine ev_ie (nI_nle (by omega) (by omega)) ?_
            repeat (first | refine ev_np [] rfl rfl rfl ?_ | refine ev_grs [] rfl rfl (by rfl) (by rfl) ?_)
            refine ev_rm rfl (by omega) (by omega) (by omega) ?_
            refine ev_an rfl (by rfl) rfl (by omega) rfl ?_
            rw [h71 _ hkn]
            repeat (refine ev_np [122] rfl rfl rfl ?_)
            rw [orb_bm _ (by omega)]
            rw [bm_congr (g := fun t => (U t || (List.range k).any (fun k => decide (1 ≤ g s (k / n) (k % n)) && (t == ls (k % n)))) || t == ls (k % n)) (fun t _ => by
              rw [anyB _ k, decide_eq_true e1, Bool.true_and, Bool.or_assoc])] at hq
            exact hq _ _ _ _
          · refine ev_it (by rw [show g s (k / n) (k % n) = 0 by omega]; exact Int32.le_refl _) ?_
            repeat (refine ev_np [122] rfl rfl rfl ?_)
            rw [or0]
            rw [bm_congr (g := fun t => U t || (List.range k).any (fun k => decide (1 ≤ g s (k / n) (k % n)) && (t == ls (k % n)))) (fun t _ => by
              rw [anyB _ k, decide_eq_false e1, Bool.false_and, Bool.or_false])] at hq
            exact hq _ _ _ _) q (by
          intro v7 v8 v9 v10
          repeat (refine ev_np [] rfl rfl rfl ?_)
          rw [h3n]
          refine ev_it (nI_le (Nat.le_refl _) (by omega)) ?_
          repeat (refine ev_np [113] rfl rfl rfl ?_)
          rw [bm_congr (f := trn g ls (s + 1) (rch g ls n m)) (g := fun t => U t || (List.range (3 * n)).any (fun k => decide (1 ≤ g s (k / n) (k % n)) && (t == ls (k % n)))) (fun t _ => by rw [e, hus, Bool.true_and, nxt_k hg])] at hq
          exact hq _ _ _ _ _)
        simp only [List.range_zero, List.any_nil, Bool.or_false] at h1
        exact h1 _ _ _ _) q (by
      intro v6 v7 v8 v9 v10
      repeat (refine ev_np [] rfl rfl rfl ?_)
      refine ev_it (nI_le (Nat.le_refl _) (by omega)) ?_
      repeat (refine ev_np [101] rfl rfl rfl ?_)
      exact hq _ _ _ _ _ _)
    exact key _ _ _ _ _
  have loop : ∀ c m, m + c = 6 → ∀ v5 v6 v7 v8 v9 v10 : Value, ev (d + 2) t_Mo_smalls 101 [.ref 62, .int (nI i), .int (nI n), .int (nI (bm (rch g ls n (m + 1)))), .int (nI (bm (rch g ls n m))), v5, v6, v7, v8, v9, v10] [] (hp Y F A) q := by
    intro c
    induction c with
    | zero =>
      intro m hm v5 v6 v7 v8 v9 v10
      have : m = 6 := by omega
      subst this
      rw [rch_fix hg hl]
      repeat (refine ev_np [] rfl rfl rfl ?_)
      refine ev_it rfl ?_
      exact hend _ _ _ _ _ _ _
    | succ c ih =>
      intro m hm v5 v6 v7 v8 v9 v10
      have b1 := bm_lt (rch g ls n m)
      have b2 := bm_lt (rch g ls n (m + 1))
      by_cases e : bm (rch g ls n m) = bm (rch g ls n (m + 1))
      · have e2 := rch_ext hg hl e
        have e3 := rch_keep e2.symm (6 - m)
        rw [show m + (6 - m) = 6 by omega] at e3
        rw [← e2, ← e3]
        repeat (refine ev_np [] rfl rfl rfl ?_)
        refine ev_it rfl ?_
        exact hend _ _ _ _ _ _ _
      · repeat (refine ev_np [] rfl rfl rfl ?_)
        refine ev_ie (fun z => e ((nI_eq (by omega) (by omega)).mp z)) ?_
        exact turn (m + 1) (fun v5 v6 v7 v8 v9 v10 => ih (m + 1) (by omega) v5 v6 v7 v8 v9 v10) _ _ _ _ _ _ _
  repeat (refine ev_np [107] rfl rfl rfl ?_)
  exact turn 0 (fun v5 v6 v7 v8 v9 v10 => loop 6 0 rfl v5 v6 v7 v8 v9 v10) _ _ _ _ _ _ _
end SMA
end
section
/-! ===== the model's smalls, its end; call: make ===== -/
section SMB
variable {Y : Nat × (Nat → Int32)} {F A : Nat → Nat → Int32} {n : Nat} {g : Nat → Nat → Nat → Nat} (d : Nat)
theorem cnt_in {u : Nat → Bool} {n : Nat} (hu : ∀ t, u t = true → t < n) : ∀ m, n ≤ m → cnt u m = cnt u n := by
  intro m hm
  obtain ⟨c, rfl⟩ : ∃ c, m = n + c := ⟨m - n, by omega⟩
  clear hm
  induction c with
  | zero => rfl
  | succ c ih =>
    show cnt u (n + c) + _ = _
    rw [ih]
    cases h : u (n + c) with
    | false => rfl
    | true => have := hu _ h; omega
set_option maxRecDepth 20000 in
theorem c_Mo_numb {i : Nat} (hn : n ≤ 6) (u : Nat → Bool) : ∃ A', sA [72] A A' ∧ (∀ s, s < n → A' 72 s = nI (cnt u s)) ∧ ∀ q, (∀ (x4 : Int32) (v6 v7 v8 v9 v10 : Value), ev (d + 1) t_Mo_smalls 238 [.ref 62, .int (nI i), .int (nI n), .int (nI (bm u)), .int x4, .int (nI (cnt u n)), v6, v7, v8, v9, v10] [] (hp Y F A') q) → ∀ (x4 : Int32) (v5 v6 v7 v8 v9 v10 : Value), ev (d + 1) t_Mo_smalls 191 [.ref 62, .int (nI i), .int (nI n), .int (nI (bm u)), .int x4, v5, v6, v7, v8, v9, v10] [] (hp Y F A) q := by
  obtain ⟨A1, ⟨i1, i2⟩, h3⟩ := lp_ex (α := Nat → Nat → Int32) (fun s B => sA [72] A B ∧ ∀ k, k < s → B 72 k = nI (cnt u k)) (fun s B q => ∀ (x4 : Int32) (v7 v8 v9 v10 : Value), ev (d + 1) t_Mo_smalls 197 [.ref 62, .int (nI i), .int (nI n), .int (nI (bm u)), .int x4, .int (nI (cnt u s)), .int (nI s), v7, v8, v9, v10] [] (hp Y F B) q) n (fun s B hs hI => by
    obtain ⟨i1, i2⟩ := hI
    refine ⟨va_up B 72 (upd (B 72) s (nI (cnt u s))), ⟨i1.tr (sA.up (by decide)), fun k hk => ?_⟩, fun q hq v4 v7 v8 v9 v10 => ?_⟩
    · rw [va_up_s]
      by_cases e : k = s
      · subst e; rw [pk_us]
      · rw [pk_un e]; exact i2 k (by omega)
    · rw [nI_succ s] at hq
      repeat (refine ev_np [] rfl rfl rfl ?_)
      refine ev_ie (nI_ge hs (by omega)) ?_
      repeat (first | refine ev_np [] rfl rfl rfl ?_ | refine ev_grs [] rfl rfl (by rfl) (by rfl) ?_)
      refine ev_am rfl (by rfl) rfl (by omega) rfl ?_
      repeat (refine ev_np [] rfl rfl rfl ?_)
      rw [sh_bm _ (by omega)]
      cases hus : u s with
      | true =>
        repeat (refine ev_np [197] rfl rfl rfl ?_)
        rw [nI_1]
        rw [show cnt u (s + 1) = cnt u s + 1 by simp only [cnt, hus, cond_true]] at hq
        exact hq _ _ _ _ _
      | false =>
        repeat (refine ev_np [197] rfl rfl rfl ?_)
        rw [show ∀ a : Int32, a + 0 = a from Int32.add_zero]
        rw [show cnt u (s + 1) = cnt u s by simp only [cnt, hus, cond_false]; rfl] at hq
        exact hq _ _ _ _ _) n 0 A (Nat.zero_add n) ⟨sA.rf, fun k hk => by omega⟩
  refine ⟨A1, i1, i2, fun q hq v4 v5 v6 v7 v8 v9 v10 => ?_⟩
  repeat (refine ev_np [197] rfl rfl rfl ?_)
  refine h3 q (fun v4 v7 v8 v9 v10 => ?_) _ _ _ _ _
  repeat (refine ev_np [] rfl rfl rfl ?_)
  refine ev_it (nI_le (Nat.le_refl _) (by omega)) ?_
  exact hq _ _ _ _ _ _
set_option maxRecDepth 20000 in
theorem c_Mo_carry {i N : Nat} (hi : i < 6) (hm : MP A i n g) (hg : GW n g) {ls : Nat → Nat} (hl : ∀ t, ls t ≤ t) (h71 : ∀ t, t < n → A 71 t = nI (ls t)) {u : Nat → Bool} (h72 : ∀ t, t < n → A 72 t = nI (cnt u t)) (h6 : MP A 6 N (fun _ _ _ => 0)) : ∃ A', sA [63] A A' ∧ MP A' 6 N (cfo g ls u (18 * n)) ∧ (∀ i' n' g', i' < 8 → i' ≠ 6 → MP A i' n' g' → MP A' i' n' g') ∧ ∀ q, (∀ v4 v5 v6 v7 v8 v9 v10 : Value, ev (d + 2) t_Mo_smalls 375 [.ref 62, .int (nI i), .int (nI n), .int (nI (bm u)), v4, v5, v6, v7, v8, v9, v10] [] (hp Y F A') q) → ∀ (v4 : Value) (x5 : Int32) (v7 v8 v9 v10 : Value), ev (d + 2) t_Mo_smalls 249 [.ref 62, .int (nI i), .int (nI n), .int (nI (bm u)), v4, .int x5, .int 0, v7, v8, v9, v10] [] (hp Y F A) q := by
  have hn := hg.1
  have h3n : 3 * nI n = nI (3 * n) := by rw [show (3 : Int32) = nI 3 from rfl, pk_mul]
  have hle2 : ∀ K a b c, cfo g ls u K a b c ≤ 2 := cfo_le (fun s l t => (hg.2 s l t).1) ls u
  obtain ⟨A1, ⟨i1, i2, i3⟩, h3⟩ := lp_ex (α := Nat → Nat → Int32) (fun s B => sA [63] A B ∧ MP B 6 N (cfo g ls u (18 * s)) ∧ (∀ i' n' g', i' < 8 → i' ≠ 6 → MP A i' n' g' → MP B i' n' g')) (fun s B q => ∀ (v4 : Value) (x5 : Int32) (v7 v8 v9 v10 : Value), ev (d + 2) t_Mo_smalls 249 [.ref 62, .int (nI i), .int (nI n), .int (nI (bm u)), v4, .int x5, .int (nI s), v7, v8, v9, v10] [] (hp Y F B) q) n (fun s B hs hI => by
    obtain ⟨i1, i2, i3⟩ := hI
    cases hus : u s with
    | false =>
      refine ⟨B, ⟨i1, ?_, i3⟩, fun q hq v4 v5 v7 v8 v9 v10 => ?_⟩
      · rw [show 18 * (s + 1) = 18 * s + 18 by omega, cfo_skip 18 (fun k h1 h2 => Or.inl (by rw [show k / 18 = s by omega]; exact hus))]
        exact i2
      · rw [nI_succ] at hq
        repeat (refine ev_np [] rfl rfl rfl ?_)
        refine ev_ie (nI_ge hs (by omega)) ?_
        repeat (refine ev_np [] rfl rfl rfl ?_)
        rw [h3n]
        refine ev_ie (nI_ge (a := 0) (by omega) (by omega)) ?_
        repeat (refine ev_np [] rfl rfl rfl ?_)
        rw [sh_bm _ (by omega), hus]
        repeat (refine ev_np [249] rfl rfl rfl ?_)
        exact hq _ _ _ _ _ _
    | true =>
      obtain ⟨B1, ⟨j1, j2, j3⟩, h3⟩ := lp_ex (α := Nat → Nat → Int32) (fun k C => sA [63] A C ∧ MP C 6 N (cfo g ls u (18 * s + 6 * (k / n) + k % n)) ∧ (∀ i' n' g', i' < 8 → i' ≠ 6 → MP A i' n' g' → MP C i' n' g')) (fun k C q => ∀ (v4 : Value) (x5 : Int32) (v8 v9 v10 : Value), ev (d + 2) t_Mo_smalls 258 [.ref 62, .int (nI i), .int (nI n), .int (nI (bm u)), v4, .int x5, .int (nI s), .int (nI k), v8, v9, v10] [] (hp Y F C) q) (3 * n) (fun k C hk hI => by
        obtain ⟨j1, j2, j3⟩ := hI
        have hk3 : k / n < 3 := Nat.div_lt_of_lt_mul (by rw [Nat.mul_comm]; exact hk)
        have hkn : k % n < n := Nat.mod_lt _ (by omega)
        have hlk := hl (k % n)
        have hle := (hg.2 s (k / n) (k % n)).1
        obtain ⟨K, hK⟩ : ∃ K, K = 18 * s + 6 * (k / n) + k % n := ⟨_, rfl⟩
        have k1 : K / 18 = s := by omega
        have k2 : K / 6 % 3 = k / n := by omega
        have k3 : K % 6 = k % n := by omega
        -- the next place
        have nextK : cfo g ls u (18 * s + 6 * ((k + 1) / n) + (k + 1) % n) = cfo g ls u (K + 1) := by
          by_cases e : k % n + 1 < n
          · have e1 : (k + 1) / n = k / n := by
              have h1 := Nat.div_add_mod k n
              have h2 : k + 1 = n * (k / n) + (k % n + 1) := by omega
              rw [h2, Nat.mul_add_div (by omega), Nat.div_eq_of_lt e]
              rfl
            have e2 : (k + 1) % n = k % n + 1 := by
              have h1 := Nat.div_add_mod k n
              have h2 : k + 1 = n * (k / n) + (k % n + 1) := by omega
              rw [h2, Nat.mul_add_mod, Nat.mod_eq_of_lt e]
            rw [e1, e2, hK]
            rfl
          · have h0 : k % n + 1 = n := by omega
            have h1 := Nat.div_add_mod k n
            have h2 : k + 1 = n * (k / n + 1) := by rw [Nat.mul_add]; omega
            have e1 : (k + 1) / n = k / n + 1 := by rw [h2]; exact Nat.mul_div_cancel_left _ (by omega)
            have e2 : (k + 1) % n = 0 := by rw [h2]; exact Nat.mul_mod_right _ _
            rw [e1, e2, show 18 * s + 6 * (k / n + 1) + 0 = K + 1 + (6 - n) by omega]
            exact cfo_skip (6 - n) (fun z z1 z2 => Or.inr (by
              have q0 := hg.2 (z / 18) (z / 6 % 3) (z % 6)
              refine Classical.byContradiction fun hne => ?_
              have := (q0.2 hne).2.2
              omega))
        have hcs : cfo g ls u (K + 1) = gset (cfo g ls u K) (cnt u s) (k / n) (cnt u (ls (k % n))) (max (cfo g ls u K (cnt u s) (k / n) (cnt u (ls (k % n)))) (g s (k / n) (k % n))) := by
          show cst g ls u K _ = _
          unfold cst
          rw [k1, k2, k3, hus]
          rfl
        rw [nextK]
        rw [← hK] at j2
        have r1 : cnt u s < 6 := by have := cnt_le u s; omega
        have r2 : cnt u (ls (k % n)) < 6 := by have := cnt_le u (ls (k % n)); omega
        have head : ∀ q (v4 v5 v8 v9 v10 : Value), ev (d + 2) t_Mo_smalls 297 [.ref 62, .int (nI i), .int (nI n), .int (nI (bm u)), v4, v5, .int (nI s), .int (nI k), .int (nI (k % n)), .int (nI (g s (k / n) (k % n))), v10] [] (hp Y F C) q → ev (d + 2) t_Mo_smalls 258 [.ref 62, .int (nI i), .int (nI n), .int (nI (bm u)), v4, v5, .int (nI s), .int (nI k), v8, v9, v10] [] (hp Y F C) q := by
          intro q v4 v5 v8 v9 v10 hq
          repeat (refine ev_np [] rfl rfl rfl ?_)
          rw [h3n]
          refine ev_ie (nI_ge hk (by omega)) ?_
          repeat (refine ev_np [] rfl rfl rfl ?_)
          rw [sh_bm _ (by omega), hus]
          repeat (refine ev_np [] rfl rfl rfl ?_)
          refine ev_rm rfl (by omega) (by omega) (by omega) ?_
          repeat (refine ev_np [] rfl rfl rfl ?_)
          refine ev_dv rfl (by omega) (by omega) (by omega) ?_
          repeat (refine ev_np [] rfl rfl rfl ?_)
          refine ev_vc rfl (by rfl) (by rfl) rfl (c_Mo_of d (by omega) (j3 i n g (by omega) (by omega) hm) (by omega) hk3 (by omega)) ?_
          repeat (refine ev_np [297] rfl rfl rfl ?_)
          exact hq
        by_cases e1 : g s (k / n) (k % n) = 0
        · have hsame : cfo g ls u (K + 1) = cfo g ls u K := cst_0 (Or.inr (by rw [k1, k2, k3]; exact e1))
          rw [hsame]
          refine ⟨C, ⟨j1, j2, j3⟩, fun q hq v4 v5 v8 v9 v10 => head q _ _ _ _ _ ?_⟩
          rw [nI_succ] at hq
          rw [e1]
          repeat (refine ev_np [258] rfl rfl rfl ?_)
          exact hq _ _ _ _ _
        · obtain ⟨acc, hacc⟩ : ∃ acc, acc = cfo g ls u K (cnt u s) (k / n) (cnt u (ls (k % n))) := ⟨_, rfl⟩
          have hacc2 : acc ≤ 2 := by rw [hacc]; exact hle2 _ _ _ _
          have hat := j2.2 (cnt u s) (k / n) (cnt u (ls (k % n))) r1 hk3 r2
          rw [← hacc] at hat
          refine ⟨va_up C 63 (upd (C 63) (108 * 6 + 18 * cnt u s + 6 * (k / n) + cnt u (ls (k % n))) (nI (max acc (g s (k / n) (k % n))))), ⟨j1.tr (sA.up (by decide)), ?_, fun i' n' g' h8 h6' hm' => (j3 i' n' g' h8 h6' hm').keep h6' _ r1 hk3 r2⟩, fun q hq v4 v5 v8 v9 v10 => head q _ _ _ _ _ ?_⟩
          · rw [hcs, ← hacc]
            exact j2.put r1 hk3 r2
          · rw [nI_succ] at hq
            repeat (refine ev_np [] rfl rfl rfl ?_)
            refine ev_ie (nI_nle (by omega) (by omega)) ?_
            repeat (first | refine ev_np [] rfl rfl rfl ?_ | refine ev_grs [] rfl rfl (by rfl) (by rfl) ?_)
            refine ev_an rfl (by rfl) rfl (by omega) rfl ?_
            rw [j1 72 (by decide), h72 s hs]
            repeat (refine ev_np [] rfl rfl rfl ?_)
            refine ev_dv rfl (by omega) (by omega) (by omega) ?_
            repeat (first | refine ev_np [] rfl rfl rfl ?_ | refine ev_grs [] rfl rfl (by rfl) (by rfl) ?_)
            refine ev_an rfl (by rfl) rfl (by omega) rfl ?_
            rw [j1 71 (by decide), h71 _ hkn]
            refine ev_an rfl (by rfl) rfl (by omega) rfl ?_
            rw [j1 72 (by decide), h72 _ (by omega)]
            refine ev_ca rfl (c_Mo_at (d + 1) 6 (cnt u s) (k / n) (cnt u (ls (k % n)))) ?_
            repeat (first | refine ev_np [] rfl rfl rfl ?_ | refine ev_grs [] rfl rfl (by rfl) (by rfl) ?_)
            refine ev_an rfl (by rfl) rfl (by omega) rfl ?_
            rw [hat]
            repeat (refine ev_np [] rfl rfl rfl ?_)
            by_cases e2 : acc < g s (k / n) (k % n)
            · refine ev_ie (nI_ge e2 (by omega)) ?_
              repeat (refine ev_np [] rfl rfl rfl ?_)
              refine ev_am rfl (by rfl) rfl (by omega) rfl ?_
              repeat (refine ev_np [258] rfl rfl rfl ?_)
              rw [show max acc (g s (k / n) (k % n)) = g s (k / n) (k % n) by omega] at hq
              exact hq _ _ _ _ _
            · refine ev_it (nI_le (by omega) (by omega)) ?_
              repeat (first | refine ev_np [] rfl rfl rfl ?_ | refine ev_grs [] rfl rfl (by rfl) (by rfl) ?_)
              refine ev_an rfl (by rfl) rfl (by omega) rfl ?_
              rw [hat]
              refine ev_am rfl (by rfl) rfl (by omega) rfl ?_
              repeat (refine ev_np [258] rfl rfl rfl ?_)
              rw [show max acc (g s (k / n) (k % n)) = acc by omega] at hq
              exact hq _ _ _ _ _) (3 * n) 0 B (Nat.zero_add _) ⟨i1, by rw [Nat.zero_div, Nat.zero_mod]; exact i2, i3⟩
      refine ⟨B1, ⟨j1, ?_, j3⟩, fun q hq v4 v5 v7 v8 v9 v10 => ?_⟩
      · rw [show 18 * s + 6 * (3 * n / n) + 3 * n % n = 18 * (s + 1) by rw [Nat.mul_div_cancel _ (by omega), Nat.mul_mod_left]; omega] at j2
        exact j2
      · repeat (refine ev_np [] rfl rfl rfl ?_)
        refine ev_ie (nI_ge hs (by omega)) ?_
        repeat (refine ev_np [258] rfl rfl rfl ?_)
        refine h3 q (fun v4 v5 v8 v9 v10 => ?_) _ _ _ _ _
        rw [nI_succ] at hq
        repeat (refine ev_np [] rfl rfl rfl ?_)
        rw [h3n]
        refine ev_it (nI_le (Nat.le_refl _) (by omega)) ?_
        repeat (refine ev_np [249] rfl rfl rfl ?_)
        exact hq _ _ _ _ _ _) n 0 A (Nat.zero_add n) ⟨sA.rf, h6, fun _ _ _ _ _ h => h⟩
  refine ⟨A1, i1, i2, i3, fun q hq v4 v5 v7 v8 v9 v10 => h3 q (fun v4 v5 v7 v8 v9 v10 => ?_) _ _ _ _ _ _⟩
  repeat (refine ev_np [] rfl rfl rfl ?_)
  refine ev_it (nI_le (Nat.le_refl _) (by omega)) ?_
  exact hq _ _ _ _ _ _ _
set_option maxRecDepth 20000 in
theorem c_Mo_smalls {i : Nat} (hi : i < 6) (hm : MP A i n g) (hg : GW n g) : ∃ A', xa_rn xa_ms (d + 5) n_Mo_smalls [.ref 62, .int (nI i)] (hp Y F A) none (hp Y F A') ∧ sA [63, 64, 70, 71, 72] A A' ∧ (∀ i' n' g', i' < 8 → i' ≠ 6 → MP A i' n' g' → MP A' i' n' g') ∧ MP A' 6 (cnt (rch g (lst n (wE n n g g)) n 6) 6) (cfo g (lst n (wE n n g g)) (rch g (lst n (wE n n g g)) n 6) 108) := by
  have hn := hg.1
  obtain ⟨ls, hls⟩ : ∃ ls, ls = lst n (wE n n g g) := ⟨_, rfl⟩
  have hl : ∀ t, ls t ≤ t := fun t => by rw [hls]; exact lst_le n _ t
  rw [← hls]
  obtain ⟨u, hu⟩ : ∃ u, u = rch g ls n 6 := ⟨_, rfl⟩
  have hui : ∀ t, u t = true → t < n := fun t ht => rch_in hg hl 6 t (by rw [← hu]; exact ht)
  rw [← hu]
  obtain ⟨A1, a1, a2, a3⟩ := c_Mo_goes (Y := Y) (F := F) d (i := i) (j := i) (by omega) (by omega) hm hm hg hg
  obtain ⟨A2, b1, b2, b3⟩ := c_Mo_least (Y := Y) (F := F) (A := A1) (d + 3) (i := i) hn.2 a3 (wE_lt n n g g)
  rw [← hls] at b2
  have k2 : ∀ i' n' g', MP A i' n' g' → MP A2 i' n' g' := fun i' n' g' h => h.frame (by rw [b1 63 (by decide), a2 63 (by decide)]) (by rw [b1 64 (by decide), a2 64 (by decide)])
  have c3 := c_Mo_reach (Y := Y) (F := F) (A := A2) (d + 2) (i := i) (by omega) (k2 _ _ _ hm) hg hl b2
  rw [← hu] at c3
  obtain ⟨A3, d1, d2, d3⟩ := c_Mo_numb (Y := Y) (F := F) (A := A2) (d + 3) (i := i) hn.2 u
  have k3 : ∀ i' n' g', MP A i' n' g' → MP A3 i' n' g' := fun i' n' g' h => (k2 _ _ _ h).frame (d1 63 (by decide)) (d1 64 (by decide))
  obtain ⟨A4, e1, e2, e3, e4⟩ := c_Mo_empties (Y := Y) (F := F) (A := A3) (d + 3) (i := 6) (by decide) (cnt u n)
  have k4 : ∀ i' n' g', i' < 8 → i' ≠ 6 → MP A i' n' g' → MP A4 i' n' g' := fun i' n' g' h8 h6 h => e4 _ _ _ h8 h6 (k3 _ _ _ h)
  obtain ⟨A5, f1, f2, f3, f4⟩ := c_Mo_carry (Y := Y) (F := F) (A := A4) (d + 2) hi (k4 _ _ _ (by omega) (by omega) hm) hg hl (u := u) (fun t ht => by rw [e2 71 (by decide), d1 71 (by decide)]; exact b2 t ht) (fun t ht => by rw [e2 72 (by decide)]; exact d2 t ht) e3
  refine ⟨A5, ?_, (a2.mono (by decide)).tr ((b1.mono (by decide)).tr ((d1.mono (by decide)).tr ((e2.mono (by decide)).tr (f1.mono (by decide))))), fun i' n' g' h8 h6 h => f3 _ _ _ h8 h6 (k4 _ _ _ h8 h6 h), ?_⟩
  · refine rn_in m_Mo_smalls rfl ⟨rfl, rfl⟩ ?_
    show ev _ t_Mo_smalls 0 [.ref 62, .int (nI i), .float 0, .float 0, .float 0, .float 0, .float 0, .float 0, .float 0, .float 0, .float 0] [] _ _
    repeat (refine ev_np [] rfl rfl rfl ?_)
    refine ev_vc rfl (by rfl) (by rfl) rfl (a1) ?_
    repeat (first | refine ev_np [] rfl rfl rfl ?_ | refine ev_grs [] rfl rfl (by rfl) (by rfl) ?_)
    refine ev_an rfl (by rfl) rfl (by omega) rfl ?_
    rw [a2 64 (by decide), hm.1]
    repeat (refine ev_np [15] rfl rfl rfl ?_)
    refine b3 _ (fun v3 v4 v5 v6 v7 v8 v9 v10 => ?_) _ _ _ _ _ _ _
    refine c3 _ (fun v4 v5 v6 v7 v8 v9 v10 => ?_) _ _ _ _ _ _ _ _
    refine d3 _ (fun v4 v6 v7 v8 v9 v10 => ?_) _ _ _ _ _ _ _
    repeat (refine ev_np [] rfl rfl rfl ?_)
    refine ev_vc rfl (by rfl) (by rfl) rfl (e1) ?_
    repeat (refine ev_np [249] rfl rfl rfl ?_)
    refine f4 _ (fun v4 v5 v6 v7 v8 v9 v10 => ?_) _ _ _ _ _ _
    exact ev_rv rfl
  · rw [cnt_in hui 6 hn.2, show (108 : Nat) = 18 * n + (108 - 18 * n) by omega, cfo_skip (108 - 18 * n) (fun k h1 h2 => Or.inl (by
      cases hk : u (k / 18) with
      | false => rfl
      | true =>
        have := hui _ hk
        omega))]
    exact f2
end SMB
end
section
/-! ===== call: make ===== -/
theorem KM.of2 {F A F' A' : Nat → Nat → Int32} {LF LA : List Nat} (hF : sF LF F F') (hA : sA LA A A') (h1 : ∀ x, x ∈ LF → x < 6200) (h2 : ∀ x, x ∈ LA → x < 62) : KM F A F' A' := by
  intro o ho
  refine ⟨hA o (fun z => ?_), ?_⟩
  · have := h2 o z
    omega
  · funext k
    refine hF o k (fun z => ?_)
    have := h1 _ z
    omega
theorem gset2_wf {n : Nat} {g : Nat → Nat → Nat → Nat} (h : GW n g) {v : Nat} (hv : v ≤ 2) : GW n (gset2 g v) := by
  refine ⟨h.1, fun s l t => ?_⟩
  obtain ⟨h1, h2⟩ := h.2 s l t
  unfold gset2
  split
  · rename_i e
    exact ⟨hv, fun _ => h2 (by omega)⟩
  · exact ⟨h1, h2⟩
section MAKE
variable {S : SP}
theorem op_make (W : Wf S) (x y z : Int32) : OP n_MM_make n_Mo_make [.int x, .int y, .int z] S := by
  rcases ix4 x (n := 6) (by decide) with hx | ⟨i, hi, rfl⟩
  · refine op_ro W (-1) (fun Y F A hC => ?_) (fun Y F A hM => ?_)
    · refine rn_in m_MM_make rfl ⟨rfl, rfl⟩ ?_
      show ev _ t_MM_make 0 [.ref 9, .int x, .int y, .int z] [] _ _
      repeat (refine ev_np [] rfl rfl rfl ?_)
      refine ev_ca rfl (c_MM_noPlanT 78 hx) ?_
      repeat (refine ev_np [] rfl rfl rfl ?_)
      exact ev_ri rfl rfl
    · refine rn_in m_Mo_make rfl ⟨rfl, rfl⟩ ?_
      show ev _ t_Mo_make 0 [.ref 62, .int x, .int y, .int z, .float 0, .float 0] [] _ _
      repeat (refine ev_np [] rfl rfl rfl ?_)
      refine ev_pf rfl (by rfl) ⟨by rfl, by rfl⟩ ?_
      repeat (refine ev_np [] rfl rfl rfl ?_)
      refine ev_ca rfl (c_Mo_isPlanF 77 hx) ?_
      repeat (refine ev_np [] rfl rfl rfl ?_)
      exact ev_ri rfl rfl
  rcases ix4 z (n := 6) (by decide) with hz | ⟨j, hj, rfl⟩
  · refine op_ro W (-1) (fun Y F A hC => ?_) (fun Y F A hM => ?_)
    · refine rn_in m_MM_make rfl ⟨rfl, rfl⟩ ?_
      show ev _ t_MM_make 0 [.ref 9, .int (nI i), .int y, .int z] [] _ _
      repeat (refine ev_np [] rfl rfl rfl ?_)
      refine ev_ca rfl (c_MM_noPlanF 78 hi) ?_
      repeat (refine ev_np [] rfl rfl rfl ?_)
      refine ev_ca rfl (c_MM_noPlanT 78 hz) ?_
      repeat (refine ev_np [] rfl rfl rfl ?_)
      exact ev_ri rfl rfl
    · refine rn_in m_Mo_make rfl ⟨rfl, rfl⟩ ?_
      show ev _ t_Mo_make 0 [.ref 62, .int (nI i), .int y, .int z, .float 0, .float 0] [] _ _
      repeat (refine ev_np [] rfl rfl rfl ?_)
      refine ev_pf rfl (by rfl) ⟨by rfl, by rfl⟩ ?_
      repeat (refine ev_np [] rfl rfl rfl ?_)
      refine ev_ca rfl (c_Mo_isPlanT 77 hi) ?_
      repeat (refine ev_np [] rfl rfl rfl ?_)
      refine ev_ca rfl (c_Mo_in 78 _ _ _) ?_
      rcases let3 y with hy | ⟨k, hk, rfl⟩
      · rw [show (2 : Int32) = nI 2 from rfl, in_T (N := 2) (by omega) hy]
        repeat (refine ev_np [] rfl rfl rfl ?_)
        exact ev_ri rfl rfl
      · rw [show (2 : Int32) = nI 2 from rfl, in_F (N := 2) (by omega) (by omega)]
        repeat (refine ev_np [] rfl rfl rfl ?_)
        refine ev_ca rfl (c_Mo_isPlanF 77 hz) ?_
        repeat (refine ev_np [] rfl rfl rfl ?_)
        exact ev_ri rfl rfl
  rcases let3 y with hy | ⟨k, hk, rfl⟩
  · refine op_ro W (-1) (fun Y F A hC => ?_) (fun Y F A hM => ?_)
    · refine rn_in m_MM_make rfl ⟨rfl, rfl⟩ ?_
      show ev _ t_MM_make 0 [.ref 9, .int (nI i), .int y, .int (nI j)] [] _ _
      repeat (refine ev_np [] rfl rfl rfl ?_)
      refine ev_ca rfl (c_MM_noPlanF 78 hi) ?_
      repeat (refine ev_np [] rfl rfl rfl ?_)
      refine ev_ca rfl (c_MM_noPlanF 78 hj) ?_
      repeat (refine ev_np [] rfl rfl rfl ?_)
      refine ev_if (fun c => ?_) (fun c => ?_)
      · repeat (refine ev_np [] rfl rfl rfl ?_)
        exact ev_ri rfl rfl
      · repeat (refine ev_np [] rfl rfl rfl ?_)
        refine ev_ie (out_le (n := 2) (by decide) hy c) ?_
        repeat (refine ev_np [] rfl rfl rfl ?_)
        exact ev_ri rfl rfl
    · refine rn_in m_Mo_make rfl ⟨rfl, rfl⟩ ?_
      show ev _ t_Mo_make 0 [.ref 62, .int (nI i), .int y, .int (nI j), .float 0, .float 0] [] _ _
      repeat (refine ev_np [] rfl rfl rfl ?_)
      refine ev_pf rfl (by rfl) ⟨by rfl, by rfl⟩ ?_
      repeat (refine ev_np [] rfl rfl rfl ?_)
      refine ev_ca rfl (c_Mo_isPlanT 77 hi) ?_
      repeat (refine ev_np [] rfl rfl rfl ?_)
      refine ev_ca rfl (c_Mo_in 78 _ _ _) ?_
      rw [show (2 : Int32) = nI 2 from rfl, in_T (N := 2) (by omega) hy]
      repeat (refine ev_np [] rfl rfl rfl ?_)
      exact ev_ri rfl rfl
  have wi := W.2.1 i hi
  obtain ⟨n, hn⟩ : ∃ a, a = (S.2.1 i).1 := ⟨_, rfl⟩
  obtain ⟨g, hg⟩ : ∃ a, a = (S.2.1 i).2 := ⟨_, rfl⟩
  rw [← hn, ← hg] at wi
  have clas : ∀ Y F A, RC F A S → ∀ q, ev 79 t_MM_make 25 [.ref 9, .int (nI i), .int (nI k), .int (nI j)] [] (hp Y F A) q → ev 79 t_MM_make 0 [.ref 9, .int (nI i), .int (nI k), .int (nI j)] [] (hp Y F A) q := by
    intro Y F A hC q hq
    repeat (refine ev_np [] rfl rfl rfl ?_)
    refine ev_ca rfl (c_MM_noPlanF 78 hi) ?_
    repeat (refine ev_np [] rfl rfl rfl ?_)
    refine ev_ca rfl (c_MM_noPlanF 78 hj) ?_
    repeat (refine ev_np [] rfl rfl rfl ?_)
    refine ev_ie (nI_pos (by omega)) ?_
    repeat (refine ev_np [] rfl rfl rfl ?_)
    refine ev_it (nI_le (b := 2) (by omega) (by omega)) ?_
    exact hq
  have model : ∀ Y F A, RM F A S → ∀ q, ev 79 t_Mo_make 30 [.ref 62, .int (nI i), .int (nI k), .int (nI j), .float 0, .float 0] [] (hp Y (uF F 62 0 0) A) q → ev 79 t_Mo_make 0 [.ref 62, .int (nI i), .int (nI k), .int (nI j), .float 0, .float 0] [] (hp Y F A) q := by
    intro Y F A hM q hq
    repeat (refine ev_np [] rfl rfl rfl ?_)
    refine ev_pf rfl (by rfl) ⟨by rfl, by rfl⟩ ?_
    repeat (refine ev_np [] rfl rfl rfl ?_)
    refine ev_ca rfl (c_Mo_isPlanT 77 hi) ?_
    repeat (refine ev_np [] rfl rfl rfl ?_)
    refine ev_ca rfl (c_Mo_in 78 _ _ _) ?_
    rw [show (2 : Int32) = nI 2 from rfl, in_F (N := 2) (by omega) (by omega)]
    repeat (refine ev_np [] rfl rfl rfl ?_)
    refine ev_ca rfl (c_Mo_isPlanT 77 hj) ?_
    repeat (refine ev_np [30] rfl rfl rfl ?_)
    exact hq
  have clasE : ∀ Y F A N G, CP F A 29 N G → ∃ F' A', sA [11 + 3 * j + 1, 11 + 3 * j + 2] A A' ∧ sF [(11 + 3 * j) * 100] F F' ∧ CP F' A' (11 + 3 * j) N G ∧ ev 79 t_MM_make 104 [.ref 9, .int (nI i), .int (nI k), .int (nI j)] [] (hp Y F A) (some (.int (nI N)), hp Y F' A') := by
    intro Y F A N G hc
    obtain ⟨F1, A1, b1, b2, b3, b4⟩ := c_Plan_become (Y := Y) 78 (PLi hj) PL29 hc
    refine ⟨F1, A1, b2, b3, b4, ?_⟩
    repeat (first | refine ev_np [] rfl rfl rfl ?_ | refine ev_grs [] rfl rfl (by rfl) (by rfl) ?_)
    refine ev_aa rfl hj ?_
    repeat (first | refine ev_np [] rfl rfl rfl ?_ | refine ev_grs [] rfl rfl (by rfl) (by rfl) ?_)
    refine ev_vc rfl (by rfl) (PLi hj).1 rfl b1 ?_
    repeat (first | refine ev_np [] rfl rfl rfl ?_ | refine ev_grs [] rfl rfl (by rfl) (by rfl) ?_)
    refine ev_vc rfl (by rfl) PL29.1 rfl (c_Plan_size 78 PL29) ?_
    refine ev_ri rfl ?_
    rw [b3 29 0 (by simp; omega)]
    exact hc.1
  have modelE : ∀ Y F A N G, MP A 6 N G → ∃ A', sA [63, 64] A A' ∧ (∀ i' n' g', i' < 8 → i' ≠ j → MP A i' n' g' → MP A' i' n' g') ∧ MP A' j N G ∧ ∀ v4 v5 : Value, ev 79 t_Mo_make 105 [.ref 62, .int (nI i), .int (nI k), .int (nI j), v4, v5] [] (hp Y F A) (some (.int (nI N)), hp Y F A') := by
    intro Y F A N G hm
    obtain ⟨A1, b1, b2, b3, b4⟩ := c_Mo_copies (Y := Y) (F := F) 78 (i := 6) (j := j) (by decide) (by omega) hm
    refine ⟨A1, b2, b4, b3, fun v4 v5 => ?_⟩
    repeat (refine ev_np [] rfl rfl rfl ?_)
    refine ev_vc rfl (by rfl) (by rfl) rfl (b1) ?_
    repeat (first | refine ev_np [] rfl rfl rfl ?_ | refine ev_grs [] rfl rfl (by rfl) (by rfl) ?_)
    refine ev_an rfl (by rfl) rfl (by omega) rfl ?_
    exact ev_ri rfl b3.1
  by_cases hk2 : k = 2
  · subst hk2
    obtain ⟨N, hN⟩ : ∃ N, N = cnt (rch g (lst n (wE n n g g)) n 6) 6 := ⟨_, rfl⟩
    obtain ⟨G, hG⟩ : ∃ G, G = cfo g (lst n (wE n n g g)) (rch g (lst n (wE n n g g)) n 6) 108 := ⟨_, rfl⟩
    have hwf : GW N G := by rw [hN, hG]; exact cfo_wf wi (lst_le n _)
    refine ⟨nI N, sPlan S j (N, G), sPlan_wf W hwf, fun Y F A hC => ?_, fun Y F A hM => ?_⟩
    · have hci := hC.2.1 i hi
      rw [← hn, ← hg] at hci
      obtain ⟨F1, A1, a1, a2, a3, a4, -⟩ := c_Rounds_play (Y := Y) 73 (PLi hi) (PLi hi) hci hci wi.1 wi.1
      have hC1 := hC.keep a2 a3 ⟨rfl, rfl⟩
      have hci1 := hC1.2.1 i hi
      rw [← hn, ← hg] at hci1
      obtain ⟨F2, A2, b1, b2, b3, b4⟩ := c_Shrinker_shrink (Y := Y) 74 (PLi hi) (by omega) hci1 wi a4 (wE_lt n n g g)
      rw [← hN, ← hG] at b4
      obtain ⟨F3, A3, c1, c2, c3, c4⟩ := clasE Y F2 A2 N G b4
      have sa : sA ((11 + 3 * j + 1) :: (11 + 3 * j + 2) :: [47, 48, 49, 51, 30, 31]) A A3 := (a2.mono (by simp)).tr ((b2.mono (by simp)).tr (c1.mono (by simp)))
      have sf : sF ((11 + 3 * j) * 100 :: [4502, 4503, 2900]) F F3 := (a3.mono (by simp)).tr ((b3.mono (by simp)).tr (c2.mono (by simp)))
      refine ⟨F3, A3, ?_, hC.plan hj sa sf ⟨rfl, rfl⟩ c3, KM.of2 sf sa (fun x hx => by simp at hx; omega) (fun x hx => by simp at hx; omega)⟩
      refine rn_in m_MM_make rfl ⟨rfl, rfl⟩ ?_
      show ev _ t_MM_make 0 [.ref 9, .int (nI i), .int (nI 2), .int (nI j)] [] _ _
      refine clas Y F A hC _ ?_
      repeat (first | refine ev_np [] rfl rfl rfl ?_ | refine ev_grs [] rfl rfl (by rfl) (by rfl) ?_)
      refine ev_aa rfl hi ?_
      repeat (first | refine ev_np [] rfl rfl rfl ?_ | refine ev_grs [] rfl rfl (by rfl) (by rfl) ?_)
      refine ev_aa rfl hi ?_
      refine ev_vc rfl (by rfl) (by rfl) rfl (a1) ?_
      repeat (first | refine ev_np [] rfl rfl rfl ?_ | refine ev_grs [] rfl rfl (by rfl) (by rfl) ?_)
      refine ev_aa rfl hi ?_
      repeat (first | refine ev_np [] rfl rfl rfl ?_ | refine ev_grs [] rfl rfl (by rfl) (by rfl) ?_)
      refine ev_vc rfl (by rfl) (by rfl) rfl (b1) ?_
      repeat (refine ev_np [104] rfl rfl rfl ?_)
      exact c4
    · have hM0 := hM.thrown 0
      have hmi := hM0.2.1 i hi
      rw [← hn, ← hg] at hmi
      obtain ⟨A1, a1, a2, a3, a4⟩ := c_Mo_smalls (Y := Y) (F := uF F 62 0 0) 74 hi hmi wi
      rw [← hN, ← hG] at a4
      obtain ⟨A2, b1, b2, b3, b4⟩ := modelE Y (uF F 62 0 0) A1 N G a4
      have sa : sA (63 :: 64 :: [70, 71, 72]) A A2 := (a2.mono (by decide)).tr (b1.mono (by decide))
      refine ⟨uF F 62 0 0, A2, ?_, hM0.plan sa rfl (fun k n g h8 hkj hk6 h => b2 _ _ _ h8 hkj (a3 _ _ _ h8 hk6 h)) hj b3, (KC.fld F A 0 0).tr (KC.sA sa rfl)⟩
      refine rn_in m_Mo_make rfl ⟨rfl, rfl⟩ ?_
      show ev _ t_Mo_make 0 [.ref 62, .int (nI i), .int (nI 2), .int (nI j), .float 0, .float 0] [] _ _
      refine model Y F A hM _ ?_
      repeat (refine ev_np [] rfl rfl rfl ?_)
      refine ev_vc rfl (by rfl) (by rfl) rfl (a1) ?_
      repeat (refine ev_np [105] rfl rfl rfl ?_)
      exact b4 _ _
  · have hk1 : k < 2 := by omega
    refine ⟨nI n, sPlan S j (n, gset2 g (2 * k)), sPlan_wf W (gset2_wf wi (by omega)), fun Y F A hC => ?_, fun Y F A hM => ?_⟩
    · have hci := hC.2.1 i hi
      rw [← hn, ← hg] at hci
      obtain ⟨F1, A1, a1, a2, a3, a4⟩ := c_Plan_become (Y := Y) 78 PL29 (PLi hi) hci
      obtain ⟨A2, b1, b2, b3⟩ := c_Plan_settle (Y := Y) 78 PL29 a4 (decide (k = 1))
      rw [show (bif decide (k = 1) then 2 else 0) = 2 * k by
        by_cases e : k = 1
        · subst e; rfl
        · rw [show k = 0 by omega]; rfl] at b3
      obtain ⟨F3, A3, c1, c2, c3, c4⟩ := clasE Y F1 A2 n _ b3
      have sa : sA ((11 + 3 * j + 1) :: (11 + 3 * j + 2) :: [30, 31]) A A3 := (a2.mono (by simp)).tr ((b2.mono (by simp)).tr (c1.mono (by simp)))
      have sf : sF ((11 + 3 * j) * 100 :: [2900]) F F3 := (a3.mono (by simp)).tr (c2.mono (by simp))
      refine ⟨F3, A3, ?_, hC.plan hj sa sf ⟨rfl, rfl⟩ c3, KM.of2 sf sa (fun x hx => by simp at hx; omega) (fun x hx => by simp at hx; omega)⟩
      refine rn_in m_MM_make rfl ⟨rfl, rfl⟩ ?_
      show ev _ t_MM_make 0 [.ref 9, .int (nI i), .int (nI k), .int (nI j)] [] _ _
      refine clas Y F A hC _ ?_
      repeat (refine ev_np [] rfl rfl rfl ?_)
      refine ev_it (fun z => hk2 ((nI_eq (a := k) (b := 2) (by omega) (by omega)).mp z)) ?_
      repeat (first | refine ev_np [] rfl rfl rfl ?_ | refine ev_grs [] rfl rfl (by rfl) (by rfl) ?_)
      refine ev_aa rfl hi ?_
      refine ev_vc rfl (by rfl) PL29.1 rfl a1 ?_
      repeat (first | refine ev_np [] rfl rfl rfl ?_ | refine ev_grs [] rfl rfl (by rfl) (by rfl) ?_)
      by_cases e : k = 1
      · subst e
        repeat (refine ev_np [] rfl rfl rfl ?_)
        refine ev_vc rfl (by rfl) PL29.1 rfl b1 ?_
        exact c4
      · have : k = 0 := by omega
        subst this
        repeat (refine ev_np [] rfl rfl rfl ?_)
        refine ev_vc rfl (by rfl) PL29.1 rfl b1 ?_
        exact c4
    · have hM0 := hM.thrown 0
      have hmi := hM0.2.1 i hi
      rw [← hn, ← hg] at hmi
      obtain ⟨A1, a1, a2, a3, a4⟩ := c_Mo_copies (Y := Y) (F := uF F 62 0 0) 78 (i := i) (j := 6) (by omega) (by decide) hmi
      have hix : ∀ (a k : Nat), 108 * nI a + nI k = nI (108 * a + k) := fun a k => by rw [show (108 : Int32) = nI 108 from rfl, pk_mul, nI_add]
      have hi1 : MP A1 i n g := a4 _ _ _ (by omega) (by omega) hmi
      obtain ⟨A2, ⟨i1, i2⟩, h3⟩ := lp_ex (α := Nat → Nat → Int32) (fun m B => sA [63] A1 B ∧ ∀ z, B 63 z = if 648 ≤ z ∧ z < 648 + m then nI (gk (gset2 g (2 * k)) (z - 648)) else A1 63 z) (fun m B q => ∀ v5 : Value, ev 79 t_Mo_make 53 [.ref 62, .int (nI i), .int (nI k), .int (nI j), .int (nI m), v5] [] (hp Y (uF F 62 0 0) B) q) 108 (fun m B hm hI => by
        obtain ⟨i1, i2⟩ := hI
        have ev0 : B 63 (108 * i + m) = nI (gk g m) := by
          rw [i2, if_neg (by omega)]
          unfold gk
          rw [← hi1.2 (m / 6 / 3) (m / 6 % 3) (m % 6) (by omega) (by omega) (by omega)]
          congr 1
          omega
        have hle : gk g m ≤ 2 := (wi.2 _ _ _).1
        have hgk : gk (gset2 g (2 * k)) m = if gk g m = 1 then 2 * k else gk g m := rfl
        refine ⟨va_up B 63 (upd (B 63) (648 + m) (nI (gk (gset2 g (2 * k)) m))), ⟨i1.tr (sA.up (by decide)), fun z => ?_⟩, fun q hq v5 => ?_⟩
        · rw [va_up_s]
          unfold upd
          by_cases e : z = 648 + m
          · rw [if_pos e, if_pos (by omega), show z - 648 = m by omega]
          · rw [if_neg e, i2]
            by_cases e2 : 648 ≤ z ∧ z < 648 + m
            · rw [if_pos e2, if_pos (by omega)]
            · rw [if_neg e2, if_neg (by omega)]
        · rw [nI_succ] at hq
          repeat (refine ev_np [] rfl rfl rfl ?_)
          refine ev_ie (nI_ge (b := 108) hm (by omega)) ?_
          repeat (first | refine ev_np [] rfl rfl rfl ?_ | refine ev_grs [] rfl rfl (by rfl) (by rfl) ?_)
          refine ev_an rfl (by rfl) (hix i m) (by omega) rfl ?_
          rw [ev0]
          repeat (first | refine ev_np [] rfl rfl rfl ?_ | refine ev_grs [] rfl rfl (by rfl) (by rfl) ?_)
          by_cases e : gk g m = 1
          · rw [hgk, if_pos e] at hq
            rw [e]
            repeat (refine ev_np [] rfl rfl rfl ?_)
            refine ev_am rfl (by rfl) (j := 648 + m) (by rw [show (648 : Int32) = nI 648 from rfl, nI_add]) (by omega) rfl ?_
            repeat (refine ev_np [53] rfl rfl rfl ?_)
            rw [show 2 * nI k = nI (2 * k) by rw [show (2 : Int32) = nI 2 from rfl, pk_mul]]
            exact hq _
          · rw [hgk, if_neg e] at hq
            refine ev_it (fun z => e ((nI_eq (a := gk g m) (b := 1) (by omega) (by omega)).mp z)) ?_
            repeat (refine ev_np [] rfl rfl rfl ?_)
            refine ev_am rfl (by rfl) (j := 648 + m) (by rw [show (648 : Int32) = nI 648 from rfl, nI_add]) (by omega) rfl ?_
            repeat (refine ev_np [53] rfl rfl rfl ?_)
            exact hq _) 108 0 A1 rfl ⟨sA.rf, fun z => by rw [if_neg (by omega)]⟩
      have h6 : MP A2 6 n (gset2 g (2 * k)) := by
        refine ⟨by rw [i1 64 (by decide)]; exact a3.1, fun s l t hs hl ht => ?_⟩
        rw [i2, if_pos (by omega)]
        unfold gk
        rw [show 108 * 6 + 18 * s + 6 * l + t - 648 = 18 * s + 6 * l + t by omega, show (18 * s + 6 * l + t) / 6 / 3 = s by omega, show (18 * s + 6 * l + t) / 6 % 3 = l by omega, show (18 * s + 6 * l + t) % 6 = t by omega]
      obtain ⟨A3, b1, b2, b3, b4⟩ := modelE Y (uF F 62 0 0) A2 n (gset2 g (2 * k)) h6
      have sa : sA (63 :: 64 :: []) A A3 := a2.tr ((i1.mono (by decide)).tr (b1.mono (by decide)))
      refine ⟨uF F 62 0 0, A3, ?_, hM0.plan sa rfl (fun k' n' g' h8 hkj hk6 h => b2 _ _ _ h8 hkj ?_) hj b3, (KC.fld F A 0 0).tr (KC.sA sa rfl)⟩
      · refine rn_in m_Mo_make rfl ⟨rfl, rfl⟩ ?_
        show ev _ t_Mo_make 0 [.ref 62, .int (nI i), .int (nI k), .int (nI j), .float 0, .float 0] [] _ _
        refine model Y F A hM _ ?_
        repeat (refine ev_np [] rfl rfl rfl ?_)
        refine ev_it (fun z => hk2 ((nI_eq (a := k) (b := 2) (by omega) (by omega)).mp z)) ?_
        repeat (refine ev_np [] rfl rfl rfl ?_)
        refine ev_vc rfl (by rfl) (by rfl) rfl (a1) ?_
        repeat (refine ev_np [53] rfl rfl rfl ?_)
        refine h3 _ (fun v5 => ?_) _
        repeat (refine ev_np [105] rfl rfl rfl ?_)
        exact b4 _ _
      · have h1 := a4 _ _ _ h8 hk6 h
        refine ⟨by rw [i1 64 (by decide)]; exact h1.1, fun s l t hs hl ht => ?_⟩
        rw [i2, if_neg (by omega)]
        exact h1.2 s l t hs hl ht
end MAKE
end
section
/-! ===== plans side by side: what clashes, what is come to ===== -/
section DROP
variable (n1 n2 : Nat) (g1 g2 : Nat → Nat → Nat → Nat)
def clx (r : Nat → Nat → Bool) (s t l : Nat) : Bool := lack r (fun x => decide (2 ≤ g1 s l x)) (fun y => decide (1 ≤ g2 t l y)) 6 || lack (fun a b => r b a) (fun y => decide (2 ≤ g2 t l y)) (fun x => decide (1 ≤ g1 s l x)) 6
def clh (r : Nat → Nat → Bool) (s t : Nat) : Bool := (List.range 3).any (clx g1 g2 r s t)
def dgo (r : Nat → Nat → Bool) (K : Nat) : Bool := r (K / 6) (K % 6) && clh g1 g2 r (K / 6) (K % 6)
def dst (K : Nat) (r : Nat → Nat → Bool) : Nat → Nat → Bool := bif dgo g1 g2 r K then (fun a b => r a b && !(a == K / 6 && b == K % 6)) else r
def dfo : Nat → (Nat → Nat → Bool) → Nat → Nat → Bool
  | 0, r => r
  | K + 1, r => dst g1 g2 K (dfo K r)
def mor (K : Nat) (r : Nat → Nat → Bool) : Bool := (List.range K).any (fun k => dgo g1 g2 (dfo g1 g2 k r) k)
def dR : Nat → Nat → Nat → Bool
  | 0 => fun s t => decide (s < n1) && decide (t < n2)
  | m + 1 => dfo g1 g2 36 (dR m)
end DROP
section DROP2
variable {n1 n2 : Nat} {g1 g2 : Nat → Nat → Nat → Nat}
theorem dst_le {K : Nat} {r : Nat → Nat → Bool} {a b : Nat} (h : dst g1 g2 K r a b = true) : r a b = true := by
  unfold dst at h
  cases e : dgo g1 g2 r K with
  | false => rw [e] at h; exact h
  | true =>
    rw [e] at h
    have h : (r a b && !(a == K / 6 && b == K % 6)) = true := h
    rw [Bool.and_eq_true] at h
    exact h.1
theorem dfo_le {r : Nat → Nat → Bool} {a b : Nat} : ∀ K, dfo g1 g2 K r a b = true → r a b = true := by
  intro K
  induction K with
  | zero => exact fun h => h
  | succ K ih => exact fun h => ih (dst_le h)
theorem dfo_le2 {r : Nat → Nat → Bool} {a b K : Nat} : ∀ m, dfo g1 g2 (K + m) r a b = true → dfo g1 g2 K r a b = true := by
  intro m
  induction m with
  | zero => exact fun h => h
  | succ m ih => exact fun h => ih (dst_le h)
theorem dR_in : ∀ m {a b : Nat}, dR n1 n2 g1 g2 m a b = true → a < n1 ∧ b < n2 := by
  intro m
  induction m with
  | zero => intro a b h; simpa [dR] using h
  | succ m ih => exact fun h => ih (dfo_le 36 h)
theorem dfo_same {r : Nat → Nat → Bool} : ∀ K, mor g1 g2 K r = false → dfo g1 g2 K r = r := by
  intro K
  induction K with
  | zero => intro _; rfl
  | succ K ih =>
    intro h
    unfold mor at h
    rw [anyB, Bool.or_eq_false_iff] at h
    have h1 := ih h.1
    show dst g1 g2 K (dfo g1 g2 K r) = r
    unfold dst
    rw [h.2]
    exact h1
theorem dR_keep {m : Nat} (h : mor g1 g2 36 (dR n1 n2 g1 g2 m) = false) : ∀ k, dR n1 n2 g1 g2 (m + k) = dR n1 n2 g1 g2 m := by
  intro k
  induction k with
  | zero => rfl
  | succ k ih =>
    show dfo g1 g2 36 (dR n1 n2 g1 g2 (m + k)) = _
    rw [ih]
    exact dfo_same 36 h
theorem dfo_less {r : Nat → Nat → Bool} (h : mor g1 g2 36 r = true) : cnt (fun k => dfo g1 g2 36 r (k / 6) (k % 6)) 36 < cnt (fun k => r (k / 6) (k % 6)) 36 := by
  obtain ⟨k, hk, h⟩ := List.any_eq_true.mp h
  have hk := List.mem_range.mp hk
  refine cnt_lt 36 (fun j _ hj => dfo_le 36 hj) ⟨k, hk, ?_, ?_⟩
  · cases e : dfo g1 g2 36 r (k / 6) (k % 6) with
    | false => rfl
    | true =>
      have h1 := dfo_le2 (K := k + 1) (36 - (k + 1)) (by rw [show k + 1 + (36 - (k + 1)) = 36 by omega]; exact e)
      have h2 : dst g1 g2 k (dfo g1 g2 k r) (k / 6) (k % 6) = true := h1
      unfold dst at h2
      rw [h] at h2
      simp at h2
  · unfold dgo at h
    rw [Bool.and_eq_true] at h
    exact dfo_le k h.1
theorem ar1 {a b : Nat} (h : a ≤ b) : a + 0 ≤ b := h
theorem ar2 {a b m N : Nat} (h : a < b) (g : b + m ≤ N) : a + (m + 1) ≤ N := by omega
theorem dR_cnt : ∀ m, (∃ m0, m0 < m ∧ mor g1 g2 36 (dR n1 n2 g1 g2 m0) = false) ∨ cnt (fun k => dR n1 n2 g1 g2 m (k / 6) (k % 6)) 36 + m ≤ 36 := by
  intro m
  induction m with
  | zero => right; exact ar1 (cnt_le (fun k => dR n1 n2 g1 g2 0 (k / 6) (k % 6)) 36)
  | succ m ih =>
    rcases ih with ⟨m0, h1, h2⟩ | ih
    · exact Or.inl ⟨m0, by omega, h2⟩
    · cases e : mor g1 g2 36 (dR n1 n2 g1 g2 m) with
      | false => exact Or.inl ⟨m, by omega, e⟩
      | true =>
        right
        exact ar2 (dfo_less e) ih
theorem dR_end : ∃ m0, m0 ≤ 36 ∧ mor g1 g2 36 (dR n1 n2 g1 g2 m0) = false := by
  rcases dR_cnt (n1 := n1) (n2 := n2) (g1 := g1) (g2 := g2) 37 with ⟨m0, h1, h2⟩ | h
  · exact ⟨m0, by omega, h2⟩
  · exact absurd (Nat.le_trans (Nat.le_add_left _ _) h) (by decide)
theorem dR_37 {m : Nat} (hm : m ≤ 37) (h : mor g1 g2 36 (dR n1 n2 g1 g2 m) = false) : dR n1 n2 g1 g2 m = dR n1 n2 g1 g2 37 := by
  have := dR_keep h (37 - m)
  rw [show m + (37 - m) = 37 by omega] at this
  exact this.symm
theorem dR_37e : mor g1 g2 36 (dR n1 n2 g1 g2 37) = false := by
  obtain ⟨m0, h1, h2⟩ := dR_end (n1 := n1) (n2 := n2) (g1 := g1) (g2 := g2)
  rw [← dR_37 (by omega) h2]
  exact h2
end DROP2
/-- how many pairs have numbers; a pair's number and one more, or 0; the pairs in their order; the arrows -/
abbrev JS : Type := Nat × (Nat → Nat) × (Nat → Nat) × (Nat → Nat → Nat → Nat)
def upN (f : Nat → Nat) (k v : Nat) : Nat → Nat := fun j => if j = k then v else f j
def jv (b : Bool) (x y : Nat) : Nat := bif b then max x y else min x y
section JSP
variable (g1 g2 : Nat → Nat → Nat → Nat) (r : Nat → Nat → Bool) (ao : Bool)
def jc (n l K : Nat) (st : JS) : Bool := decide (1 ≤ g1 (st.2.2.1 n / 6) l (K / 6)) && decide (1 ≤ g2 (st.2.2.1 n % 6) l (K % 6)) && r (K / 6) (K % 6)
def ja (K : Nat) (st : JS) : JS := if st.2.1 K = 0 then (st.1 + 1, upN st.2.1 K (st.1 + 1), upN st.2.2.1 st.1 K, st.2.2.2) else st
def jw (n l K : Nat) (st : JS) : Nat := jv ao (g1 (st.2.2.1 n / 6) l (K / 6)) (g2 (st.2.2.1 n % 6) l (K % 6))
def js (n l K : Nat) (st : JS) : JS := bif jc g1 g2 r n l K st then ((ja K st).1, (ja K st).2.1, (ja K st).2.2.1, gset (ja K st).2.2.2 n l ((ja K st).2.1 K - 1) (jw g1 g2 ao n l K st)) else st
def jK (n l : Nat) : Nat → JS → JS
  | 0, st => st
  | K + 1, st => js g1 g2 r ao n l K (jK n l K st)
def jL (n : Nat) : Nat → JS → JS
  | 0, st => st
  | l + 1, st => jK g1 g2 r ao n l 36 (jL n l st)
def jN : Nat → JS → JS
  | 0, st => st
  | n + 1, st => jL g1 g2 r ao n 3 (jN n st)
end JSP
def js0 : JS := (1, fun k => if k = 0 then 1 else 0, fun _ => 0, fun _ _ _ => 0)
/-- what holds at the place J -/
def jI (st : JS) (J : Nat) : Prop := (∀ K, K < 36 → st.2.1 K ≠ 0 → st.2.1 K ≤ st.1 ∧ st.2.2.1 (st.2.1 K - 1) = K) ∧ (∀ b, b < st.1 → st.2.2.1 b < 36 ∧ st.2.1 (st.2.2.1 b) = b + 1) ∧ (∀ a l b, st.2.2.2 a l b ≤ 2 ∧ (st.2.2.2 a l b ≠ 0 → b < st.1 ∧ l < 3 ∧ (a * 3 + l) * 36 + st.2.2.1 b < J)) ∧ (1 ≤ st.1 ∧ st.1 ≤ cnt (fun k => decide (st.2.1 k ≠ 0)) 36)
section JIN
variable {g1 g2 : Nat → Nat → Nat → Nat} {r : Nat → Nat → Bool} {ao : Bool}
theorem jI.mono {st : JS} {J J' : Nat} (h : jI st J) (hJ : J ≤ J') : jI st J' := ⟨h.1, h.2.1, fun a l b => ⟨(h.2.2.1 a l b).1, fun z => by obtain ⟨p, q, w⟩ := (h.2.2.1 a l b).2 z; exact ⟨p, q, by omega⟩⟩, h.2.2.2⟩
theorem ja_I {st : JS} {J K : Nat} (h : jI st J) (hK : K < 36) : jI (ja K st) J ∧ st.1 ≤ (ja K st).1 ∧ (ja K st).2.1 K ≠ 0 ∧ (ja K st).2.2.2 = st.2.2.2 ∧ (∀ b, b < st.1 → (ja K st).2.2.1 b = st.2.2.1 b) := by
  unfold ja
  split
  · rename_i e
    obtain ⟨i1, i2, i3, i4, i5⟩ := h
    refine ⟨⟨fun K' hK' => ?_, fun b hb => ?_, fun a l b => ⟨(i3 a l b).1, fun z => ?_⟩, ?_, ?_⟩, Nat.le_succ _, ?_, rfl, fun b hb => ?_⟩
    · show upN st.2.1 K (st.1 + 1) K' ≠ 0 → upN st.2.1 K (st.1 + 1) K' ≤ st.1 + 1 ∧ upN st.2.2.1 st.1 K (upN st.2.1 K (st.1 + 1) K' - 1) = K'
      by_cases eK : K' = K
      · subst eK
        rw [show upN st.2.1 K' (st.1 + 1) K' = st.1 + 1 from if_pos rfl]
        intro _
        exact ⟨Nat.le_refl _, if_pos (by omega)⟩
      · rw [show upN st.2.1 K (st.1 + 1) K' = st.2.1 K' from if_neg eK]
        intro hne
        obtain ⟨a1, a2⟩ := i1 K' hK' hne
        exact ⟨by omega, by rw [show upN st.2.2.1 st.1 K (st.2.1 K' - 1) = st.2.2.1 (st.2.1 K' - 1) from if_neg (by omega)]; exact a2⟩
    · show upN st.2.2.1 st.1 K b < 36 ∧ upN st.2.1 K (st.1 + 1) (upN st.2.2.1 st.1 K b) = b + 1
      by_cases eb : b = st.1
      · subst eb
        rw [show upN st.2.2.1 st.1 K st.1 = K from if_pos rfl]
        exact ⟨hK, if_pos rfl⟩
      · have hb : b < st.1 := by have : b < st.1 + 1 := hb; omega
        rw [show upN st.2.2.1 st.1 K b = st.2.2.1 b from if_neg eb]
        obtain ⟨a1, a2⟩ := i2 b hb
        refine ⟨a1, ?_⟩
        have : st.2.2.1 b ≠ K := fun z => by rw [z] at a2; omega
        rw [show upN st.2.1 K (st.1 + 1) (st.2.2.1 b) = st.2.1 (st.2.2.1 b) from if_neg this]
        exact a2
    · obtain ⟨p, q, w⟩ := (i3 a l b).2 z
      refine ⟨Nat.lt_succ_of_lt p, q, ?_⟩
      show (a * 3 + l) * 36 + upN st.2.2.1 st.1 K b < J
      rw [show upN st.2.2.1 st.1 K b = st.2.2.1 b from if_neg (by omega)]
      exact w
    · exact Nat.le_succ_of_le i4
    · have := cnt_lt (f := fun k => decide (st.2.1 k ≠ 0)) (g := fun k => decide (upN st.2.1 K (st.1 + 1) k ≠ 0)) 36 (fun k _ hk => by
        by_cases eK : k = K
        · subst eK
          have : st.2.1 k ≠ 0 := of_decide_eq_true hk
          exact absurd e this
        · rw [show upN st.2.1 K (st.1 + 1) k = st.2.1 k from if_neg eK]
          exact hk) ⟨K, hK, by simp [e], by simp [upN]⟩
      show st.1 + 1 ≤ _
      have e2 : cnt (fun k => decide (upN st.2.1 K (st.1 + 1) k ≠ 0)) 36 = cnt (fun k => decide ((st.1 + 1, upN st.2.1 K (st.1 + 1), upN st.2.2.1 st.1 K, st.2.2.2).2.1 k ≠ 0)) 36 := rfl
      omega
    · show upN st.2.1 K (st.1 + 1) K ≠ 0
      simp [upN]
    · exact if_neg (by omega)
  · rename_i e
    exact ⟨h, Nat.le_refl _, e, rfl, fun _ _ => rfl⟩
/-- where an arrow comes to stand there was none -/
theorem jold {st : JS} {n l K : Nat} (h : jI st ((n * 3 + l) * 36 + K)) (hK : K < 36) : (ja K st).2.2.2 n l ((ja K st).2.1 K - 1) = 0 := by
  refine Classical.byContradiction fun hne => ?_
  obtain ⟨h1, h2, h3, h4, h5⟩ := ja_I h hK
  obtain ⟨p, q, w⟩ := (h1.2.2.1 n l _).2 hne
  have := (h1.1 K hK h3).2
  omega
theorem jP (st : JS) {J : Nat} (h : jI st J) : st.1 ≤ 36 := Nat.le_trans h.2.2.2.2 (cnt_le _ 36)
theorem jP2 {st : JS} {J K : Nat} (h : jI st J) (hK : K < 36) (h0 : st.2.1 K = 0) : st.1 < 36 := by
  have h1 := cnt_lt (f := fun k => decide (st.2.1 k ≠ 0)) (g := fun _ => true) 36 (fun _ _ _ => rfl) ⟨K, hK, by simp [h0], rfl⟩
  have h2 := cnt_le (fun _ => true) 36
  have := h.2.2.2.2
  omega
theorem jv_le {b : Bool} {x y : Nat} (hx : x ≤ 2) (hy : y ≤ 2) : jv b x y ≤ 2 := by
  unfold jv
  cases b
  · show min x y ≤ 2; omega
  · show max x y ≤ 2; omega
theorem js_I (hg1 : ∀ s l t, g1 s l t ≤ 2) (hg2 : ∀ s l t, g2 s l t ≤ 2) {st : JS} {n l K : Nat} (h : jI st ((n * 3 + l) * 36 + K)) (hl : l < 3) (hK : K < 36) : jI (js g1 g2 r ao n l K st) ((n * 3 + l) * 36 + K + 1) ∧ st.1 ≤ (js g1 g2 r ao n l K st).1 := by
  unfold js
  cases jc g1 g2 r n l K st with
  | false => exact ⟨h.mono (by omega), Nat.le_refl _⟩
  | true =>
    obtain ⟨h1, h2, h3, h4, h5⟩ := ja_I h hK
    obtain ⟨i1, i2, i3, i4⟩ := h1
    refine ⟨⟨i1, i2, fun a l' b => ?_, i4⟩, h2⟩
    show gset (ja K st).2.2.2 n l ((ja K st).2.1 K - 1) (jw g1 g2 ao n l K st) a l' b ≤ 2 ∧ (gset (ja K st).2.2.2 n l ((ja K st).2.1 K - 1) (jw g1 g2 ao n l K st) a l' b ≠ 0 → b < (ja K st).1 ∧ l' < 3 ∧ (a * 3 + l') * 36 + (ja K st).2.2.1 b < (n * 3 + l) * 36 + K + 1)
    unfold gset
    split
    · rename_i e
      obtain ⟨rfl, rfl, rfl⟩ := e
      refine ⟨jv_le (hg1 _ _ _) (hg2 _ _ _), fun _ => ?_⟩
      obtain ⟨q1, q2⟩ := i1 K hK h3
      rw [q2]
      exact ⟨by omega, hl, by omega⟩
    · refine ⟨(i3 a l' b).1, fun z => ?_⟩
      obtain ⟨p, q, w⟩ := (i3 a l' b).2 z
      exact ⟨p, q, by omega⟩
theorem jK_I (hg1 : ∀ s l t, g1 s l t ≤ 2) (hg2 : ∀ s l t, g2 s l t ≤ 2) {st : JS} {n l : Nat} (h : jI st ((n * 3 + l) * 36)) (hl : l < 3) : ∀ K, K ≤ 36 → jI (jK g1 g2 r ao n l K st) ((n * 3 + l) * 36 + K) ∧ st.1 ≤ (jK g1 g2 r ao n l K st).1 := by
  intro K
  induction K with
  | zero => exact fun _ => ⟨h, Nat.le_refl _⟩
  | succ K ih =>
    intro hK
    obtain ⟨a, b⟩ := ih (by omega)
    obtain ⟨c, e⟩ := js_I (r := r) (ao := ao) hg1 hg2 a hl (by omega)
    exact ⟨c, Nat.le_trans b e⟩
theorem jL_I (hg1 : ∀ s l t, g1 s l t ≤ 2) (hg2 : ∀ s l t, g2 s l t ≤ 2) {st : JS} {n : Nat} (h : jI st (n * 108)) : ∀ l, l ≤ 3 → jI (jL g1 g2 r ao n l st) ((n * 3 + l) * 36) ∧ st.1 ≤ (jL g1 g2 r ao n l st).1 := by
  intro l
  induction l with
  | zero => exact fun _ => ⟨h.mono (by omega), Nat.le_refl _⟩
  | succ l ih =>
    intro hl
    obtain ⟨a, b⟩ := ih (by omega)
    obtain ⟨c, e⟩ := jK_I (r := r) (ao := ao) hg1 hg2 a (by omega) 36 (Nat.le_refl _)
    exact ⟨c.mono (by omega), Nat.le_trans b e⟩
theorem js0_I : jI js0 0 := by
  refine ⟨fun K _ h => ?_, fun b hb => ?_, fun a l b => ⟨Nat.zero_le _, fun h => absurd rfl h⟩, Nat.le_refl 1, by decide⟩
  · have h : (if K = 0 then 1 else 0) ≠ 0 := h
    have hK : K = 0 := by
      refine Classical.byContradiction fun e => ?_
      rw [if_neg e] at h
      exact h rfl
    subst hK
    exact ⟨Nat.le_refl 1, rfl⟩
  · have : b = 0 := by have : b < 1 := hb; omega
    subst this
    exact ⟨by decide, rfl⟩
theorem jN_I (hg1 : ∀ s l t, g1 s l t ≤ 2) (hg2 : ∀ s l t, g2 s l t ≤ 2) : ∀ n, jI (jN g1 g2 r ao n js0) (n * 108) := by
  intro n
  induction n with
  | zero => exact js0_I
  | succ n ih => exact (jL_I hg1 hg2 ih 3 (Nat.le_refl 3)).1.mono (by omega)
theorem jN_mono (hg1 : ∀ s l t, g1 s l t ≤ 2) (hg2 : ∀ s l t, g2 s l t ≤ 2) {n : Nat} : ∀ m, (jN g1 g2 r ao n js0).1 ≤ (jN g1 g2 r ao (n + m) js0).1 := by
  intro m
  induction m with
  | zero => exact Nat.le_refl _
  | succ m ih => exact Nat.le_trans ih (jL_I hg1 hg2 (jN_I hg1 hg2 (n + m)) 3 (Nat.le_refl 3)).2
/-- where all that was come to has been looked at -/
theorem jN_end (hg1 : ∀ s l t, g1 s l t ≤ 2) (hg2 : ∀ s l t, g2 s l t ≤ 2) : ∃ e, e ≤ 36 ∧ (jN g1 g2 r ao e js0).1 ≤ e ∧ ∀ n, n < e → n < (jN g1 g2 r ao n js0).1 := by
  obtain ⟨e, h1, h2⟩ := pk_least (fun n => (jN g1 g2 r ao n js0).1 ≤ n) ⟨36, jP _ (jN_I hg1 hg2 36)⟩
  refine ⟨e, ?_, h1, fun n hn => by have := h2 n hn; omega⟩
  refine Classical.byContradiction fun hc => h2 36 (by omega) (jP _ (jN_I hg1 hg2 36))
theorem jN_wf (hg1 : ∀ s l t, g1 s l t ≤ 2) (hg2 : ∀ s l t, g2 s l t ≤ 2) {e : Nat} (h1 : ∀ n, n < e → n < (jN g1 g2 r ao n js0).1) (h6 : (jN g1 g2 r ao e js0).1 ≤ 6) : GW (jN g1 g2 r ao e js0).1 (jN g1 g2 r ao e js0).2.2.2 := by
  obtain ⟨i1, i2, i3, i4, i5⟩ := jN_I (r := r) (ao := ao) hg1 hg2 e
  refine ⟨⟨i4, h6⟩, fun a l b => ⟨(i3 a l b).1, fun z => ?_⟩⟩
  obtain ⟨p, q, w⟩ := (i3 a l b).2 z
  have hae : a < e := by omega
  have h2 := h1 a hae
  have h3 := jN_mono (r := r) (ao := ao) hg1 hg2 (n := a) (e - a)
  rw [show a + (e - a) = e by omega] at h3
  exact ⟨by omega, q, p⟩
/-- a step that does nothing -/
theorem js_0 {st : JS} {n l K : Nat} (h : jc g1 g2 r n l K st = false) : js g1 g2 r ao n l K st = st := by
  unfold js
  rw [h]
  rfl
end JIN
end
section
/-! ===== class Joiner: clashes ===== -/
section JOI
variable {Y : Nat × (Nat → Int32)} {F A : Nat → Nat → Int32} {p q n1 n2 : Nat} {g1 g2 : Nat → Nat → Nat → Nat} (d : Nat)
theorem c_Joiner_clashes (hp0 : PL p) (hq0 : PL q) (hcp : CP F A p n1 g1) (hcq : CP F A q n2 g2) {r : Nat → Nat → Bool} (hc : CR A 53 r) {s t : Nat} (hs : s < 6) (ht : t < 6) : xa_rn xa_ms (d + 3) n_Joiner_clashes [.ref 52, .ref p, .ref q, .int (nI s), .int (nI t)] (hp Y F A) (some (.int (z01 (clh g1 g2 r s t)))) (hp Y F A) := by
  refine rn_in m_Joiner_clashes rfl ⟨rfl, rfl⟩ ?_
  show ev _ t_Joiner_clashes 0 [.ref 52, .ref p, .ref q, .int (nI s), .int (nI t), .float 0] [] _ _
  repeat (refine ev_np [3] rfl rfl rfl ?_)
  have key : ∀ m k, k + m = 3 → (List.range k).any (clx g1 g2 r s t) = false → ev (d + 2) t_Joiner_clashes 3 [.ref 52, .ref p, .ref q, .int (nI s), .int (nI t), .int (nI k)] [] (hp Y F A) (some (.int (z01 (clh g1 g2 r s t))), hp Y F A) := by
    intro m
    induction m with
    | zero =>
      intro k hk h
      have : k = 3 := by omega
      subst this
      rw [show clh g1 g2 r s t = false from h]
      repeat (refine ev_np [] rfl rfl rfl ?_)
      exact ev_rz rfl rfl (Or.inl rfl)
    | succ m ih =>
      intro k hk h
      have hk3 : k < 3 := by omega
      have yes : clx g1 g2 r s t k = true → clh g1 g2 r s t = true := fun h => List.any_eq_true.mpr ⟨k, List.mem_range.mpr hk3, h⟩
      repeat (refine ev_np [] rfl rfl rfl ?_)
      refine ev_ie (nI_ge (b := 3) hk3 (by omega)) ?_
      repeat (first | refine ev_np [] rfl rfl rfl ?_ | refine ev_grs [] rfl rfl (by rfl) (by rfl) ?_)
      refine ev_vc rfl (by rfl) hp0.1 rfl (c_Plan_mustFrom d hp0 hs hk3) ?_
      rw [(hcp.2 s k hs hk3).2]
      repeat (refine ev_np [] rfl rfl rfl ?_)
      refine ev_vc rfl (by rfl) hq0.1 rfl (c_Plan_anyFrom d hq0 ht hk3) ?_
      rw [(hcq.2 t k ht hk3).1]
      refine ev_vc rfl (by rfl) (by rfl) rfl (c_Pairs_leftLacks d PR53 hc _ _) ?_
      cases e1 : lack r (fun x => decide (2 ≤ g1 s k x)) (fun y => decide (1 ≤ g2 t k y)) 6 with
      | true =>
        rw [yes (by unfold clx; rw [e1]; rfl)]
        repeat (refine ev_np [] rfl rfl rfl ?_)
        exact ev_rz rfl rfl (Or.inr rfl)
      | false =>
        repeat (first | refine ev_np [] rfl rfl rfl ?_ | refine ev_grs [] rfl rfl (by rfl) (by rfl) ?_)
        refine ev_vc rfl (by rfl) hq0.1 rfl (c_Plan_mustFrom d hq0 ht hk3) ?_
        rw [(hcq.2 t k ht hk3).2]
        repeat (refine ev_np [] rfl rfl rfl ?_)
        refine ev_vc rfl (by rfl) hp0.1 rfl (c_Plan_anyFrom d hp0 hs hk3) ?_
        rw [(hcp.2 s k hs hk3).1]
        refine ev_vc rfl (by rfl) (by rfl) rfl (c_Pairs_rightLacks d PR53 hc _ _) ?_
        cases e2 : lack (fun a b => r b a) (fun y => decide (2 ≤ g2 t k y)) (fun x => decide (1 ≤ g1 s k x)) 6 with
        | true =>
          rw [yes (by unfold clx; rw [e1, e2]; rfl)]
          repeat (refine ev_np [] rfl rfl rfl ?_)
          exact ev_rz rfl rfl (Or.inr rfl)
        | false =>
          repeat (refine ev_np [3] rfl rfl rfl ?_)
          rw [nI_1]
          exact ih (k + 1) (by omega) (by rw [anyB, h]; unfold clx; rw [e1, e2]; rfl)
  exact key 3 0 rfl rfl
theorem dfo_skip {r : Nat → Nat → Bool} {K : Nat} : ∀ m, (∀ k, K ≤ k → k < K + m → r (k / 6) (k % 6) = false) → dfo g1 g2 (K + m) r = dfo g1 g2 K r ∧ mor g1 g2 (K + m) r = mor g1 g2 K r := by
  intro m
  induction m with
  | zero => intro _; exact ⟨rfl, rfl⟩
  | succ m ih =>
    intro h
    obtain ⟨a, b⟩ := ih (fun k h1 h2 => h k h1 (by omega))
    have e : dgo g1 g2 (dfo g1 g2 (K + m) r) (K + m) = false := by
      unfold dgo
      cases e : dfo g1 g2 (K + m) r ((K + m) / 6) ((K + m) % 6) with
      | false => rfl
      | true => have := dfo_le _ e; rw [h (K + m) (by omega) (by omega)] at this; cases this
    constructor
    · show dst g1 g2 (K + m) (dfo g1 g2 (K + m) r) = _
      unfold dst
      rw [e]
      exact a
    · show mor g1 g2 (K + m + 1) r = _
      unfold mor
      rw [anyB, e]
      unfold mor at b
      rw [b, Bool.or_false]
theorem PL_53 (hp0 : PL p) : (¬ p + 1 = 54 ∧ ¬ p + 1 = 55) ∧ (¬ p + 2 = 54 ∧ ¬ p + 2 = 55) := by
  rcases PL_in hp0 with rfl | rfl | rfl | rfl | rfl | rfl | rfl | rfl <;> decide
theorem c_Joiner_dropSome (hp0 : PL p) (hq0 : PL q) (hcp : CP F A p n1 g1) (hcq : CP F A q n2 g2) (hn1 : n1 ≤ 6) (hn2 : n2 ≤ 6) {r : Nat → Nat → Bool} (hr : ∀ a b, r a b = true → a < n1 ∧ b < n2) (hc : CR A 53 r) : ∃ A', xa_rn xa_ms (d + 4) n_Joiner_dropSome [.ref 52, .ref p, .ref q] (hp Y F A) (some (.int (z01 (mor g1 g2 36 r)))) (hp Y F A') ∧ sA [54, 55] A A' ∧ CR A' 53 (dfo g1 g2 36 r) := by
  have hp53 := PL_53 hp0
  have hq53 := PL_53 hq0
  obtain ⟨A1, ⟨i1, i2⟩, h3⟩ := lp_ex (α := Nat → Nat → Int32) (fun s B => sA [54, 55] A B ∧ CR B 53 (dfo g1 g2 (6 * s) r)) (fun s B x => ∀ v5 : Value, ev (d + 3) t_Joiner_dropSome 5 [.ref 52, .ref p, .ref q, .int (z01 (mor g1 g2 (6 * s) r)), .int (nI s), v5] [] (hp Y F B) x) n1 (fun s B hs hI => by
    obtain ⟨i1, i2⟩ := hI
    obtain ⟨B1, ⟨j1, j2⟩, h3⟩ := lp_ex (α := Nat → Nat → Int32) (fun t C => sA [54, 55] A C ∧ CR C 53 (dfo g1 g2 (6 * s + t) r)) (fun t C x => ev (d + 3) t_Joiner_dropSome 17 [.ref 52, .ref p, .ref q, .int (z01 (mor g1 g2 (6 * s + t) r)), .int (nI s), .int (nI t)] [] (hp Y F C) x) n2 (fun t C ht hI => by
      obtain ⟨j1, j2⟩ := hI
      have cp1 : CP F C p n1 g1 := hcp.frame rfl (j1 _ (by simp [hp53.1])) (j1 _ (by simp [hp53.2]))
      have cq1 : CP F C q n2 g2 := hcq.frame rfl (j1 _ (by simp [hq53.1])) (j1 _ (by simp [hq53.2]))
      have e6 : (6 * s + t) / 6 = s := by omega
      have e7 : (6 * s + t) % 6 = t := by omega
      have eD : dfo g1 g2 (6 * s + (t + 1)) r = dst g1 g2 (6 * s + t) (dfo g1 g2 (6 * s + t) r) := rfl
      have eM : mor g1 g2 (6 * s + (t + 1)) r = (mor g1 g2 (6 * s + t) r || dgo g1 g2 (dfo g1 g2 (6 * s + t) r) (6 * s + t)) := by
        show mor g1 g2 (6 * s + t + 1) r = _
        unfold mor
        rw [anyB]
      have head : ∀ x, ev (d + 3) t_Joiner_dropSome 37 [.ref 52, .ref p, .ref q, .int (z01 (mor g1 g2 (6 * s + t) r)), .int (nI s), .int (nI t)] [.int (z01 (dfo g1 g2 (6 * s + t) r s t))] (hp Y F C) x → ev (d + 3) t_Joiner_dropSome 17 [.ref 52, .ref p, .ref q, .int (z01 (mor g1 g2 (6 * s + t) r)), .int (nI s), .int (nI t)] [] (hp Y F C) x := by
        intro x hx
        repeat (refine ev_np [] rfl rfl rfl ?_)
        refine ev_vc rfl (by rfl) hq0.1 rfl (c_Plan_size (d + 2) hq0) ?_
        rw [cq1.1]
        repeat (refine ev_np [] rfl rfl rfl ?_)
        refine ev_ie (nI_ge ht (by omega)) ?_
        repeat (first | refine ev_np [] rfl rfl rfl ?_ | refine ev_grs [] rfl rfl (by rfl) (by rfl) ?_)
        refine ev_vc rfl (by rfl) (by rfl) rfl (c_Pairs_has (d + 1) PR53 j2 (by omega) (by omega)) ?_
        exact hx
      cases h1 : dfo g1 g2 (6 * s + t) r s t with
      | false =>
        have hd : dgo g1 g2 (dfo g1 g2 (6 * s + t) r) (6 * s + t) = false := by unfold dgo; rw [e6, e7, h1]; rfl
        rw [eD, eM, hd]
        refine ⟨C, ⟨j1, ?_⟩, fun x hx => head x ?_⟩
        · unfold dst
          rw [hd]
          exact j2
        · rw [h1]
          rw [nI_succ, Bool.or_false] at hx
          repeat (refine ev_np [17] rfl rfl rfl ?_)
          exact hx
      | true =>
        cases h2 : clh g1 g2 (dfo g1 g2 (6 * s + t) r) s t with
        | false =>
          have hd : dgo g1 g2 (dfo g1 g2 (6 * s + t) r) (6 * s + t) = false := by unfold dgo; rw [e6, e7, h2, Bool.and_false]
          rw [eD, eM, hd]
          refine ⟨C, ⟨j1, ?_⟩, fun x hx => head x ?_⟩
          · unfold dst
            rw [hd]
            exact j2
          · rw [h1]
            rw [nI_succ, Bool.or_false] at hx
            repeat (refine ev_np [] rfl rfl rfl ?_)
            refine ev_vc rfl (by rfl) (by rfl) rfl (c_Joiner_clashes d hp0 hq0 cp1 cq1 j2 (by omega) (by omega)) ?_
            rw [h2]
            repeat (refine ev_np [17] rfl rfl rfl ?_)
            exact hx
        | true =>
          have hd : dgo g1 g2 (dfo g1 g2 (6 * s + t) r) (6 * s + t) = true := by unfold dgo; rw [e6, e7, h1, h2]; rfl
          obtain ⟨C1, b1, b2, b3⟩ := c_Pairs_drop (Y := Y) (F := F) (d + 1) PR53 j2 (s := s) (t := t) (by omega) (by omega)
          rw [eD, eM, hd]
          refine ⟨C1, ⟨j1.tr b2, ?_⟩, fun x hx => head x ?_⟩
          · unfold dst
            rw [hd, e6, e7]
            exact b3
          · rw [h1]
            rw [nI_succ, Bool.or_true] at hx
            repeat (refine ev_np [] rfl rfl rfl ?_)
            refine ev_vc rfl (by rfl) (by rfl) rfl (c_Joiner_clashes d hp0 hq0 cp1 cq1 j2 (by omega) (by omega)) ?_
            rw [h2]
            repeat (first | refine ev_np [] rfl rfl rfl ?_ | refine ev_grs [] rfl rfl (by rfl) (by rfl) ?_)
            refine ev_vc rfl (by rfl) (by rfl) rfl (b1) ?_
            repeat (refine ev_np [17] rfl rfl rfl ?_)
            exact hx) n2 0 B (Nat.zero_add n2) ⟨i1, i2⟩
    have sk := dfo_skip (g1 := g1) (g2 := g2) (r := r) (K := 6 * s + n2) (6 - n2) (fun k h1 h2 => by
      cases e : r (k / 6) (k % 6) with
      | false => rfl
      | true => have := hr _ _ e; omega)
    rw [show 6 * s + n2 + (6 - n2) = 6 * (s + 1) by omega] at sk
    refine ⟨B1, ⟨j1, by rw [sk.1]; exact j2⟩, fun x hx v5 => ?_⟩
    have cp1 : CP F B p n1 g1 := hcp.frame rfl (i1 _ (by simp [hp53.1])) (i1 _ (by simp [hp53.2]))
    have cq1 : CP F B1 q n2 g2 := hcq.frame rfl (j1 _ (by simp [hq53.1])) (j1 _ (by simp [hq53.2]))
    repeat (refine ev_np [] rfl rfl rfl ?_)
    refine ev_vc rfl (by rfl) hp0.1 rfl (c_Plan_size (d + 2) hp0) ?_
    rw [cp1.1]
    repeat (refine ev_np [] rfl rfl rfl ?_)
    refine ev_ie (nI_ge hs (by omega)) ?_
    repeat (refine ev_np [17] rfl rfl rfl ?_)
    refine h3 x ?_
    rw [nI_succ, sk.2] at hx
    repeat (refine ev_np [] rfl rfl rfl ?_)
    refine ev_vc rfl (by rfl) hq0.1 rfl (c_Plan_size (d + 2) hq0) ?_
    rw [cq1.1]
    repeat (refine ev_np [] rfl rfl rfl ?_)
    refine ev_it (nI_le (Nat.le_refl _) (by omega)) ?_
    repeat (refine ev_np [5] rfl rfl rfl ?_)
    exact hx _) n1 0 A (Nat.zero_add n1) ⟨sA.rf, hc⟩
  have sk := dfo_skip (g1 := g1) (g2 := g2) (r := r) (K := 6 * n1) (36 - 6 * n1) (fun k h1 h2 => by
    cases e : r (k / 6) (k % 6) with
    | false => rfl
    | true => have := hr _ _ e; omega)
  rw [show 6 * n1 + (36 - 6 * n1) = 36 by omega] at sk
  refine ⟨A1, ?_, i1, by rw [sk.1]; exact i2⟩
  have cp1 : CP F A1 p n1 g1 := hcp.frame rfl (i1 _ (by simp [hp53.1])) (i1 _ (by simp [hp53.2]))
  rw [sk.2]
  refine rn_in m_Joiner_dropSome rfl ⟨rfl, rfl⟩ ?_
  show ev _ t_Joiner_dropSome 0 [.ref 52, .ref p, .ref q, .float 0, .float 0, .float 0] [] _ _
  repeat (refine ev_np [5] rfl rfl rfl ?_)
  refine h3 _ (fun v5 => ?_) _
  repeat (refine ev_np [] rfl rfl rfl ?_)
  refine ev_vc rfl (by rfl) hp0.1 rfl (c_Plan_size (d + 2) hp0) ?_
  rw [cp1.1]
  repeat (refine ev_np [] rfl rfl rfl ?_)
  refine ev_it (nI_le (Nat.le_refl _) (by omega)) ?_
  repeat (refine ev_np [] rfl rfl rfl ?_)
  exact ev_rz rfl rfl (z01_b _)
theorem c_Joiner_dropClashes (hp0 : PL p) (hq0 : PL q) (hcp : CP F A p n1 g1) (hcq : CP F A q n2 g2) (hn1 : n1 ≤ 6) (hn2 : n2 ≤ 6) (hc : CR A 53 (dR n1 n2 g1 g2 0)) : ∃ A', xa_rn xa_ms (d + 5) n_Joiner_dropClashes [.ref 52, .ref p, .ref q] (hp Y F A) none (hp Y F A') ∧ sA [54, 55] A A' ∧ CR A' 53 (dR n1 n2 g1 g2 37) := by
  have hp53 := PL_53 hp0
  have hq53 := PL_53 hq0
  have key : ∀ c m B more, m + c = 37 → sA [54, 55] A B → CR B 53 (dR n1 n2 g1 g2 m) → (more = false → dR n1 n2 g1 g2 m = dR n1 n2 g1 g2 37) → ∃ A', sA [54, 55] A A' ∧ CR A' 53 (dR n1 n2 g1 g2 37) ∧ ev (d + 4) t_Joiner_dropClashes 5 [.ref 52, .ref p, .ref q, .int (z01 more), .int (nI m)] [] (hp Y F B) (none, hp Y F A') := by
    intro c
    induction c with
    | zero =>
      intro m B more hm h1 h2 h3
      have : m = 37 := by omega
      subst this
      refine ⟨B, h1, h2, ?_⟩
      cases more
      · repeat (refine ev_np [] rfl rfl rfl ?_)
        exact ev_rv rfl
      · repeat (refine ev_np [] rfl rfl rfl ?_)
        exact ev_rv rfl
    | succ c ih =>
      intro m B more hm h1 h2 h3
      cases more with
      | false =>
        refine ⟨B, h1, by rw [← h3 rfl]; exact h2, ?_⟩
        repeat (refine ev_np [] rfl rfl rfl ?_)
        exact ev_rv rfl
      | true =>
        have cp1 : CP F B p n1 g1 := hcp.frame rfl (h1 _ (by simp [hp53.1])) (h1 _ (by simp [hp53.2]))
        have cq1 : CP F B q n2 g2 := hcq.frame rfl (h1 _ (by simp [hq53.1])) (h1 _ (by simp [hq53.2]))
        obtain ⟨B1, b1, b2, b3⟩ := c_Joiner_dropSome (Y := Y) d hp0 hq0 cp1 cq1 hn1 hn2 (r := dR n1 n2 g1 g2 m) (fun a b h => dR_in m h) h2
        obtain ⟨A', a1, a2, a3⟩ := ih (m + 1) B1 (mor g1 g2 36 (dR n1 n2 g1 g2 m)) (by omega) (h1.tr b2) b3 (fun e => by
          rw [← dR_37 (m := m) (by omega) e]
          exact dfo_same 36 e)
        refine ⟨A', a1, a2, ?_⟩
        rw [nI_succ] at a3
        repeat (refine ev_np [] rfl rfl rfl ?_)
        refine ev_ie (nI_nlt (a := 36) (by omega) (by omega)) ?_
        repeat (refine ev_np [] rfl rfl rfl ?_)
        refine ev_vc rfl (by rfl) (by rfl) rfl (b1) ?_
        repeat (refine ev_np [5] rfl rfl rfl ?_)
        exact a3
  obtain ⟨A', a1, a2, a3⟩ := key 37 0 A true rfl sA.rf hc (fun h => by cases h)
  refine ⟨A', ?_, a1, a2⟩
  refine rn_in m_Joiner_dropClashes rfl ⟨rfl, rfl⟩ ?_
  show ev _ t_Joiner_dropClashes 0 [.ref 52, .ref p, .ref q, .float 0, .float 0] [] _ _
  repeat (refine ev_np [5] rfl rfl rfl ?_)
  exact a3
end JOI
end
section
/-! ===== class Joiner: numbers, arrows ===== -/
/-- what the joiner holds -/
def CJ (F A : Nat → Nat → Int32) (st : JS) : Prop := F 52 3 = nI st.1 ∧ (∀ K, K < 36 → A 56 K = if st.2.1 K = 0 then -1 else nI (st.2.1 K - 1)) ∧ (∀ b, b < st.1 → A 57 b = nI (st.2.2.1 b))
section SPR
variable {Y : Nat × (Nat → Int32)} {F A : Nat → Nat → Int32} {p q n1 n2 : Nat} {g1 g2 : Nat → Nat → Nat → Nat} {r : Nat → Nat → Bool} {ao : Bool} (d : Nat)
theorem CJ.frame {F' A' : Nat → Nat → Int32} {st : JS} (h : CJ F A st) (h1 : F' 52 3 = F 52 3) (h2 : A' 56 = A 56) (h3 : A' 57 = A 57) : CJ F' A' st := ⟨h1.trans h.1, by rw [h2]; exact h.2.1, by rw [h3]; exact h.2.2⟩
theorem c_Joiner_numberOf {st : JS} (h : CJ F A st) (hP : st.1 ≤ 6) {s t : Nat} (hs : s < 6) (ht : t < 6) (hb : st.2.1 (6 * s + t) ≤ st.1) : ((ja (6 * s + t) st).1 ≤ 6 → ∃ F' A', xa_rn xa_ms (d + 1) n_Joiner_numberOf [.ref 52, .int (nI s), .int (nI t)] (hp Y F A) (some (.int (nI ((ja (6 * s + t) st).2.1 (6 * s + t) - 1)))) (hp Y F' A') ∧ sA [56, 57] A A' ∧ sF [5203] F F' ∧ CJ F' A' (ja (6 * s + t) st)) ∧ (¬ (ja (6 * s + t) st).1 ≤ 6 → xa_rn xa_ms (d + 1) n_Joiner_numberOf [.ref 52, .int (nI s), .int (nI t)] (hp Y F A) (some (.int (-1))) (hp Y F A)) := by
  obtain ⟨K, hK⟩ : ∃ K, K = 6 * s + t := ⟨_, rfl⟩
  have hK36 : K < 36 := by omega
  have eK : nI s * 6 + nI t = nI K := by rw [show (6 : Int32) = nI 6 from rfl, pk_mul, nI_add, Nat.mul_comm, hK]
  rw [← hK] at hb ⊢
  have head : ∀ x, ev d t_Joiner_numberOf 28 [.ref 52, .int (nI s), .int (nI t), .int (nI K)] [.int (A 56 K)] (hp Y F A) x → ev d t_Joiner_numberOf 0 [.ref 52, .int (nI s), .int (nI t), .float 0] [] (hp Y F A) x := by
    intro x hx
    repeat (refine ev_np [] rfl rfl rfl ?_)
    rw [eK]
    refine ev_ie (nI_pos (by omega)) ?_
    repeat (first | refine ev_np [] rfl rfl rfl ?_ | refine ev_grs [] rfl rfl (by rfl) (by rfl) ?_)
    refine ev_ln rfl (by rfl) ?_
    repeat (refine ev_np [] rfl rfl rfl ?_)
    refine ev_it (nI_lt hK36 (by omega)) ?_
    repeat (first | refine ev_np [] rfl rfl rfl ?_ | refine ev_grs [] rfl rfl (by rfl) (by rfl) ?_)
    refine ev_an rfl (by rfl) rfl hK36 rfl ?_
    exact hx
  by_cases e0 : st.2.1 K = 0
  · have eJ : ja K st = (st.1 + 1, upN st.2.1 K (st.1 + 1), upN st.2.2.1 st.1 K, st.2.2.2) := if_pos e0
    have hA : A 56 K = -1 := by rw [h.2.1 K hK36, if_pos e0]
    rw [eJ]
    constructor
    · intro h6
      have h6 : st.1 + 1 ≤ 6 := h6
      refine ⟨uF F 52 3 (nI st.1 + 1), va_up (va_up A 56 (upd (A 56) K (nI st.1))) 57 (upd (A 57) st.1 (nI K)), ?_, (sA.up (by decide)).tr (sA.up (by decide)), sF.up (by decide), ⟨by rw [uF_s, nI_1], fun K' hK' => ?_, fun b hb' => ?_⟩⟩
      · refine rn_in m_Joiner_numberOf rfl ⟨rfl, rfl⟩ ?_
        show ev _ t_Joiner_numberOf 0 [.ref 52, .int (nI s), .int (nI t), .float 0] [] _ _
        refine head _ ?_
        rw [hA]
        repeat (refine ev_np [] rfl rfl rfl ?_)
        refine ev_gi rfl (by rfl) (by rfl) ?_
        rw [h.1]
        repeat (refine ev_np [] rfl rfl rfl ?_)
        refine ev_ie (nI_ge (b := 6) (by omega) (by omega)) ?_
        repeat (first | refine ev_np [] rfl rfl rfl ?_ | refine ev_grs [] rfl rfl (by rfl) (by rfl) ?_)
        refine ev_gi rfl (by rfl) (by rfl) ?_
        rw [h.1]
        refine ev_am rfl (by rfl) rfl hK36 rfl ?_
        repeat (first | refine ev_np [] rfl rfl rfl ?_ | refine ev_grs [] rfl rfl (by rfl) (by rfl) ?_)
        refine ev_gi rfl (by rfl) (by rfl) ?_
        rw [h.1]
        repeat (refine ev_np [] rfl rfl rfl ?_)
        refine ev_am rfl (by rfl) rfl (by omega) rfl ?_
        repeat (refine ev_np [] rfl rfl rfl ?_)
        refine ev_gi rfl (by rfl) (by rfl) ?_
        rw [h.1]
        repeat (refine ev_np [] rfl rfl rfl ?_)
        refine ev_pf rfl (by rfl) ⟨by rfl, by rfl⟩ ?_
        repeat (first | refine ev_np [] rfl rfl rfl ?_ | refine ev_grs [] rfl rfl (by rfl) (by rfl) ?_)
        refine ev_an rfl (by rfl) rfl hK36 rfl ?_
        refine ev_ri rfl ?_
        rw [va_up_n _ _ (by decide), va_up_s, pk_us]
        show nI st.1 = nI (upN st.2.1 K (st.1 + 1) K - 1)
        rw [show upN st.2.1 K (st.1 + 1) K = st.1 + 1 from if_pos rfl]
        rfl
      · rw [va_up_n _ _ (by decide), va_up_s]
        show upd (A 56) K (nI st.1) K' = if upN st.2.1 K (st.1 + 1) K' = 0 then -1 else nI (upN st.2.1 K (st.1 + 1) K' - 1)
        by_cases e : K' = K
        · subst e
          rw [pk_us, show upN st.2.1 K' (st.1 + 1) K' = st.1 + 1 from if_pos rfl, if_neg (by omega)]
          rfl
        · rw [pk_un e, show upN st.2.1 K (st.1 + 1) K' = st.2.1 K' from if_neg e]
          exact h.2.1 K' hK'
      · rw [va_up_s]
        show upd (A 57) st.1 (nI K) b = nI (upN st.2.2.1 st.1 K b)
        have hb' : b < st.1 + 1 := hb'
        by_cases e : b = st.1
        · subst e
          rw [pk_us, show upN st.2.2.1 st.1 K st.1 = K from if_pos rfl]
        · rw [pk_un e, show upN st.2.2.1 st.1 K b = st.2.2.1 b from if_neg e]
          exact h.2.2 b (by omega)
    · intro h6
      have h6 : ¬ st.1 + 1 ≤ 6 := h6
      refine rn_in m_Joiner_numberOf rfl ⟨rfl, rfl⟩ ?_
      show ev _ t_Joiner_numberOf 0 [.ref 52, .int (nI s), .int (nI t), .float 0] [] _ _
      refine head _ ?_
      rw [hA]
      repeat (refine ev_np [] rfl rfl rfl ?_)
      refine ev_gi rfl (by rfl) (by rfl) ?_
      rw [h.1]
      repeat (refine ev_np [] rfl rfl rfl ?_)
      refine ev_it (nI_le (a := 6) (by omega) (by omega)) ?_
      repeat (first | refine ev_np [] rfl rfl rfl ?_ | refine ev_grs [] rfl rfl (by rfl) (by rfl) ?_)
      refine ev_an rfl (by rfl) rfl hK36 rfl ?_
      exact ev_ri rfl hA
  · have eJ : ja K st = st := if_neg e0
    have hA : A 56 K = nI (st.2.1 K - 1) := by rw [h.2.1 K hK36, if_neg e0]
    rw [eJ]
    refine ⟨fun _ => ⟨F, A, ?_, sA.rf, sF.rf, h⟩, fun h6 => absurd hP h6⟩
    refine rn_in m_Joiner_numberOf rfl ⟨rfl, rfl⟩ ?_
    show ev _ t_Joiner_numberOf 0 [.ref 52, .int (nI s), .int (nI t), .float 0] [] _ _
    refine head _ ?_
    rw [hA]
    repeat (refine ev_np [] rfl rfl rfl ?_)
    refine ev_it (nI_pos' (by omega)) ?_
    repeat (first | refine ev_np [] rfl rfl rfl ?_ | refine ev_grs [] rfl rfl (by rfl) (by rfl) ?_)
    refine ev_an rfl (by rfl) rfl hK36 rfl ?_
    exact ev_ri rfl hA
theorem c_Joiner_arrowOf {x y : Nat} (hx : x ≤ 2) (hy : y ≤ 2) (ao : Bool) {h : xa_H} : xa_rn xa_ms (d + 1) n_Joiner_arrowOf [.int (nI x), .int (nI y), .int (z01 ao)] h (some (.int (nI (if 1 ≤ x ∧ 1 ≤ y then jv ao x y else 0)))) h := by
  have hx3 : x = 0 ∨ x = 1 ∨ x = 2 := by omega
  have hy3 : y = 0 ∨ y = 1 ∨ y = 2 := by omega
  refine rn_in m_Joiner_arrowOf rfl ⟨rfl, rfl⟩ ?_
  show ev _ t_Joiner_arrowOf 0 [.int (nI x), .int (nI y), .int (z01 ao), .float 0] [] _ _
  rcases hx3 with rfl | rfl | rfl <;> rcases hy3 with rfl | rfl | rfl <;> cases ao <;> (repeat (refine ev_np [] rfl rfl rfl ?_)) <;> exact ev_ri rfl rfl
theorem PL_J (hp0 : PL p) (h29 : p ≠ 29) : (¬ p + 1 = 30 ∧ ¬ p + 1 = 31 ∧ ¬ p + 1 = 56 ∧ ¬ p + 1 = 57) ∧ (¬ p + 2 = 30 ∧ ¬ p + 2 = 31 ∧ ¬ p + 2 = 56 ∧ ¬ p + 2 = 57) ∧ ¬ p * 100 = 5203 := by
  rcases PL_in hp0 with rfl | rfl | rfl | rfl | rfl | rfl | rfl | rfl <;> first | decide | exact absurd rfl h29
/-- one pair at one letter -/
theorem c_spread1 (hp0 : PL p) (hq0 : PL q) (hcp : CP F A p n1 g1) (hcq : CP F A q n2 g2) (hg1 : ∀ s l t, g1 s l t ≤ 2) (hg2 : ∀ s l t, g2 s l t ≤ 2) (hr : CR A 53 r) {st : JS} {n l K : Nat} (hJ : jI st ((n * 3 + l) * 36 + K)) (hnP : n < st.1) (hP : st.1 ≤ 6) (hl : l < 3) (hK : K < 36) (hcj : CJ F A st) (h29 : CP F A 29 6 st.2.2.2) : ((js g1 g2 r ao n l K st).1 ≤ 6 → ∃ F' A', sA [30, 31, 56, 57] A A' ∧ sF [5203] F F' ∧ CJ F' A' (js g1 g2 r ao n l K st) ∧ CP F' A' 29 6 (js g1 g2 r ao n l K st).2.2.2 ∧ ∀ x (v8 v9 v10 v11 : Value), (∀ v8 v9 v10 v11 : Value, ev (d + 3) t_Joiner_spread 12 [.ref 52, .ref p, .ref q, .int (z01 ao), .int (nI n), .ref 29, .int (nI l), .int (nI K + 1), v8, v9, v10, v11] [] (hp Y F' A') x) → ev (d + 3) t_Joiner_spread 12 [.ref 52, .ref p, .ref q, .int (z01 ao), .int (nI n), .ref 29, .int (nI l), .int (nI K), v8, v9, v10, v11] [] (hp Y F A) x) ∧ (¬ (js g1 g2 r ao n l K st).1 ≤ 6 → ∀ v8 v9 v10 v11 : Value, ev (d + 3) t_Joiner_spread 12 [.ref 52, .ref p, .ref q, .int (z01 ao), .int (nI n), .ref 29, .int (nI l), .int (nI K), v8, v9, v10, v11] [] (hp Y F A) (some (.int 0), hp Y F A)) := by
  have hq36 := (hJ.2.1 n hnP).1
  obtain ⟨x1, hx1⟩ : ∃ x1, x1 = g1 (st.2.2.1 n / 6) l (K / 6) := ⟨_, rfl⟩
  obtain ⟨x2, hx2⟩ : ∃ x2, x2 = g2 (st.2.2.1 n % 6) l (K % 6) := ⟨_, rfl⟩
  have l1 : x1 ≤ 2 := by rw [hx1]; exact hg1 _ _ _
  have l2 : x2 ≤ 2 := by rw [hx2]; exact hg2 _ _ _
  obtain ⟨v, hv⟩ : ∃ v, v = if 1 ≤ x1 ∧ 1 ≤ x2 then jv ao x1 x2 else 0 := ⟨_, rfl⟩
  have lv : v ≤ 2 := by
    rw [hv]
    split
    · exact jv_le l1 l2
    · omega
  have head : ∀ x (v8 v9 v10 v11 : Value), (∀ v11 : Value, ev (d + 3) t_Joiner_spread 75 [.ref 52, .ref p, .ref q, .int (z01 ao), .int (nI n), .ref 29, .int (nI l), .int (nI K), .int (nI (K / 6)), .int (nI (K % 6)), .int (nI v), v11] [] (hp Y F A) x) → ev (d + 3) t_Joiner_spread 12 [.ref 52, .ref p, .ref q, .int (z01 ao), .int (nI n), .ref 29, .int (nI l), .int (nI K), v8, v9, v10, v11] [] (hp Y F A) x := by
    intro x v8 v9 v10 v11 hx
    repeat (refine ev_np [] rfl rfl rfl ?_)
    refine ev_ie (nI_ge (b := 36) hK (by omega)) ?_
    repeat (first | refine ev_np [] rfl rfl rfl ?_ | refine ev_grs [] rfl rfl (by rfl) (by rfl) ?_)
    refine ev_an rfl (by rfl) rfl (by omega) rfl ?_
    rw [hcj.2.2 n hnP]
    repeat (refine ev_np [] rfl rfl rfl ?_)
    rw [rm6 (k := K) (by omega), dv6 (k := K) (by omega), dv6 (k := st.2.2.1 n) (by omega)]
    refine ev_vc rfl (by rfl) hp0.1 rfl (c_Plan_at d hp0 hcp (by omega) hl (by omega) (hg1 _ _ _)) ?_
    repeat (first | refine ev_np [] rfl rfl rfl ?_ | refine ev_grs [] rfl rfl (by rfl) (by rfl) ?_)
    refine ev_an rfl (by rfl) rfl (by omega) rfl ?_
    rw [hcj.2.2 n hnP]
    repeat (refine ev_np [] rfl rfl rfl ?_)
    rw [rm6 (k := st.2.2.1 n) (by omega)]
    refine ev_vc rfl (by rfl) hq0.1 rfl (c_Plan_at d hq0 hcq (by omega) hl (by omega) (hg2 _ _ _)) ?_
    rw [← hx1, ← hx2]
    repeat (refine ev_np [] rfl rfl rfl ?_)
    refine ev_ca rfl (c_Joiner_arrowOf (d + 2) l1 l2 ao) ?_
    rw [← hv]
    repeat (refine ev_np [75] rfl rfl rfl ?_)
    exact hx _
  have hjc : jc g1 g2 r n l K st = (decide (1 ≤ x1) && decide (1 ≤ x2) && r (K / 6) (K % 6)) := by
    unfold jc
    rw [hx1, hx2]
  have hv0 : v = 0 ↔ ¬ (1 ≤ x1 ∧ 1 ≤ x2) := by
    rw [hv]
    split
    · rename_i e
      unfold jv
      constructor
      · intro z
        cases ao
        · have z : min x1 x2 = 0 := z
          omega
        · have z : max x1 x2 = 0 := z
          omega
      · exact fun z => absurd e z
    · rename_i e
      exact ⟨fun _ => e, fun _ => rfl⟩
  have tail0 : jc g1 g2 r n l K st = false → ∀ x (v8 v9 v10 v11 : Value), (∀ v8 v9 v10 v11 : Value, ev (d + 3) t_Joiner_spread 12 [.ref 52, .ref p, .ref q, .int (z01 ao), .int (nI n), .ref 29, .int (nI l), .int (nI K + 1), v8, v9, v10, v11] [] (hp Y F A) x) → ev (d + 3) t_Joiner_spread 12 [.ref 52, .ref p, .ref q, .int (z01 ao), .int (nI n), .ref 29, .int (nI l), .int (nI K), v8, v9, v10, v11] [] (hp Y F A) x := by
    intro hj x v8 v9 v10 v11 hx
    refine head x _ _ _ _ (fun v11 => ?_)
    by_cases e : v = 0
    · rw [e]
      repeat (refine ev_np [12] rfl rfl rfl ?_)
      exact hx _ _ _ _
    · repeat (refine ev_np [] rfl rfl rfl ?_)
      refine ev_ie (nI_nle (by omega) (by omega)) ?_
      repeat (first | refine ev_np [] rfl rfl rfl ?_ | refine ev_grs [] rfl rfl (by rfl) (by rfl) ?_)
      refine ev_vc rfl (by rfl) (by rfl) rfl (c_Pairs_has (d + 1) PR53 hr (by omega) (by omega)) ?_
      have e2 : r (K / 6) (K % 6) = false := by
        have h12 : 1 ≤ x1 ∧ 1 ≤ x2 := Classical.not_not.mp (fun z => e (hv0.mpr z))
        rw [hjc] at hj
        simpa [h12.1, h12.2] using hj
      rw [e2]
      repeat (refine ev_np [12] rfl rfl rfl ?_)
      exact hx _ _ _ _
  cases hj : jc g1 g2 r n l K st with
  | false =>
    rw [js_0 hj]
    exact ⟨fun _ => ⟨F, A, sA.rf, sF.rf, hcj, h29, tail0 hj⟩, fun z => absurd hP z⟩
  | true =>
    have h12 : (1 ≤ x1 ∧ 1 ≤ x2) ∧ r (K / 6) (K % 6) = true := by
      rw [hjc] at hj
      simp only [Bool.and_eq_true, decide_eq_true_eq] at hj
      exact hj
    have hvn : v ≠ 0 := fun z => (hv0.mp z) h12.1
    have hvw : v = jw g1 g2 ao n l K st := by
      rw [hv, if_pos h12.1]
      unfold jw
      rw [hx1, hx2]
    have hjs : js g1 g2 r ao n l K st = ((ja K st).1, (ja K st).2.1, (ja K st).2.2.1, gset (ja K st).2.2.2 n l ((ja K st).2.1 K - 1) v) := by
      unfold js
      rw [hj, ← hvw]
      rfl
    obtain ⟨q1, q2, q3, q4, q5⟩ := ja_I hJ hK
    have hnum : st.2.1 (6 * (K / 6) + K % 6) ≤ st.1 := by
      rw [show 6 * (K / 6) + K % 6 = K by omega]
      by_cases e : st.2.1 K = 0
      · omega
      · exact (hJ.1 K hK e).1
    obtain ⟨m1, m2⟩ := c_Joiner_numberOf (Y := Y) (d + 2) hcj hP (s := K / 6) (t := K % 6) (by omega) (by omega) hnum
    rw [show 6 * (K / 6) + K % 6 = K by omega] at m1 m2
    have head2 : ∀ x (v8 v9 v10 v11 : Value), (∀ v11 : Value, ev (d + 3) t_Joiner_spread 99 [.ref 52, .ref p, .ref q, .int (z01 ao), .int (nI n), .ref 29, .int (nI l), .int (nI K), .int (nI (K / 6)), .int (nI (K % 6)), .int (nI v), v11] [.int (nI (K % 6)), .int (nI (K / 6)), .ref 52] (hp Y F A) x) → ev (d + 3) t_Joiner_spread 12 [.ref 52, .ref p, .ref q, .int (z01 ao), .int (nI n), .ref 29, .int (nI l), .int (nI K), v8, v9, v10, v11] [] (hp Y F A) x := by
      intro x v8 v9 v10 v11 hx
      refine head x _ _ _ _ (fun v11 => ?_)
      repeat (refine ev_np [] rfl rfl rfl ?_)
      refine ev_ie (nI_nle (by omega) (by omega)) ?_
      repeat (first | refine ev_np [] rfl rfl rfl ?_ | refine ev_grs [] rfl rfl (by rfl) (by rfl) ?_)
      refine ev_vc rfl (by rfl) (by rfl) rfl (c_Pairs_has (d + 1) PR53 hr (by omega) (by omega)) ?_
      rw [h12.2]
      repeat (refine ev_np [99] rfl rfl rfl ?_)
      exact hx _
    rw [hjs]
    constructor
    · intro h6
      obtain ⟨F1, A1, b1, b2, b3, b4⟩ := m1 h6
      have h6 : (ja K st).1 ≤ 6 := h6
      have hto := (q1.1 K hK q3).1
      have h291 : CP F1 A1 29 6 (ja K st).2.2.2 := by
        rw [q4]
        exact h29.frame (b3 _ _ (by decide)) (b2 _ (by decide)) (b2 _ (by decide))
      obtain ⟨A2, c1, c2, c3⟩ := c_Plan_raise (Y := Y) (d + 1) PL29 h291 (s := n) (l := l) (t := (ja K st).2.1 K - 1) (v := v) (by omega) hl (by omega) lv
      rw [jold hJ hK, Nat.zero_max] at c3
      refine ⟨F1, A2, (b2.mono (by decide)).tr (c2.mono (by decide)), b3, b4.frame rfl (c2 _ (by decide)) (c2 _ (by decide)), c3, fun x v8 v9 v10 v11 hx => head2 x _ _ _ _ (fun v11 => ?_)⟩
      refine ev_vc rfl (by rfl) (by rfl) rfl (b1) ?_
      repeat (refine ev_np [] rfl rfl rfl ?_)
      refine ev_it (nI_pos' (by omega)) ?_
      repeat (refine ev_np [] rfl rfl rfl ?_)
      refine ev_vc rfl (by rfl) PL29.1 rfl c1 ?_
      repeat (refine ev_np [12] rfl rfl rfl ?_)
      exact hx _ _ _ _
    · intro h6 v8 v9 v10 v11
      refine head2 _ _ _ _ _ (fun v11 => ?_)
      refine ev_vc rfl (by rfl) (by rfl) rfl (m2 h6) ?_
      repeat (refine ev_np [] rfl rfl rfl ?_)
      exact ev_rz rfl rfl (Or.inl rfl)
end SPR
end
section
/-! ===== class Joiner: spread, combine ===== -/
section COM
variable {Y : Nat × (Nat → Int32)} {F A : Nat → Nat → Int32} {p q n1 n2 : Nat} {g1 g2 : Nat → Nat → Nat → Nat} {r : Nat → Nat → Bool} {ao : Bool} (d : Nat)
theorem jK_mono (hg1 : ∀ s l t, g1 s l t ≤ 2) (hg2 : ∀ s l t, g2 s l t ≤ 2) {st : JS} {n l K : Nat} (h : jI st ((n * 3 + l) * 36)) (hl : l < 3) : ∀ m, K + m ≤ 36 → (jK g1 g2 r ao n l K st).1 ≤ (jK g1 g2 r ao n l (K + m) st).1 := by
  intro m
  induction m with
  | zero => exact fun _ => Nat.le_refl _
  | succ m ih => exact fun hm => Nat.le_trans (ih (by omega)) (js_I hg1 hg2 (jK_I hg1 hg2 h hl (K + m) (by omega)).1 hl (by omega)).2
theorem jL_mono (hg1 : ∀ s l t, g1 s l t ≤ 2) (hg2 : ∀ s l t, g2 s l t ≤ 2) {st : JS} {n l : Nat} (h : jI st (n * 108)) : ∀ m, l + m ≤ 3 → (jL g1 g2 r ao n l st).1 ≤ (jL g1 g2 r ao n (l + m) st).1 := by
  intro m
  induction m with
  | zero => exact fun _ => Nat.le_refl _
  | succ m ih => exact fun hm => Nat.le_trans (ih (by omega)) (jK_I hg1 hg2 (jL_I hg1 hg2 h (l + m) (by omega)).1 (by omega) 36 (Nat.le_refl _)).2
theorem c_Joiner_spread (hp0 : PL p) (hq0 : PL q) (hp29 : p ≠ 29) (hq29 : q ≠ 29) (hcp : CP F A p n1 g1) (hcq : CP F A q n2 g2) (hg1 : ∀ s l t, g1 s l t ≤ 2) (hg2 : ∀ s l t, g2 s l t ≤ 2) (hr : CR A 53 r) {st : JS} {n : Nat} (hJ : jI st (n * 108)) (hnP : n < st.1) (hP : st.1 ≤ 6) (hcj : CJ F A st) (h29 : CP F A 29 6 st.2.2.2) : ((jL g1 g2 r ao n 3 st).1 ≤ 6 → ∃ F' A', xa_rn xa_ms (d + 4) n_Joiner_spread [.ref 52, .ref p, .ref q, .int (z01 ao), .int (nI n), .ref 29] (hp Y F A) (some (.int 1)) (hp Y F' A') ∧ sA [30, 31, 56, 57] A A' ∧ sF [5203] F F' ∧ CJ F' A' (jL g1 g2 r ao n 3 st) ∧ CP F' A' 29 6 (jL g1 g2 r ao n 3 st).2.2.2) ∧ (¬ (jL g1 g2 r ao n 3 st).1 ≤ 6 → ∃ F' A', xa_rn xa_ms (d + 4) n_Joiner_spread [.ref 52, .ref p, .ref q, .int (z01 ao), .int (nI n), .ref 29] (hp Y F A) (some (.int 0)) (hp Y F' A') ∧ sA [30, 31, 56, 57] A A' ∧ sF [5203] F F') := by
  have hpJ := PL_J hp0 hp29
  have hqJ := PL_J hq0 hq29
  have inK : ∀ l, l < 3 → ∀ c K F1 A1, K + c = 36 → sA [30, 31, 56, 57] A A1 → sF [5203] F F1 → CJ F1 A1 (jK g1 g2 r ao n l K (jL g1 g2 r ao n l st)) → CP F1 A1 29 6 (jK g1 g2 r ao n l K (jL g1 g2 r ao n l st)).2.2.2 → (jK g1 g2 r ao n l K (jL g1 g2 r ao n l st)).1 ≤ 6 → ((jL g1 g2 r ao n (l + 1) st).1 ≤ 6 → ∃ F2 A2, sA [30, 31, 56, 57] A A2 ∧ sF [5203] F F2 ∧ CJ F2 A2 (jL g1 g2 r ao n (l + 1) st) ∧ CP F2 A2 29 6 (jL g1 g2 r ao n (l + 1) st).2.2.2 ∧ ∀ x, (∀ v8 v9 v10 v11 : Value, ev (d + 3) t_Joiner_spread 12 [.ref 52, .ref p, .ref q, .int (z01 ao), .int (nI n), .ref 29, .int (nI l), .int (nI 36), v8, v9, v10, v11] [] (hp Y F2 A2) x) → ∀ v8 v9 v10 v11 : Value, ev (d + 3) t_Joiner_spread 12 [.ref 52, .ref p, .ref q, .int (z01 ao), .int (nI n), .ref 29, .int (nI l), .int (nI K), v8, v9, v10, v11] [] (hp Y F1 A1) x) ∧ (¬ (jL g1 g2 r ao n (l + 1) st).1 ≤ 6 → ∃ F2 A2, sA [30, 31, 56, 57] A A2 ∧ sF [5203] F F2 ∧ ∀ v8 v9 v10 v11 : Value, ev (d + 3) t_Joiner_spread 12 [.ref 52, .ref p, .ref q, .int (z01 ao), .int (nI n), .ref 29, .int (nI l), .int (nI K), v8, v9, v10, v11] [] (hp Y F1 A1) (some (.int 0), hp Y F2 A2)) := by
    intro l hl c
    obtain ⟨hJl, hml⟩ := jL_I (r := r) (ao := ao) hg1 hg2 hJ l (by omega)
    induction c with
    | zero =>
      intro K F1 A1 hK h1 h2 h3 h4 h5
      have : K = 36 := by omega
      subst this
      exact ⟨fun _ => ⟨F1, A1, h1, h2, h3, h4, fun x hx => hx⟩, fun z => absurd h5 z⟩
    | succ c ih =>
      intro K F1 A1 hK h1 h2 h3 h4 h5
      obtain ⟨hJK, hmK⟩ := jK_I (r := r) (ao := ao) hg1 hg2 hJl hl K (by omega)
      have cp1 : CP F1 A1 p n1 g1 := hcp.frame (h2 _ _ (by simpa using hpJ.2.2)) (h1 _ (by simp [hpJ.1])) (h1 _ (by simp [hpJ.2.1]))
      have cq1 : CP F1 A1 q n2 g2 := hcq.frame (h2 _ _ (by simpa using hqJ.2.2)) (h1 _ (by simp [hqJ.1])) (h1 _ (by simp [hqJ.2.1]))
      have cr1 : CR A1 53 r := hr.frame (h1 _ (by decide)) (h1 _ (by decide))
      obtain ⟨m1, m2⟩ := c_spread1 (Y := Y) d hp0 hq0 cp1 cq1 hg1 hg2 cr1 (ao := ao) hJK (Nat.lt_of_lt_of_le (Nat.lt_of_lt_of_le hnP hml) hmK) h5 hl (by omega) h3 h4
      by_cases h6 : (js g1 g2 r ao n l K (jK g1 g2 r ao n l K (jL g1 g2 r ao n l st))).1 ≤ 6
      · obtain ⟨F2, A2, a1, a2, a3, a4, a5⟩ := m1 h6
        obtain ⟨e1, e2⟩ := ih (K + 1) F2 A2 (by omega) (h1.tr a1) (h2.tr a2) a3 a4 h6
        refine ⟨fun z => ?_, fun z => ?_⟩
        · obtain ⟨F3, A3, b1, b2, b3, b4, b5⟩ := e1 z
          refine ⟨F3, A3, b1, b2, b3, b4, fun x hx v8 v9 v10 v11 => a5 x _ _ _ _ (fun v8 v9 v10 v11 => ?_)⟩
          rw [nI_1]
          exact b5 x hx _ _ _ _
        · obtain ⟨F3, A3, b1, b2, b3⟩ := e2 z
          refine ⟨F3, A3, b1, b2, fun v8 v9 v10 v11 => a5 _ _ _ _ _ (fun v8 v9 v10 v11 => ?_)⟩
          rw [nI_1]
          exact b3 _ _ _ _
      · have hm := jK_mono (r := r) (ao := ao) hg1 hg2 hJl hl (K := K + 1) (36 - (K + 1)) (by omega)
        rw [show K + 1 + (36 - (K + 1)) = 36 by omega] at hm
        have hm2 : (js g1 g2 r ao n l K (jK g1 g2 r ao n l K (jL g1 g2 r ao n l st))).1 ≤ (jL g1 g2 r ao n (l + 1) st).1 := hm
        exact ⟨fun z => absurd (Nat.le_trans hm2 z) h6, fun _ => ⟨F1, A1, h1, h2, m2 h6⟩⟩
  have inL : ∀ c l F1 A1, l + c = 3 → sA [30, 31, 56, 57] A A1 → sF [5203] F F1 → CJ F1 A1 (jL g1 g2 r ao n l st) → CP F1 A1 29 6 (jL g1 g2 r ao n l st).2.2.2 → (jL g1 g2 r ao n l st).1 ≤ 6 → ((jL g1 g2 r ao n 3 st).1 ≤ 6 → ∃ F2 A2, sA [30, 31, 56, 57] A A2 ∧ sF [5203] F F2 ∧ CJ F2 A2 (jL g1 g2 r ao n 3 st) ∧ CP F2 A2 29 6 (jL g1 g2 r ao n 3 st).2.2.2 ∧ ∀ v7 v8 v9 v10 v11 : Value, ev (d + 3) t_Joiner_spread 3 [.ref 52, .ref p, .ref q, .int (z01 ao), .int (nI n), .ref 29, .int (nI l), v7, v8, v9, v10, v11] [] (hp Y F1 A1) (some (.int 1), hp Y F2 A2)) ∧ (¬ (jL g1 g2 r ao n 3 st).1 ≤ 6 → ∃ F2 A2, sA [30, 31, 56, 57] A A2 ∧ sF [5203] F F2 ∧ ∀ v7 v8 v9 v10 v11 : Value, ev (d + 3) t_Joiner_spread 3 [.ref 52, .ref p, .ref q, .int (z01 ao), .int (nI n), .ref 29, .int (nI l), v7, v8, v9, v10, v11] [] (hp Y F1 A1) (some (.int 0), hp Y F2 A2)) := by
    intro c
    induction c with
    | zero =>
      intro l F1 A1 hl h1 h2 h3 h4 h5
      have : l = 3 := by omega
      subst this
      refine ⟨fun _ => ⟨F1, A1, h1, h2, h3, h4, fun v7 v8 v9 v10 v11 => ?_⟩, fun z => absurd h5 z⟩
      repeat (refine ev_np [] rfl rfl rfl ?_)
      exact ev_rz rfl rfl (Or.inr rfl)
    | succ c ih =>
      intro l F1 A1 hl h1 h2 h3 h4 h5
      have hl3 : l < 3 := by omega
      obtain ⟨m1, m2⟩ := inK l hl3 36 0 F1 A1 rfl h1 h2 h3 h4 h5
      by_cases h6 : (jL g1 g2 r ao n (l + 1) st).1 ≤ 6
      · obtain ⟨F2, A2, a1, a2, a3, a4, a5⟩ := m1 h6
        obtain ⟨e1, e2⟩ := ih (l + 1) F2 A2 (by omega) a1 a2 a3 a4 h6
        rw [nI_succ] at e1 e2
        refine ⟨fun z => ?_, fun z => ?_⟩
        · obtain ⟨F3, A3, b1, b2, b3, b4, b5⟩ := e1 z
          refine ⟨F3, A3, b1, b2, b3, b4, fun v7 v8 v9 v10 v11 => ?_⟩
          repeat (refine ev_np [] rfl rfl rfl ?_)
          refine ev_ie (nI_ge (b := 3) hl3 (by omega)) ?_
          repeat (refine ev_np [12] rfl rfl rfl ?_)
          refine a5 _ (fun v8 v9 v10 v11 => ?_) _ _ _ _
          repeat (refine ev_np [3] rfl rfl rfl ?_)
          exact b5 _ _ _ _ _
        · obtain ⟨F3, A3, b1, b2, b5⟩ := e2 z
          refine ⟨F3, A3, b1, b2, fun v7 v8 v9 v10 v11 => ?_⟩
          repeat (refine ev_np [] rfl rfl rfl ?_)
          refine ev_ie (nI_ge (b := 3) hl3 (by omega)) ?_
          repeat (refine ev_np [12] rfl rfl rfl ?_)
          refine a5 _ (fun v8 v9 v10 v11 => ?_) _ _ _ _
          repeat (refine ev_np [3] rfl rfl rfl ?_)
          exact b5 _ _ _ _ _
      · have hm := jL_mono (r := r) (ao := ao) hg1 hg2 hJ (l := l + 1) (3 - (l + 1)) (by omega)
        rw [show l + 1 + (3 - (l + 1)) = 3 by omega] at hm
        refine ⟨fun z => absurd (Nat.le_trans hm z) h6, fun _ => ?_⟩
        obtain ⟨F2, A2, a1, a2, a3⟩ := m2 h6
        refine ⟨F2, A2, a1, a2, fun v7 v8 v9 v10 v11 => ?_⟩
        repeat (refine ev_np [] rfl rfl rfl ?_)
        refine ev_ie (nI_ge (b := 3) hl3 (by omega)) ?_
        repeat (refine ev_np [12] rfl rfl rfl ?_)
        exact a3 _ _ _ _
  obtain ⟨e1, e2⟩ := inL 3 0 F A rfl sA.rf sF.rf hcj h29 hP
  refine ⟨fun z => ?_, fun z => ?_⟩
  · obtain ⟨F2, A2, a1, a2, a3, a4, a5⟩ := e1 z
    refine ⟨F2, A2, ?_, a1, a2, a3, a4⟩
    refine rn_in m_Joiner_spread rfl ⟨rfl, rfl⟩ ?_
    show ev _ t_Joiner_spread 0 [.ref 52, .ref p, .ref q, .int (z01 ao), .int (nI n), .ref 29, .float 0, .float 0, .float 0, .float 0, .float 0, .float 0] [] _ _
    repeat (refine ev_np [3] rfl rfl rfl ?_)
    exact a5 _ _ _ _ _
  · obtain ⟨F2, A2, a1, a2, a5⟩ := e2 z
    refine ⟨F2, A2, ?_, a1, a2⟩
    refine rn_in m_Joiner_spread rfl ⟨rfl, rfl⟩ ?_
    show ev _ t_Joiner_spread 0 [.ref 52, .ref p, .ref q, .int (z01 ao), .int (nI n), .ref 29, .float 0, .float 0, .float 0, .float 0, .float 0, .float 0] [] _ _
    repeat (refine ev_np [3] rfl rfl rfl ?_)
    exact a5 _ _ _ _ _
theorem PL_J2 (hp0 : PL p) (h29 : p ≠ 29) : (¬ p + 1 = 30 ∧ ¬ p + 1 = 31 ∧ ¬ p + 1 = 54 ∧ ¬ p + 1 = 55 ∧ ¬ p + 1 = 56 ∧ ¬ p + 1 = 57) ∧ (¬ p + 2 = 30 ∧ ¬ p + 2 = 31 ∧ ¬ p + 2 = 54 ∧ ¬ p + 2 = 55 ∧ ¬ p + 2 = 56 ∧ ¬ p + 2 = 57) ∧ (¬ p * 100 = 2900 ∧ ¬ p * 100 = 5203) := by
  rcases PL_in hp0 with rfl | rfl | rfl | rfl | rfl | rfl | rfl | rfl <;> first | decide | exact absurd rfl h29
/-- which pairs stand -/
abbrev jr (n1 n2 : Nat) (g1 g2 : Nat → Nat → Nat → Nat) (ao : Bool) : Nat → Nat → Bool := dR n1 n2 g1 g2 (bif ao then 37 else 0)
theorem c_Joiner_combine (hp0 : PL p) (hq0 : PL q) (hp29 : p ≠ 29) (hq29 : q ≠ 29) (hcp : CP F A p n1 g1) (hcq : CP F A q n2 g2) (hw1 : GW n1 g1) (hw2 : GW n2 g2) {e : Nat} (he1 : (jN g1 g2 (jr n1 n2 g1 g2 ao) ao e js0).1 ≤ e) (he2 : ∀ n, n < e → n < (jN g1 g2 (jr n1 n2 g1 g2 ao) ao n js0).1) : ∃ F' A', sA [30, 31, 54, 55, 56, 57] A A' ∧ sF [2900, 5203] F F' ∧ (jr n1 n2 g1 g2 ao 0 0 = true ∧ (jN g1 g2 (jr n1 n2 g1 g2 ao) ao e js0).1 ≤ 6 → CP F' A' 29 (jN g1 g2 (jr n1 n2 g1 g2 ao) ao e js0).1 (jN g1 g2 (jr n1 n2 g1 g2 ao) ao e js0).2.2.2) ∧ xa_rn xa_ms (d + 7) n_Joiner_combine [.ref 52, .ref p, .ref q, .int (z01 ao), .ref 29] (hp Y F A) (some (.int (if jr n1 n2 g1 g2 ao 0 0 = true then (if (jN g1 g2 (jr n1 n2 g1 g2 ao) ao e js0).1 ≤ 6 then nI (jN g1 g2 (jr n1 n2 g1 g2 ao) ao e js0).1 else -3) else -2))) (hp Y F' A') := by
  have hg1 : ∀ s l t, g1 s l t ≤ 2 := fun s l t => (hw1.2 s l t).1
  have hg2 : ∀ s l t, g2 s l t ≤ 2 := fun s l t => (hw2.2 s l t).1
  have hpJ := PL_J2 hp0 hp29
  have hqJ := PL_J2 hq0 hq29
  obtain ⟨r, hr⟩ : ∃ r, r = jr n1 n2 g1 g2 ao := ⟨_, rfl⟩
  rw [← hr] at he1 he2 ⊢
  obtain ⟨A1, a1, a2, a3⟩ := c_Pairs_fill (Y := Y) (F := F) (A := A) (d + 5) PR53 hw1.1.2 hw2.1.2
  -- the clashes
  obtain ⟨A2, b1, b2, b3⟩ : ∃ A2, sA [54, 55] A A2 ∧ CR A2 53 r ∧ ∀ x, ev (d + 6) t_Joiner_combine 25 [.ref 52, .ref p, .ref q, .int (z01 ao), .ref 29, .float 0] [] (hp Y F A2) x → ev (d + 6) t_Joiner_combine 0 [.ref 52, .ref p, .ref q, .int (z01 ao), .ref 29, .float 0] [] (hp Y F A) x := by
    have head : ∀ x, ev (d + 6) t_Joiner_combine 15 [.ref 52, .ref p, .ref q, .int (z01 ao), .ref 29, .float 0] [] (hp Y F A1) x → ev (d + 6) t_Joiner_combine 0 [.ref 52, .ref p, .ref q, .int (z01 ao), .ref 29, .float 0] [] (hp Y F A) x := by
      intro x hx
      repeat (first | refine ev_np [] rfl rfl rfl ?_ | refine ev_grs [] rfl rfl (by rfl) (by rfl) ?_)
      refine ev_vc rfl (by rfl) hp0.1 rfl (c_Plan_size (d + 5) hp0) ?_
      repeat (refine ev_np [] rfl rfl rfl ?_)
      refine ev_vc rfl (by rfl) hq0.1 rfl (c_Plan_size (d + 5) hq0) ?_
      rw [hcp.1, hcq.1]
      refine ev_vc rfl (by rfl) (by rfl) rfl (a1) ?_
      exact hx
    cases ao with
    | false =>
      refine ⟨A1, a2, by rw [hr]; exact a3, fun x hx => head x ?_⟩
      repeat (refine ev_np [25] rfl rfl rfl ?_)
      exact hx
    | true =>
      have cp1 : CP F A1 p n1 g1 := hcp.frame rfl (a2 _ (by simp [hpJ.1])) (a2 _ (by simp [hpJ.2.1]))
      have cq1 : CP F A1 q n2 g2 := hcq.frame rfl (a2 _ (by simp [hqJ.1])) (a2 _ (by simp [hqJ.2.1]))
      obtain ⟨A2, c1, c2, c3⟩ := c_Joiner_dropClashes (Y := Y) (d + 1) hp0 hq0 cp1 cq1 hw1.1.2 hw2.1.2 a3
      refine ⟨A2, a2.tr c2, by rw [hr]; exact c3, fun x hx => head x ?_⟩
      repeat (refine ev_np [] rfl rfl rfl ?_)
      refine ev_vc rfl (by rfl) (by rfl) rfl (c1) ?_
      exact hx
  cases h00 : r 0 0 with
  | false =>
    refine ⟨F, A2, b1.mono (by decide), sF.rf, fun z => absurd z.1 (by decide), ?_⟩
    rw [if_neg (by decide)]
    refine rn_in m_Joiner_combine rfl ⟨rfl, rfl⟩ ?_
    show ev _ t_Joiner_combine 0 [.ref 52, .ref p, .ref q, .int (z01 ao), .ref 29, .float 0] [] _ _
    refine b3 _ ?_
    repeat (first | refine ev_np [] rfl rfl rfl ?_ | refine ev_grs [] rfl rfl (by rfl) (by rfl) ?_)
    refine ev_vc rfl (by rfl) (by rfl) rfl (c_Pairs_has (d + 4) PR53 b2 (s := 0) (t := 0) (by decide) (by decide)) ?_
    rw [h00]
    repeat (refine ev_np [] rfl rfl rfl ?_)
    exact ev_ri rfl rfl
  | true =>
    rw [if_pos rfl]
    -- a new start
    obtain ⟨F3, hF3⟩ : ∃ F3, F3 = uF F 52 3 0 := ⟨_, rfl⟩
    obtain ⟨A3, hA3⟩ : ∃ A3, A3 = va_up A2 56 (fun j => if j < 36 then -1 else A2 56 j) := ⟨_, rfl⟩
    have hcj3 : CJ F3 A3 (0, fun _ => 0, fun _ => 0, fun _ _ _ => 0) := ⟨by rw [hF3, uF_s]; exact nI_0.symm, fun K hK => by rw [hA3, va_up_s, if_pos hK]; rfl, fun b hb => absurd hb (Nat.not_lt_zero b)⟩
    obtain ⟨m1, -⟩ := c_Joiner_numberOf (Y := Y) (d + 5) hcj3 (Nat.zero_le 6) (s := 0) (t := 0) (by decide) (by decide) (Nat.le_refl 0)
    obtain ⟨F4, A4, c1, c2, c3, c4⟩ := m1 (by decide)
    have hcj4 : CJ F4 A4 js0 := by
      refine ⟨c4.1, fun K hK => ?_, fun b hb => ?_⟩
      · rw [c4.2.1 K hK]
        rfl
      · have : b = 0 := by have : b < 1 := hb; omega
        subst this
        exact c4.2.2 0 (by decide)
    obtain ⟨F5, A5, e1, e2, e3, e4⟩ := c_Plan_reset (Y := Y) (F := F4) (A := A4) (d + 4) PL29 (n := 6) (by decide) (by decide)
    have hcj5 : CJ F5 A5 js0 := hcj4.frame (e3 _ _ (by decide)) (e2 _ (by decide)) (e2 _ (by decide))
    have sa5 : sA [30, 31, 54, 55, 56, 57] A A5 := (b1.mono (by decide)).tr ((show sA [30, 31, 54, 55, 56, 57] A2 A3 by rw [hA3]; exact sA.up (by decide)).tr ((c2.mono (by decide)).tr (e2.mono (by decide))))
    have sf5 : sF [2900, 5203] F F5 := (show sF [2900, 5203] F F3 by rw [hF3]; exact sF.up (by decide)).tr ((c3.mono (by decide)).tr (e3.mono (by decide)))
    have cr5 : CR A5 53 r := (b2.frame (A' := A3) (by rw [hA3]; exact va_up_n _ _ (by decide)) (by rw [hA3]; exact va_up_n _ _ (by decide))).frame (by rw [e2 _ (by decide), c2 _ (by decide)]) (by rw [e2 _ (by decide), c2 _ (by decide)])
    have loop : ∀ c n F1 A1, n + c = e → sA [30, 31, 54, 55, 56, 57] A A1 → sF [2900, 5203] F F1 → CR A1 53 r → CJ F1 A1 (jN g1 g2 r ao n js0) → CP F1 A1 29 6 (jN g1 g2 r ao n js0).2.2.2 → (jN g1 g2 r ao n js0).1 ≤ 6 → ∃ F2 A2, sA [30, 31, 54, 55, 56, 57] A A2 ∧ sF [2900, 5203] F F2 ∧ ((jN g1 g2 r ao e js0).1 ≤ 6 → CP F2 A2 29 (jN g1 g2 r ao e js0).1 (jN g1 g2 r ao e js0).2.2.2) ∧ ev (d + 6) t_Joiner_combine 70 [.ref 52, .ref p, .ref q, .int (z01 ao), .ref 29, .int (nI n)] [] (hp Y F1 A1) (some (.int (if (jN g1 g2 r ao e js0).1 ≤ 6 then nI (jN g1 g2 r ao e js0).1 else -3)), hp Y F2 A2) := by
      intro c
      induction c with
      | zero =>
        intro n F1 A1 hn h1 h2 h3 h4 h5 h6
        have : n = e := by omega
        subst this
        have hP1 := (jN_I (r := r) (ao := ao) hg1 hg2 n).2.2.2.1
        refine ⟨uF F1 29 0 (nI (jN g1 g2 r ao n js0).1), A1, h1, h2.tr (sF.up (by decide)), fun _ => ⟨uF_s _ _ _ _, h5.2⟩, ?_⟩
        rw [if_pos h6]
        have fin : ev (d + 6) t_Joiner_combine 109 [.ref 52, .ref p, .ref q, .int (z01 ao), .ref 29, .int (nI n)] [] (hp Y F1 A1) (some (.int (nI (jN g1 g2 r ao n js0).1)), hp Y (uF F1 29 0 (nI (jN g1 g2 r ao n js0).1)) A1) := by
          repeat (refine ev_np [] rfl rfl rfl ?_)
          refine ev_gi rfl (by rfl) (by rfl) ?_
          rw [h4.1]
          refine ev_vc rfl (by rfl) PL29.1 rfl (c_Plan_resize (d + 5) PL29 hP1 h6) ?_
          repeat (refine ev_np [] rfl rfl rfl ?_)
          refine ev_gi rfl (by rfl) (by rfl) ?_
          rw [uF_n _ _ (by decide), h4.1]
          exact ev_ri rfl rfl
        have hee : n ≤ 36 ∨ 36 < n := by omega
        have hn31 : n < 2 ^ 31 := by
          rcases hee with h | h
          · omega
          · have := he2 36 h
            have := jP _ (jN_I (r := r) (ao := ao) hg1 hg2 36)
            omega
        repeat (refine ev_np [] rfl rfl rfl ?_)
        by_cases h : 6 ≤ n
        · refine ev_it (nI_le (a := 6) h hn31) ?_
          exact fin
        · refine ev_ie (nI_ge (b := 6) (by omega) (by omega)) ?_
          repeat (refine ev_np [] rfl rfl rfl ?_)
          refine ev_gi rfl (by rfl) (by rfl) ?_
          rw [h4.1]
          repeat (refine ev_np [] rfl rfl rfl ?_)
          refine ev_it (nI_le he1 hn31) ?_
          exact fin
      | succ c ih =>
        intro n F1 A1 hn h1 h2 h3 h4 h5 h6
        have hnP := he2 n (by omega)
        have cp1 : CP F1 A1 p n1 g1 := hcp.frame (h2 _ _ (by simpa using hpJ.2.2)) (h1 _ (by simp [hpJ.1])) (h1 _ (by simp [hpJ.2.1]))
        have cq1 : CP F1 A1 q n2 g2 := hcq.frame (h2 _ _ (by simpa using hqJ.2.2)) (h1 _ (by simp [hqJ.1])) (h1 _ (by simp [hqJ.2.1]))
        obtain ⟨s1, s2⟩ := c_Joiner_spread (Y := Y) (d + 2) hp0 hq0 hp29 hq29 cp1 cq1 hg1 hg2 h3 (ao := ao) (jN_I hg1 hg2 n) hnP h6 h4 h5
        have head : ∀ x, ev (d + 6) t_Joiner_combine 94 [.ref 52, .ref p, .ref q, .int (z01 ao), .ref 29, .int (nI n)] [.ref 29, .int (nI n), .int (z01 ao), .ref q, .ref p, .ref 52] (hp Y F1 A1) x → ev (d + 6) t_Joiner_combine 70 [.ref 52, .ref p, .ref q, .int (z01 ao), .ref 29, .int (nI n)] [] (hp Y F1 A1) x := by
          intro x hx
          repeat (refine ev_np [] rfl rfl rfl ?_)
          refine ev_ie (nI_ge (b := 6) (by omega) (by omega)) ?_
          repeat (refine ev_np [] rfl rfl rfl ?_)
          refine ev_gi rfl (by rfl) (by rfl) ?_
          rw [h4.1]
          repeat (refine ev_np [] rfl rfl rfl ?_)
          refine ev_ie (nI_ge hnP (by omega)) ?_
          repeat (refine ev_np [94] rfl rfl rfl ?_)
          exact hx
        by_cases hL : (jL g1 g2 r ao n 3 (jN g1 g2 r ao n js0)).1 ≤ 6
        · obtain ⟨F2, A2, u1, u2, u3, u4, u5⟩ := s1 hL
          obtain ⟨F3, A3, w1, w2, w3, w4⟩ := ih (n + 1) F2 A2 (by omega) (h1.tr (u2.mono (by decide))) (h2.tr (u3.mono (by decide))) (h3.frame (u2 _ (by decide)) (u2 _ (by decide))) u4 u5 hL
          refine ⟨F3, A3, w1, w2, w3, head _ ?_⟩
          rw [nI_succ] at w4
          refine ev_vc rfl (by rfl) (by rfl) rfl (u1) ?_
          repeat (refine ev_np [70] rfl rfl rfl ?_)
          exact w4
        · obtain ⟨F2, A2, u1, u2, u3⟩ := s2 hL
          have hm := jN_mono (r := r) (ao := ao) hg1 hg2 (n := n + 1) (e - (n + 1))
          rw [show n + 1 + (e - (n + 1)) = e by omega] at hm
          have hbad : ¬ (jN g1 g2 r ao e js0).1 ≤ 6 := fun z => hL (Nat.le_trans hm z)
          refine ⟨F2, A2, h1.tr (u2.mono (by decide)), h2.tr (u3.mono (by decide)), fun z => absurd z hbad, head _ ?_⟩
          rw [if_neg hbad]
          refine ev_vc rfl (by rfl) (by rfl) rfl (u1) ?_
          repeat (refine ev_np [] rfl rfl rfl ?_)
          exact ev_ri rfl rfl
    obtain ⟨F6, A6, w1, w2, w3, w4⟩ := loop e 0 F5 A5 (Nat.zero_add e) sa5 sf5 cr5 hcj5 e4 (show (1 : Nat) ≤ 6 by decide)
    refine ⟨F6, A6, w1, w2, fun z => w3 z.2, ?_⟩
    refine rn_in m_Joiner_combine rfl ⟨rfl, rfl⟩ ?_
    show ev _ t_Joiner_combine 0 [.ref 52, .ref p, .ref q, .int (z01 ao), .ref 29, .float 0] [] _ _
    refine b3 _ ?_
    repeat (first | refine ev_np [] rfl rfl rfl ?_ | refine ev_grs [] rfl rfl (by rfl) (by rfl) ?_)
    refine ev_vc rfl (by rfl) (by rfl) rfl (c_Pairs_has (d + 4) PR53 b2 (s := 0) (t := 0) (by decide) (by decide)) ?_
    rw [h00]
    repeat (refine ev_np [] rfl rfl rfl ?_)
    refine ev_pf rfl (by rfl) ⟨by rfl, by rfl⟩ ?_
    rw [← hF3]
    repeat (first | refine ev_np [] rfl rfl rfl ?_ | refine ev_grs [] rfl rfl (by rfl) (by rfl) ?_)
    refine ev_ca rfl (c_Arr_fill (d + 5) (v := 56) (n := 36) rfl (by decide) (-1)) ?_
    rw [← hA3]
    repeat (refine ev_np [] rfl rfl rfl ?_)
    refine ev_vc rfl (by rfl) (by rfl) rfl (c1) ?_
    repeat (refine ev_np [] rfl rfl rfl ?_)
    refine ev_vc rfl (by rfl) PL29.1 rfl e1 ?_
    repeat (refine ev_np [70] rfl rfl rfl ?_)
    exact w4
end COM
end
section
/-! ===== the model: what clashes ===== -/
def WJ (A : Nat → Nat → Int32) (n1 n2 : Nat) (r : Nat → Nat → Bool) : Prop := ∀ a b, a < n1 → b < n2 → A 70 (6 * a + b) = z01 (!(r a b))
section CLM
variable {Y : Nat × (Nat → Int32)} {F A : Nat → Nat → Int32} {i j n1 n2 : Nat} {g1 g2 : Nat → Nat → Nat → Nat} {r : Nat → Nat → Bool} (d : Nat)
def cM1 (n1 n2 : Nat) (g1 g2 : Nat → Nat → Nat → Nat) (r : Nat → Nat → Bool) (s t l : Nat) : Bool := (List.range n1).any fun a => decide (2 ≤ g1 s l a) && !((List.range n2).any fun b => decide (1 ≤ g2 t l b) && r a b)
def cM2 (n1 n2 : Nat) (g1 g2 : Nat → Nat → Nat → Nat) (r : Nat → Nat → Bool) (s t l : Nat) : Bool := (List.range n2).any fun b => decide (2 ≤ g2 t l b) && !((List.range n1).any fun a => decide (1 ≤ g1 s l a) && r a b)
theorem clx_M (h1 : GW n1 g1) (h2 : GW n2 g2) (s t l : Nat) : clx g1 g2 r s t l = (cM1 n1 n2 g1 g2 r s t l || cM2 n1 n2 g1 g2 r s t l) := by
  unfold clx cM1 cM2
  congr 1
  · rw [lack_any, any_shrink h1.1.2 (fun k _ hk => by
      simp only [Bool.and_eq_true, decide_eq_true_eq] at hk
      exact ((h1.2 s l k).2 (by omega)).2.2)]
    refine any_congr fun a ha => ?_
    congr 2
    exact any_shrink h2.1.2 (fun k _ hk => by
      simp only [Bool.and_eq_true, decide_eq_true_eq] at hk
      exact ((h2.2 t l k).2 (by omega)).2.2)
  · rw [lack_any, any_shrink h2.1.2 (fun k _ hk => by
      simp only [Bool.and_eq_true, decide_eq_true_eq] at hk
      exact ((h2.2 t l k).2 (by omega)).2.2)]
    refine any_congr fun b hb => ?_
    congr 2
    exact any_shrink h1.1.2 (fun k _ hk => by
      simp only [Bool.and_eq_true, decide_eq_true_eq] at hk
      exact ((h1.2 s l k).2 (by omega)).2.2)
set_option maxRecDepth 20000 in
theorem c_Mo_isClash (hi : i < 8) (hj : j < 8) (hm1 : MP A i n1 g1) (hm2 : MP A j n2 g2) (hw1 : GW n1 g1) (hw2 : GW n2 g2) (hr : WJ A n1 n2 r) {s t : Nat} (hs : s < 6) (ht : t < 6) : xa_rn xa_ms (d + 3) n_Mo_isClash [.ref 62, .int (nI i), .int (nI s), .int (nI j), .int (nI t), .int 0] (hp Y F A) (some (.int (z01 (clh g1 g2 r s t)))) (hp Y F A) := by
  have hn1 := hw1.1.2
  have hn2 := hw2.1.2
  -- the first loops
  have in1 : ∀ l, l < 3 → ∀ a, a < n1 → ∀ (acc : Bool) x, (∀ v9 v10 : Value, ev (d + 2) t_Mo_isClash 15 [.ref 62, .int (nI i), .int (nI s), .int (nI j), .int (nI t), .int 0, .int (z01 (acc || (decide (2 ≤ g1 s l a) && !((List.range n2).any fun b => decide (1 ≤ g2 t l b) && r a b)))), .int (nI l), .int (nI a + 1), v9, v10] [] (hp Y F A) x) → ∀ v9 v10 : Value, ev (d + 2) t_Mo_isClash 15 [.ref 62, .int (nI i), .int (nI s), .int (nI j), .int (nI t), .int 0, .int (z01 acc), .int (nI l), .int (nI a), v9, v10] [] (hp Y F A) x := by
    intro l hl a ha acc x hx v9 v10
    have hle := (hw1.2 s l a).1
    have inner : ∀ m0 : Bool, m0 = decide (g1 s l a < 2) → ev (d + 2) t_Mo_isClash 50 [.ref 62, .int (nI i), .int (nI s), .int (nI j), .int (nI t), .int 0, .int (z01 acc), .int (nI l), .int (nI a), .int (z01 m0), .int 0] [] (hp Y F A) x := by
      intro m0 hm0
      have h1 := lp_to (E := fun b x => ev (d + 2) t_Mo_isClash 50 [.ref 62, .int (nI i), .int (nI s), .int (nI j), .int (nI t), .int 0, .int (z01 acc), .int (nI l), .int (nI a), .int (z01 (m0 || (List.range b).any fun b => decide (1 ≤ g2 t l b) && r a b)), .int (nI b)] [] (hp Y F A) x) n2 (fun b hb x hx => by
        rw [nI_succ, anyB, ← Bool.or_assoc, ← z01_or] at hx
        have hle2 := (hw2.2 t l b).1
        repeat (first | refine ev_np [] rfl rfl rfl ?_ | refine ev_grs [] rfl rfl (by rfl) (by rfl) ?_)
        refine ev_an rfl (by rfl) rfl hj rfl ?_
        rw [hm2.1]
        repeat (refine ev_np [] rfl rfl rfl ?_)
        refine ev_ie (nI_ge hb (by omega)) ?_
        repeat (refine ev_np [] rfl rfl rfl ?_)
        refine ev_vc rfl (by rfl) (by rfl) rfl (c_Mo_of d hj hm2 ht hl (by omega)) ?_
        repeat (refine ev_np [] rfl rfl rfl ?_)
        by_cases e : 1 ≤ g2 t l b
        · rw [decide_eq_true e, Bool.true_and] at hx
          refine ev_ie (nI_nle (by omega) (by omega)) ?_
          repeat (first | refine ev_np [] rfl rfl rfl ?_ | refine ev_grs [] rfl rfl (by rfl) (by rfl) ?_)
          refine ev_an rfl (by rfl) (ix6 a b) (by omega) rfl ?_
          rw [hr a b ha hb]
          cases hrk : r a b with
          | true =>
            rw [hrk] at hx
            repeat (refine ev_np [50] rfl rfl rfl ?_)
            exact hx
          | false =>
            rw [hrk] at hx
            repeat (refine ev_np [50] rfl rfl rfl ?_)
            exact hx
        · rw [decide_eq_false e, Bool.false_and] at hx
          refine ev_it (by rw [show g2 t l b = 0 by omega]; exact Int32.le_refl _) ?_
          repeat (refine ev_np [50] rfl rfl rfl ?_)
          exact hx) x (by
        repeat (first | refine ev_np [] rfl rfl rfl ?_ | refine ev_grs [] rfl rfl (by rfl) (by rfl) ?_)
        refine ev_an rfl (by rfl) rfl hj rfl ?_
        rw [hm2.1]
        repeat (refine ev_np [] rfl rfl rfl ?_)
        refine ev_it (nI_le (Nat.le_refl _) (by omega)) ?_
        rw [← z01_or] at hx
        rw [hm0]
        have e3 : (!(decide (g1 s l a < 2) || (List.range n2).any fun b => decide (1 ≤ g2 t l b) && r a b)) = (decide (2 ≤ g1 s l a) && !((List.range n2).any fun b => decide (1 ≤ g2 t l b) && r a b)) := by
          rw [Bool.not_or]
          congr 1
          by_cases h : 2 ≤ g1 s l a
          · simp [h]
          · simp [h]; omega
        rw [← e3] at hx
        cases h9 : (decide (g1 s l a < 2) || (List.range n2).any fun b => decide (1 ≤ g2 t l b) && r a b) with
        | true =>
          rw [h9] at hx
          repeat (refine ev_np [15] rfl rfl rfl ?_)
          exact hx _ _
        | false =>
          rw [h9] at hx
          repeat (refine ev_np [15] rfl rfl rfl ?_)
          exact hx _ _)
      simp only [List.range_zero, List.any_nil, Bool.or_false] at h1
      exact h1
    repeat (first | refine ev_np [] rfl rfl rfl ?_ | refine ev_grs [] rfl rfl (by rfl) (by rfl) ?_)
    refine ev_an rfl (by rfl) rfl hi rfl ?_
    rw [hm1.1]
    repeat (refine ev_np [] rfl rfl rfl ?_)
    refine ev_ie (nI_ge ha (by omega)) ?_
    repeat (refine ev_np [] rfl rfl rfl ?_)
    refine ev_vc rfl (by rfl) (by rfl) rfl (c_Mo_of d hi hm1 hs hl (by omega)) ?_
    repeat (refine ev_np [] rfl rfl rfl ?_)
    by_cases e : g1 s l a < 2
    · refine ev_ie (nI_ge (b := 2) e (by omega)) ?_
      repeat (refine ev_np [50] rfl rfl rfl ?_)
      exact inner true (by simp [e])
    · refine ev_it (nI_le (a := 2) (by omega) (by omega)) ?_
      repeat (refine ev_np [50] rfl rfl rfl ?_)
      exact inner false (by simp [e])
  -- the second loops
  have in2 : ∀ l, l < 3 → ∀ b, b < n2 → ∀ (acc : Bool) x, (∀ v9 v10 : Value, ev (d + 2) t_Mo_isClash 133 [.ref 62, .int (nI i), .int (nI s), .int (nI j), .int (nI t), .int 0, .int (z01 (acc || (decide (2 ≤ g2 t l b) && !((List.range n1).any fun a => decide (1 ≤ g1 s l a) && r a b)))), .int (nI l), .int (nI b + 1), v9, v10] [] (hp Y F A) x) → ∀ v9 v10 : Value, ev (d + 2) t_Mo_isClash 133 [.ref 62, .int (nI i), .int (nI s), .int (nI j), .int (nI t), .int 0, .int (z01 acc), .int (nI l), .int (nI b), v9, v10] [] (hp Y F A) x := by
    intro l hl b hb acc x hx v9 v10
    have hle := (hw2.2 t l b).1
    have inner : ∀ m0 : Bool, m0 = decide (g2 t l b < 2) → ev (d + 2) t_Mo_isClash 169 [.ref 62, .int (nI i), .int (nI s), .int (nI j), .int (nI t), .int 0, .int (z01 acc), .int (nI l), .int (nI b), .int (z01 m0), .int 0] [] (hp Y F A) x := by
      intro m0 hm0
      have h1 := lp_to (E := fun a x => ev (d + 2) t_Mo_isClash 169 [.ref 62, .int (nI i), .int (nI s), .int (nI j), .int (nI t), .int 0, .int (z01 acc), .int (nI l), .int (nI b), .int (z01 (m0 || (List.range a).any fun a => decide (1 ≤ g1 s l a) && r a b)), .int (nI a)] [] (hp Y F A) x) n1 (fun a ha x hx => by
        rw [nI_succ, anyB, ← Bool.or_assoc, ← z01_or] at hx
        have hle2 := (hw1.2 s l a).1
        repeat (first | refine ev_np [] rfl rfl rfl ?_ | refine ev_grs [] rfl rfl (by rfl) (by rfl) ?_)
        refine ev_an rfl (by rfl) rfl hi rfl ?_
        rw [hm1.1]
        repeat (refine ev_np [] rfl rfl rfl ?_)
        refine ev_ie (nI_ge ha (by omega)) ?_
        repeat (refine ev_np [] rfl rfl rfl ?_)
        refine ev_vc rfl (by rfl) (by rfl) rfl (c_Mo_of d hi hm1 hs hl (by omega)) ?_
        repeat (refine ev_np [] rfl rfl rfl ?_)
        by_cases e : 1 ≤ g1 s l a
        · rw [decide_eq_true e, Bool.true_and] at hx
          refine ev_ie (nI_nle (by omega) (by omega)) ?_
          repeat (first | refine ev_np [] rfl rfl rfl ?_ | refine ev_grs [] rfl rfl (by rfl) (by rfl) ?_)
          refine ev_an rfl (by rfl) (ix6 a b) (by omega) rfl ?_
          rw [hr a b ha hb]
          cases hrk : r a b with
          | true =>
            rw [hrk] at hx
            repeat (refine ev_np [169] rfl rfl rfl ?_)
            exact hx
          | false =>
            rw [hrk] at hx
            repeat (refine ev_np [169] rfl rfl rfl ?_)
            exact hx
        · rw [decide_eq_false e, Bool.false_and] at hx
          refine ev_it (by rw [show g1 s l a = 0 by omega]; exact Int32.le_refl _) ?_
          repeat (refine ev_np [169] rfl rfl rfl ?_)
          exact hx) x (by
        repeat (first | refine ev_np [] rfl rfl rfl ?_ | refine ev_grs [] rfl rfl (by rfl) (by rfl) ?_)
        refine ev_an rfl (by rfl) rfl hi rfl ?_
        rw [hm1.1]
        repeat (refine ev_np [] rfl rfl rfl ?_)
        refine ev_it (nI_le (Nat.le_refl _) (by omega)) ?_
        rw [← z01_or] at hx
        rw [hm0]
        have e3 : (!(decide (g2 t l b < 2) || (List.range n1).any fun a => decide (1 ≤ g1 s l a) && r a b)) = (decide (2 ≤ g2 t l b) && !((List.range n1).any fun a => decide (1 ≤ g1 s l a) && r a b)) := by
          rw [Bool.not_or]
          congr 1
          by_cases h : 2 ≤ g2 t l b
          · simp [h]
          · simp [h]; omega
        rw [← e3] at hx
        cases h9 : (decide (g2 t l b < 2) || (List.range n1).any fun a => decide (1 ≤ g1 s l a) && r a b) with
        | true =>
          rw [h9] at hx
          repeat (refine ev_np [133] rfl rfl rfl ?_)
          exact hx _ _
        | false =>
          rw [h9] at hx
          repeat (refine ev_np [133] rfl rfl rfl ?_)
          exact hx _ _)
      simp only [List.range_zero, List.any_nil, Bool.or_false] at h1
      exact h1
    repeat (first | refine ev_np [] rfl rfl rfl ?_ | refine ev_grs [] rfl rfl (by rfl) (by rfl) ?_)
    refine ev_an rfl (by rfl) rfl hj rfl ?_
    rw [hm2.1]
    repeat (refine ev_np [] rfl rfl rfl ?_)
    refine ev_ie (nI_ge hb (by omega)) ?_
    repeat (refine ev_np [] rfl rfl rfl ?_)
    refine ev_vc rfl (by rfl) (by rfl) rfl (c_Mo_of d hj hm2 ht hl (by omega)) ?_
    repeat (refine ev_np [] rfl rfl rfl ?_)
    by_cases e : g2 t l b < 2
    · refine ev_ie (nI_ge (b := 2) e (by omega)) ?_
      repeat (refine ev_np [169] rfl rfl rfl ?_)
      exact inner true (by simp [e])
    · refine ev_it (nI_le (a := 2) (by omega) (by omega)) ?_
      repeat (refine ev_np [169] rfl rfl rfl ?_)
      exact inner false (by simp [e])
  refine rn_in m_Mo_isClash rfl ⟨rfl, rfl⟩ ?_
  show ev _ t_Mo_isClash 0 [.ref 62, .int (nI i), .int (nI s), .int (nI j), .int (nI t), .int 0, .float 0, .float 0, .float 0, .float 0, .float 0] [] _ _
  repeat (refine ev_np [6] rfl rfl rfl ?_)
  have key := lp_to (E := fun l x => ∀ v8 v9 v10 : Value, ev (d + 2) t_Mo_isClash 6 [.ref 62, .int (nI i), .int (nI s), .int (nI j), .int (nI t), .int 0, .int (z01 ((List.range l).any (clx g1 g2 r s t))), .int (nI l), v8, v9, v10] [] (hp Y F A) x) 3 (fun l hl x hx => by
    intro v8 v9 v10
    rw [nI_succ, anyB, clx_M hw1 hw2, ← Bool.or_assoc] at hx
    obtain ⟨acc, hacc⟩ : ∃ acc, acc = (List.range l).any (clx g1 g2 r s t) := ⟨_, rfl⟩
    rw [← hacc] at hx ⊢
    repeat (refine ev_np [] rfl rfl rfl ?_)
    refine ev_ie (nI_ge (b := 3) hl (by omega)) ?_
    repeat (refine ev_np [15] rfl rfl rfl ?_)
    have h1 := lp_to (E := fun a x => ∀ v9 v10 : Value, ev (d + 2) t_Mo_isClash 15 [.ref 62, .int (nI i), .int (nI s), .int (nI j), .int (nI t), .int 0, .int (z01 (acc || (List.range a).any fun a => decide (2 ≤ g1 s l a) && !((List.range n2).any fun b => decide (1 ≤ g2 t l b) && r a b))), .int (nI l), .int (nI a), v9, v10] [] (hp Y F A) x) n1 (fun a ha x hx => by
      rw [nI_succ, anyB, ← Bool.or_assoc] at hx
      exact in1 l hl a ha _ x hx) x (by
      intro v9 v10
      repeat (first | refine ev_np [] rfl rfl rfl ?_ | refine ev_grs [] rfl rfl (by rfl) (by rfl) ?_)
      refine ev_an rfl (by rfl) rfl hi rfl ?_
      rw [hm1.1]
      repeat (refine ev_np [] rfl rfl rfl ?_)
      refine ev_it (nI_le (Nat.le_refl _) (by omega)) ?_
      repeat (refine ev_np [133] rfl rfl rfl ?_)
      have h2 := lp_to (E := fun b x => ∀ v9 v10 : Value, ev (d + 2) t_Mo_isClash 133 [.ref 62, .int (nI i), .int (nI s), .int (nI j), .int (nI t), .int 0, .int (z01 ((acc || cM1 n1 n2 g1 g2 r s t l) || (List.range b).any fun b => decide (2 ≤ g2 t l b) && !((List.range n1).any fun a => decide (1 ≤ g1 s l a) && r a b))), .int (nI l), .int (nI b), v9, v10] [] (hp Y F A) x) n2 (fun b hb x hx => by
        rw [nI_succ, anyB, ← Bool.or_assoc] at hx
        exact in2 l hl b hb _ x hx) x (by
        intro v9 v10
        repeat (first | refine ev_np [] rfl rfl rfl ?_ | refine ev_grs [] rfl rfl (by rfl) (by rfl) ?_)
        refine ev_an rfl (by rfl) rfl hj rfl ?_
        rw [hm2.1]
        repeat (refine ev_np [] rfl rfl rfl ?_)
        refine ev_it (nI_le (Nat.le_refl _) (by omega)) ?_
        repeat (refine ev_np [6] rfl rfl rfl ?_)
        exact hx _ _ _)
      simp only [List.range_zero, List.any_nil, Bool.or_false] at h2
      exact h2 _ _)
    simp only [List.range_zero, List.any_nil, Bool.or_false] at h1
    exact h1 _ _) (some (.int (z01 (clh g1 g2 r s t))), hp Y F A) (by
    intro v8 v9 v10
    repeat (refine ev_np [] rfl rfl rfl ?_)
    exact ev_rz rfl rfl (z01_b _))
  exact key _ _ _
theorem WJ.drop (h : WJ A n1 n2 r) {s t : Nat} (ht : t < n2) (hn2 : n2 ≤ 6) : WJ (va_up A 70 (upd (A 70) (6 * s + t) 1)) n1 n2 (fun a b => r a b && !(a == s && b == t)) := by
  intro a b ha hb
  rw [va_up_s]
  by_cases e : a = s ∧ b = t
  · obtain ⟨rfl, rfl⟩ := e
    rw [pk_us]
    simp [z01]
  · rw [pk_un (by omega), h a b ha hb]
    have : (a == s && b == t) = false := by
      cases h : (a == s && b == t) with
      | false => rfl
      | true =>
        simp only [Bool.and_eq_true, beq_iff_eq] at h
        exact absurd h e
    dsimp only
    rw [this]
    simp
/-- one pass -/
theorem c_Mo_pass (hi : i < 8) (hj : j < 8) (hm1 : MP A i n1 g1) (hm2 : MP A j n2 g2) (hw1 : GW n1 g1) (hw2 : GW n2 g2) (hin : ∀ a b, r a b = true → a < n1 ∧ b < n2) (hr : WJ A n1 n2 r) : ∃ A', sA [70] A A' ∧ WJ A' n1 n2 (dfo g1 g2 36 r) ∧ ∀ x, (∀ v4 v5 : Value, ev (d + 4) t_Mo_clash 115 [.ref 62, .int (nI i), .int (nI j), .int (z01 (mor g1 g2 36 r)), v4, v5] [] (hp Y F A') x) → ∀ v5 : Value, ev (d + 4) t_Mo_clash 32 [.ref 62, .int (nI i), .int (nI j), .int 0, .int 0, v5] [] (hp Y F A) x := by
  have hn1 := hw1.1.2
  have hn2 := hw2.1.2
  obtain ⟨A1, ⟨i1, i2⟩, h3⟩ := lp_ex (α := Nat → Nat → Int32) (fun s B => sA [70] A B ∧ WJ B n1 n2 (dfo g1 g2 (6 * s) r)) (fun s B x => ∀ v5 : Value, ev (d + 4) t_Mo_clash 32 [.ref 62, .int (nI i), .int (nI j), .int (z01 (mor g1 g2 (6 * s) r)), .int (nI s), v5] [] (hp Y F B) x) n1 (fun s B hs hI => by
    obtain ⟨i1, i2⟩ := hI
    obtain ⟨B1, ⟨j1, j2⟩, h3⟩ := lp_ex (α := Nat → Nat → Int32) (fun t C => sA [70] A C ∧ WJ C n1 n2 (dfo g1 g2 (6 * s + t) r)) (fun t C x => ev (d + 4) t_Mo_clash 46 [.ref 62, .int (nI i), .int (nI j), .int (z01 (mor g1 g2 (6 * s + t) r)), .int (nI s), .int (nI t)] [] (hp Y F C) x) n2 (fun t C ht hI => by
      obtain ⟨j1, j2⟩ := hI
      have mp1 : MP C i n1 g1 := hm1.frame (j1 _ (by decide)) (j1 _ (by decide))
      have mp2 : MP C j n2 g2 := hm2.frame (j1 _ (by decide)) (j1 _ (by decide))
      have e6 : (6 * s + t) / 6 = s := by omega
      have e7 : (6 * s + t) % 6 = t := by omega
      have eD : dfo g1 g2 (6 * s + (t + 1)) r = dst g1 g2 (6 * s + t) (dfo g1 g2 (6 * s + t) r) := rfl
      have eM : mor g1 g2 (6 * s + (t + 1)) r = (mor g1 g2 (6 * s + t) r || dgo g1 g2 (dfo g1 g2 (6 * s + t) r) (6 * s + t)) := by
        show mor g1 g2 (6 * s + t + 1) r = _
        unfold mor
        rw [anyB]
      have head : ∀ x, ev (d + 4) t_Mo_clash 70 [.ref 62, .int (nI i), .int (nI j), .int (z01 (mor g1 g2 (6 * s + t) r)), .int (nI s), .int (nI t)] [.int (z01 (!(dfo g1 g2 (6 * s + t) r s t)))] (hp Y F C) x → ev (d + 4) t_Mo_clash 46 [.ref 62, .int (nI i), .int (nI j), .int (z01 (mor g1 g2 (6 * s + t) r)), .int (nI s), .int (nI t)] [] (hp Y F C) x := by
        intro x hx
        repeat (first | refine ev_np [] rfl rfl rfl ?_ | refine ev_grs [] rfl rfl (by rfl) (by rfl) ?_)
        refine ev_an rfl (by rfl) rfl hj rfl ?_
        rw [mp2.1]
        repeat (refine ev_np [] rfl rfl rfl ?_)
        refine ev_ie (nI_ge ht (by omega)) ?_
        repeat (first | refine ev_np [] rfl rfl rfl ?_ | refine ev_grs [] rfl rfl (by rfl) (by rfl) ?_)
        refine ev_an rfl (by rfl) (ix6 s t) (by omega) rfl ?_
        rw [j2 s t hs ht]
        exact hx
      cases h1 : dfo g1 g2 (6 * s + t) r s t with
      | false =>
        have hd : dgo g1 g2 (dfo g1 g2 (6 * s + t) r) (6 * s + t) = false := by unfold dgo; rw [e6, e7, h1]; rfl
        rw [eD, eM, hd]
        refine ⟨C, ⟨j1, ?_⟩, fun x hx => head x ?_⟩
        · unfold dst
          rw [hd]
          exact j2
        · rw [h1]
          rw [nI_succ, Bool.or_false] at hx
          repeat (refine ev_np [46] rfl rfl rfl ?_)
          exact hx
      | true =>
        cases h2 : clh g1 g2 (dfo g1 g2 (6 * s + t) r) s t with
        | false =>
          have hd : dgo g1 g2 (dfo g1 g2 (6 * s + t) r) (6 * s + t) = false := by unfold dgo; rw [e6, e7, h2, Bool.and_false]
          rw [eD, eM, hd]
          refine ⟨C, ⟨j1, ?_⟩, fun x hx => head x ?_⟩
          · unfold dst
            rw [hd]
            exact j2
          · rw [h1]
            rw [nI_succ, Bool.or_false] at hx
            repeat (refine ev_np [] rfl rfl rfl ?_)
            refine ev_vc rfl (by rfl) (by rfl) rfl (c_Mo_isClash (d + 1) hi hj mp1 mp2 hw1 hw2 j2 (by omega) (by omega)) ?_
            rw [h2]
            repeat (refine ev_np [46] rfl rfl rfl ?_)
            exact hx
        | true =>
          have hd : dgo g1 g2 (dfo g1 g2 (6 * s + t) r) (6 * s + t) = true := by unfold dgo; rw [e6, e7, h1, h2]; rfl
          rw [eD, eM, hd]
          refine ⟨va_up C 70 (upd (C 70) (6 * s + t) 1), ⟨j1.tr (sA.up (by decide)), ?_⟩, fun x hx => head x ?_⟩
          · unfold dst
            rw [hd, e6, e7]
            exact j2.drop ht hn2
          · rw [h1]
            rw [nI_succ, Bool.or_true] at hx
            repeat (refine ev_np [] rfl rfl rfl ?_)
            refine ev_vc rfl (by rfl) (by rfl) rfl (c_Mo_isClash (d + 1) hi hj mp1 mp2 hw1 hw2 j2 (by omega) (by omega)) ?_
            rw [h2]
            repeat (first | refine ev_np [] rfl rfl rfl ?_ | refine ev_grs [] rfl rfl (by rfl) (by rfl) ?_)
            refine ev_am rfl (by rfl) (ix6 s t) (by omega) rfl ?_
            repeat (refine ev_np [46] rfl rfl rfl ?_)
            exact hx) n2 0 B (Nat.zero_add n2) ⟨i1, i2⟩
    have sk := dfo_skip (g1 := g1) (g2 := g2) (r := r) (K := 6 * s + n2) (6 - n2) (fun k h1 h2 => by
      cases e : r (k / 6) (k % 6) with
      | false => rfl
      | true => have := hin _ _ e; omega)
    rw [show 6 * s + n2 + (6 - n2) = 6 * (s + 1) by omega] at sk
    refine ⟨B1, ⟨j1, by rw [sk.1]; exact j2⟩, fun x hx v5 => ?_⟩
    repeat (first | refine ev_np [] rfl rfl rfl ?_ | refine ev_grs [] rfl rfl (by rfl) (by rfl) ?_)
    refine ev_an rfl (by rfl) rfl hi rfl ?_
    rw [i1 64 (by decide), hm1.1]
    repeat (refine ev_np [] rfl rfl rfl ?_)
    refine ev_ie (nI_ge hs (by omega)) ?_
    repeat (refine ev_np [46] rfl rfl rfl ?_)
    refine h3 x ?_
    rw [nI_succ, sk.2] at hx
    repeat (first | refine ev_np [] rfl rfl rfl ?_ | refine ev_grs [] rfl rfl (by rfl) (by rfl) ?_)
    refine ev_an rfl (by rfl) rfl hj rfl ?_
    rw [j1 64 (by decide), hm2.1]
    repeat (refine ev_np [] rfl rfl rfl ?_)
    refine ev_it (nI_le (Nat.le_refl _) (by omega)) ?_
    repeat (refine ev_np [32] rfl rfl rfl ?_)
    exact hx _) n1 0 A (Nat.zero_add n1) ⟨sA.rf, hr⟩
  have sk := dfo_skip (g1 := g1) (g2 := g2) (r := r) (K := 6 * n1) (36 - 6 * n1) (fun k h1 h2 => by
    cases e : r (k / 6) (k % 6) with
    | false => rfl
    | true => have := hin _ _ e; omega)
  rw [show 6 * n1 + (36 - 6 * n1) = 36 by omega] at sk
  refine ⟨A1, i1, by rw [sk.1]; exact i2, fun x hx v5 => h3 x (fun v5 => ?_) v5⟩
  rw [sk.2] at hx
  repeat (first | refine ev_np [] rfl rfl rfl ?_ | refine ev_grs [] rfl rfl (by rfl) (by rfl) ?_)
  refine ev_an rfl (by rfl) rfl hi rfl ?_
  rw [i1 64 (by decide), hm1.1]
  repeat (refine ev_np [] rfl rfl rfl ?_)
  refine ev_it (nI_le (Nat.le_refl _) (by omega)) ?_
  exact hx _ _
theorem c_Mo_clash (hi : i < 8) (hj : j < 8) (hm1 : MP A i n1 g1) (hm2 : MP A j n2 g2) (hw1 : GW n1 g1) (hw2 : GW n2 g2) : ∃ A', xa_rn xa_ms (d + 5) n_Mo_clash [.ref 62, .int (nI i), .int (nI j)] (hp Y F A) none (hp Y F A') ∧ sA [70] A A' ∧ WJ A' n1 n2 (dR n1 n2 g1 g2 37) := by
  obtain ⟨A1, ⟨a1, a2⟩, a3⟩ := lp_ex (α := Nat → Nat → Int32) (fun k B => sA [70] A B ∧ ∀ z, z < k → B 70 z = 0) (fun k B x => ∀ v4 v5 : Value, ev (d + 4) t_Mo_clash 2 [.ref 62, .int (nI i), .int (nI j), .int (nI k), v4, v5] [] (hp Y F B) x) 36 (fun k B hk hI => by
    obtain ⟨i1, i2⟩ := hI
    refine ⟨va_up B 70 (upd (B 70) k 0), ⟨i1.tr (sA.up (by decide)), fun z hz => ?_⟩, fun x hx v4 v5 => ?_⟩
    · rw [va_up_s]
      by_cases e : z = k
      · subst e; rw [pk_us]
      · rw [pk_un e]; exact i2 z (by omega)
    · rw [nI_succ] at hx
      repeat (refine ev_np [] rfl rfl rfl ?_)
      refine ev_ie (nI_ge (b := 36) hk (by omega)) ?_
      repeat (first | refine ev_np [] rfl rfl rfl ?_ | refine ev_grs [] rfl rfl (by rfl) (by rfl) ?_)
      refine ev_am rfl (by rfl) rfl hk rfl ?_
      repeat (refine ev_np [2] rfl rfl rfl ?_)
      exact hx _ _) 36 0 A rfl ⟨sA.rf, fun z hz => by omega⟩
  have w0 : WJ A1 n1 n2 (dR n1 n2 g1 g2 0) := fun a b ha hb => by
    rw [a2 _ (by have := hw1.1.2; have := hw2.1.2; omega)]
    show 0 = z01 (!(decide (a < n1) && decide (b < n2)))
    rw [decide_eq_true ha, decide_eq_true hb]
    rfl
  obtain ⟨m0, hm0, hme⟩ := dR_end (n1 := n1) (n2 := n2) (g1 := g1) (g2 := g2)
  have loop : ∀ c m B, m + c = m0 → sA [70] A B → WJ B n1 n2 (dR n1 n2 g1 g2 m) → ∃ A', sA [70] A A' ∧ WJ A' n1 n2 (dR n1 n2 g1 g2 37) ∧ ∀ v4 v5 : Value, ev (d + 4) t_Mo_clash 23 [.ref 62, .int (nI i), .int (nI j), .int 1, v4, v5] [] (hp Y F B) (none, hp Y F A') := by
    intro c
    induction c with
    | zero =>
      intro m B hm h1 h2
      have : m = m0 := by omega
      subst this
      obtain ⟨B1, b1, b2, b3⟩ := c_Mo_pass (Y := Y) (F := F) (A := B) d hi hj (hm1.frame (h1 _ (by decide)) (h1 _ (by decide))) (hm2.frame (h1 _ (by decide)) (h1 _ (by decide))) hw1 hw2 (fun a b h => dR_in m h) h2
      rw [dfo_same 36 hme, dR_37 (by omega) hme] at b2
      refine ⟨B1, h1.tr b1, b2, fun v4 v5 => ?_⟩
      repeat (refine ev_np [32] rfl rfl rfl ?_)
      refine b3 _ (fun v4 v5 => ?_) _
      rw [hme]
      repeat (refine ev_np [] rfl rfl rfl ?_)
      exact ev_rv rfl
    | succ c ih =>
      intro m B hm h1 h2
      obtain ⟨B1, b1, b2, b3⟩ := c_Mo_pass (Y := Y) (F := F) (A := B) d hi hj (hm1.frame (h1 _ (by decide)) (h1 _ (by decide))) (hm2.frame (h1 _ (by decide)) (h1 _ (by decide))) hw1 hw2 (fun a b h => dR_in m h) h2
      cases hmor : mor g1 g2 36 (dR n1 n2 g1 g2 m) with
      | false =>
        rw [dfo_same 36 hmor, dR_37 (by omega) hmor] at b2
        refine ⟨B1, h1.tr b1, b2, fun v4 v5 => ?_⟩
        repeat (refine ev_np [32] rfl rfl rfl ?_)
        refine b3 _ (fun v4 v5 => ?_) _
        rw [hmor]
        repeat (refine ev_np [] rfl rfl rfl ?_)
        exact ev_rv rfl
      | true =>
        obtain ⟨A', e1, e2, e3⟩ := ih (m + 1) B1 (by omega) (h1.tr b1) b2
        refine ⟨A', e1, e2, fun v4 v5 => ?_⟩
        repeat (refine ev_np [32] rfl rfl rfl ?_)
        refine b3 _ (fun v4 v5 => ?_) _
        rw [hmor]
        repeat (refine ev_np [23] rfl rfl rfl ?_)
        exact e3 _ _
  obtain ⟨A', e1, e2, e3⟩ := loop m0 0 A1 (Nat.zero_add m0) a1 w0
  refine ⟨A', ?_, e1, e2⟩
  refine rn_in m_Mo_clash rfl ⟨rfl, rfl⟩ ?_
  show ev _ t_Mo_clash 0 [.ref 62, .int (nI i), .int (nI j), .float 0, .float 0, .float 0] [] _ _
  repeat (refine ev_np [2] rfl rfl rfl ?_)
  refine a3 _ (fun v4 v5 => ?_) _ _
  repeat (refine ev_np [23] rfl rfl rfl ?_)
  exact e3 _ _
end CLM
end
