section
-- ===== PART A: goes FIRST, ahead of the names: the tables' words, and 'selects' of the private methods out of them =====
/-- a private method of a class that the tables say can be made, by its rows of tables_1 -/
def lw_okq (q : MethodName × Nat) : Prop := (q.1.cls ≠ "java/lang/invoke/MethodHandle" ∧ q.1.cls ≠ "java/lang/invoke/VarHandle") ∧ Cond.instantiable q.1.cls q.2 ∈ tables_1 ∧ Cond.privateMethod q.1 ∈ tables_1 ∧ Cond.instanceMethod q.1 ∈ tables_1
theorem lw_p0 : lw_okq (⟨"BaselineText", "chosen", "(I)LBaselineText$Baseline;"⟩, 5) := ⟨⟨by decide +kernel, by decide +kernel⟩, List.mem_of_getElem? (i := 26) (by decide +kernel), List.mem_of_getElem? (i := 179) (by decide +kernel), List.mem_of_getElem? (i := 180) (by decide +kernel)⟩
theorem lw_p1 : lw_okq (⟨"BaselineText$Reader", "readFirst", "()Z"⟩, 8) := ⟨⟨by decide +kernel, by decide +kernel⟩, List.mem_of_getElem? (i := 195) (by decide +kernel), List.mem_of_getElem? (i := 313) (by decide +kernel), List.mem_of_getElem? (i := 314) (by decide +kernel)⟩
theorem lw_p2 : lw_okq (⟨"BaselineText$Reader", "readFormat", "()Z"⟩, 8) := ⟨⟨by decide +kernel, by decide +kernel⟩, List.mem_of_getElem? (i := 195) (by decide +kernel), List.mem_of_getElem? (i := 317) (by decide +kernel), List.mem_of_getElem? (i := 318) (by decide +kernel)⟩
theorem lw_p3 : lw_okq (⟨"BaselineText$Reader", "readWords", "(Z)I"⟩, 8) := ⟨⟨by decide +kernel, by decide +kernel⟩, List.mem_of_getElem? (i := 195) (by decide +kernel), List.mem_of_getElem? (i := 387) (by decide +kernel), List.mem_of_getElem? (i := 388) (by decide +kernel)⟩
theorem lw_p4 : lw_okq (⟨"BaselineText$Reader", "readMarks", "(Z)Z"⟩, 8) := ⟨⟨by decide +kernel, by decide +kernel⟩, List.mem_of_getElem? (i := 195) (by decide +kernel), List.mem_of_getElem? (i := 391) (by decide +kernel), List.mem_of_getElem? (i := 392) (by decide +kernel)⟩
theorem lw_p5 : lw_okq (⟨"BaselineText$Reader", "markHere", "(Z)I"⟩, 8) := ⟨⟨by decide +kernel, by decide +kernel⟩, List.mem_of_getElem? (i := 195) (by decide +kernel), List.mem_of_getElem? (i := 398) (by decide +kernel), List.mem_of_getElem? (i := 399) (by decide +kernel)⟩
theorem lw_p6 : lw_okq (⟨"BaselineText$Reader", "kindHere", "(Z)I"⟩, 8) := ⟨⟨by decide +kernel, by decide +kernel⟩, List.mem_of_getElem? (i := 195) (by decide +kernel), List.mem_of_getElem? (i := 416) (by decide +kernel), List.mem_of_getElem? (i := 417) (by decide +kernel)⟩
theorem lw_p7 : lw_okq (⟨"BaselineText$Reader", "takeMember", "()I"⟩, 8) := ⟨⟨by decide +kernel, by decide +kernel⟩, List.mem_of_getElem? (i := 195) (by decide +kernel), List.mem_of_getElem? (i := 482) (by decide +kernel), List.mem_of_getElem? (i := 483) (by decide +kernel)⟩
theorem lw_p8 : lw_okq (⟨"java/util/ArrayList", "fastRemove", "([Ljava/lang/Object;I)V"⟩, 3) := ⟨⟨by decide +kernel, by decide +kernel⟩, List.mem_of_getElem? (i := 86) (by decide +kernel), List.mem_of_getElem? (i := 537) (by decide +kernel), List.mem_of_getElem? (i := 538) (by decide +kernel)⟩
theorem lw_p9 : lw_okq (⟨"java/util/ArrayList", "rangeCheckForAdd", "(I)V"⟩, 3) := ⟨⟨by decide +kernel, by decide +kernel⟩, List.mem_of_getElem? (i := 86) (by decide +kernel), List.mem_of_getElem? (i := 566) (by decide +kernel), List.mem_of_getElem? (i := 567) (by decide +kernel)⟩
theorem lw_p10 : lw_okq (⟨"java/util/ArrayList", "grow", "()[Ljava/lang/Object;"⟩, 3) := ⟨⟨by decide +kernel, by decide +kernel⟩, List.mem_of_getElem? (i := 86) (by decide +kernel), List.mem_of_getElem? (i := 570) (by decide +kernel), List.mem_of_getElem? (i := 571) (by decide +kernel)⟩
theorem lw_p11 : lw_okq (⟨"java/util/ArrayList", "grow", "(I)[Ljava/lang/Object;"⟩, 3) := ⟨⟨by decide +kernel, by decide +kernel⟩, List.mem_of_getElem? (i := 86) (by decide +kernel), List.mem_of_getElem? (i := 574) (by decide +kernel), List.mem_of_getElem? (i := 575) (by decide +kernel)⟩
theorem lw_p12 : lw_okq (⟨"BaselineText$Reader", "takeType", "()I"⟩, 8) := ⟨⟨by decide +kernel, by decide +kernel⟩, List.mem_of_getElem? (i := 195) (by decide +kernel), List.mem_of_getElem? (i := 618) (by decide +kernel), List.mem_of_getElem? (i := 619) (by decide +kernel)⟩
theorem lw_p13 : lw_okq (⟨"BaselineText$Baseline", "addMemberLines", "(LBaselineText$Row;LBaselineText$Shelf;)V"⟩, 2) := ⟨⟨by decide +kernel, by decide +kernel⟩, List.mem_of_getElem? (i := 74) (by decide +kernel), List.mem_of_getElem? (i := 695) (by decide +kernel), List.mem_of_getElem? (i := 696) (by decide +kernel)⟩
theorem lw_p14 : lw_okq (⟨"BaselineText", "typeAt", "(II)LBaselineText$Type;"⟩, 5) := ⟨⟨by decide +kernel, by decide +kernel⟩, List.mem_of_getElem? (i := 26) (by decide +kernel), List.mem_of_getElem? (i := 728) (by decide +kernel), List.mem_of_getElem? (i := 729) (by decide +kernel)⟩
theorem lw_p15 : lw_okq (⟨"BaselineText", "memberAt", "(III)LBaselineText$Declaration;"⟩, 5) := ⟨⟨by decide +kernel, by decide +kernel⟩, List.mem_of_getElem? (i := 26) (by decide +kernel), List.mem_of_getElem? (i := 738) (by decide +kernel), List.mem_of_getElem? (i := 739) (by decide +kernel)⟩
def lw_privs_1 : List (MethodName × Nat) := [(⟨"BaselineText", "chosen", "(I)LBaselineText$Baseline;"⟩, 5), (⟨"BaselineText$Reader", "readFirst", "()Z"⟩, 8), (⟨"BaselineText$Reader", "readFormat", "()Z"⟩, 8), (⟨"BaselineText$Reader", "readWords", "(Z)I"⟩, 8), (⟨"BaselineText$Reader", "readMarks", "(Z)Z"⟩, 8), (⟨"BaselineText$Reader", "markHere", "(Z)I"⟩, 8), (⟨"BaselineText$Reader", "kindHere", "(Z)I"⟩, 8), (⟨"BaselineText$Reader", "takeMember", "()I"⟩, 8), (⟨"java/util/ArrayList", "fastRemove", "([Ljava/lang/Object;I)V"⟩, 3), (⟨"java/util/ArrayList", "rangeCheckForAdd", "(I)V"⟩, 3), (⟨"java/util/ArrayList", "grow", "()[Ljava/lang/Object;"⟩, 3), (⟨"java/util/ArrayList", "grow", "(I)[Ljava/lang/Object;"⟩, 3), (⟨"BaselineText$Reader", "takeType", "()I"⟩, 8), (⟨"BaselineText$Baseline", "addMemberLines", "(LBaselineText$Row;LBaselineText$Shelf;)V"⟩, 2), (⟨"BaselineText", "typeAt", "(II)LBaselineText$Type;"⟩, 5), (⟨"BaselineText", "memberAt", "(III)LBaselineText$Declaration;"⟩, 5)]
theorem lw_r1 : ∀ q ∈ lw_privs_1, lw_okq q := List.forall_mem_cons.mpr ⟨lw_p0, List.forall_mem_cons.mpr ⟨lw_p1, List.forall_mem_cons.mpr ⟨lw_p2, List.forall_mem_cons.mpr ⟨lw_p3, List.forall_mem_cons.mpr ⟨lw_p4, List.forall_mem_cons.mpr ⟨lw_p5, List.forall_mem_cons.mpr ⟨lw_p6, List.forall_mem_cons.mpr ⟨lw_p7, List.forall_mem_cons.mpr ⟨lw_p8, List.forall_mem_cons.mpr ⟨lw_p9, List.forall_mem_cons.mpr ⟨lw_p10, List.forall_mem_cons.mpr ⟨lw_p11, List.forall_mem_cons.mpr ⟨lw_p12, List.forall_mem_cons.mpr ⟨lw_p13, List.forall_mem_cons.mpr ⟨lw_p14, List.forall_mem_cons.mpr ⟨lw_p15, fun _ h => absurd h List.not_mem_nil⟩⟩⟩⟩⟩⟩⟩⟩⟩⟩⟩⟩⟩⟩⟩⟩
theorem lw_p16 : lw_okq (⟨"BaselineTextModel", "side", "(I)I"⟩, 26) := ⟨⟨by decide +kernel, by decide +kernel⟩, List.mem_of_getElem? (i := 797) (by decide +kernel), List.mem_of_getElem? (i := 898) (by decide +kernel), List.mem_of_getElem? (i := 899) (by decide +kernel)⟩
theorem lw_p17 : lw_okq (⟨"BaselineTextModel", "next", "()Z"⟩, 26) := ⟨⟨by decide +kernel, by decide +kernel⟩, List.mem_of_getElem? (i := 797) (by decide +kernel), List.mem_of_getElem? (i := 902) (by decide +kernel), List.mem_of_getElem? (i := 903) (by decide +kernel)⟩
theorem lw_p18 : lw_okq (⟨"BaselineTextModel", "first", "(II)I"⟩, 26) := ⟨⟨by decide +kernel, by decide +kernel⟩, List.mem_of_getElem? (i := 797) (by decide +kernel), List.mem_of_getElem? (i := 906) (by decide +kernel), List.mem_of_getElem? (i := 907) (by decide +kernel)⟩
theorem lw_p19 : lw_okq (⟨"BaselineTextModel", "word", "()J"⟩, 26) := ⟨⟨by decide +kernel, by decide +kernel⟩, List.mem_of_getElem? (i := 797) (by decide +kernel), List.mem_of_getElem? (i := 910) (by decide +kernel), List.mem_of_getElem? (i := 911) (by decide +kernel)⟩
theorem lw_p20 : lw_okq (⟨"BaselineTextModel", "tell", "(III)V"⟩, 26) := ⟨⟨by decide +kernel, by decide +kernel⟩, List.mem_of_getElem? (i := 797) (by decide +kernel), List.mem_of_getElem? (i := 916) (by decide +kernel), List.mem_of_getElem? (i := 917) (by decide +kernel)⟩
theorem lw_p21 : lw_okq (⟨"BaselineTextModel", "body", "(III)I"⟩, 26) := ⟨⟨by decide +kernel, by decide +kernel⟩, List.mem_of_getElem? (i := 797) (by decide +kernel), List.mem_of_getElem? (i := 920) (by decide +kernel), List.mem_of_getElem? (i := 921) (by decide +kernel)⟩
theorem lw_p22 : lw_okq (⟨"BaselineTextModel", "memberLine", "(II)V"⟩, 26) := ⟨⟨by decide +kernel, by decide +kernel⟩, List.mem_of_getElem? (i := 797) (by decide +kernel), List.mem_of_getElem? (i := 924) (by decide +kernel), List.mem_of_getElem? (i := 925) (by decide +kernel)⟩
theorem lw_p23 : lw_okq (⟨"BaselineTextModel", "words", "(ZI)Z"⟩, 26) := ⟨⟨by decide +kernel, by decide +kernel⟩, List.mem_of_getElem? (i := 797) (by decide +kernel), List.mem_of_getElem? (i := 928) (by decide +kernel), List.mem_of_getElem? (i := 929) (by decide +kernel)⟩
theorem lw_p24 : lw_okq (⟨"BaselineTextModel", "fail", "(I)Z"⟩, 26) := ⟨⟨by decide +kernel, by decide +kernel⟩, List.mem_of_getElem? (i := 797) (by decide +kernel), List.mem_of_getElem? (i := 940) (by decide +kernel), List.mem_of_getElem? (i := 941) (by decide +kernel)⟩
theorem lw_p25 : lw_okq (⟨"BaselineTextModel", "take", "()Z"⟩, 26) := ⟨⟨by decide +kernel, by decide +kernel⟩, List.mem_of_getElem? (i := 797) (by decide +kernel), List.mem_of_getElem? (i := 953) (by decide +kernel), List.mem_of_getElem? (i := 954) (by decide +kernel)⟩
theorem lw_p26 : lw_okq (⟨"BaselineTextModel", "dotted", "(III)Z"⟩, 26) := ⟨⟨by decide +kernel, by decide +kernel⟩, List.mem_of_getElem? (i := 797) (by decide +kernel), List.mem_of_getElem? (i := 957) (by decide +kernel), List.mem_of_getElem? (i := 958) (by decide +kernel)⟩
theorem lw_p27 : lw_okq (⟨"BaselineTextModel", "init", "()Z"⟩, 26) := ⟨⟨by decide +kernel, by decide +kernel⟩, List.mem_of_getElem? (i := 797) (by decide +kernel), List.mem_of_getElem? (i := 964) (by decide +kernel), List.mem_of_getElem? (i := 965) (by decide +kernel)⟩
theorem lw_p28 : lw_okq (⟨"BaselineTextModel", "method", "()Z"⟩, 26) := ⟨⟨by decide +kernel, by decide +kernel⟩, List.mem_of_getElem? (i := 797) (by decide +kernel), List.mem_of_getElem? (i := 968) (by decide +kernel), List.mem_of_getElem? (i := 969) (by decide +kernel)⟩
theorem lw_p29 : lw_okq (⟨"BaselineTextModel", "field", "(I)I"⟩, 26) := ⟨⟨by decide +kernel, by decide +kernel⟩, List.mem_of_getElem? (i := 797) (by decide +kernel), List.mem_of_getElem? (i := 972) (by decide +kernel), List.mem_of_getElem? (i := 973) (by decide +kernel)⟩
theorem lw_p30 : lw_okq (⟨"BaselineTextModel", "compareMembers", "(II)I"⟩, 26) := ⟨⟨by decide +kernel, by decide +kernel⟩, List.mem_of_getElem? (i := 797) (by decide +kernel), List.mem_of_getElem? (i := 976) (by decide +kernel), List.mem_of_getElem? (i := 977) (by decide +kernel)⟩
theorem lw_p31 : lw_okq (⟨"BaselineTextModel", "compareNames", "(II)I"⟩, 26) := ⟨⟨by decide +kernel, by decide +kernel⟩, List.mem_of_getElem? (i := 797) (by decide +kernel), List.mem_of_getElem? (i := 980) (by decide +kernel), List.mem_of_getElem? (i := 981) (by decide +kernel)⟩
def lw_privs_2 : List (MethodName × Nat) := [(⟨"BaselineTextModel", "side", "(I)I"⟩, 26), (⟨"BaselineTextModel", "next", "()Z"⟩, 26), (⟨"BaselineTextModel", "first", "(II)I"⟩, 26), (⟨"BaselineTextModel", "word", "()J"⟩, 26), (⟨"BaselineTextModel", "tell", "(III)V"⟩, 26), (⟨"BaselineTextModel", "body", "(III)I"⟩, 26), (⟨"BaselineTextModel", "memberLine", "(II)V"⟩, 26), (⟨"BaselineTextModel", "words", "(ZI)Z"⟩, 26), (⟨"BaselineTextModel", "fail", "(I)Z"⟩, 26), (⟨"BaselineTextModel", "take", "()Z"⟩, 26), (⟨"BaselineTextModel", "dotted", "(III)Z"⟩, 26), (⟨"BaselineTextModel", "init", "()Z"⟩, 26), (⟨"BaselineTextModel", "method", "()Z"⟩, 26), (⟨"BaselineTextModel", "field", "(I)I"⟩, 26), (⟨"BaselineTextModel", "compareMembers", "(II)I"⟩, 26), (⟨"BaselineTextModel", "compareNames", "(II)I"⟩, 26)]
theorem lw_r2 : ∀ q ∈ lw_privs_2, lw_okq q := List.forall_mem_cons.mpr ⟨lw_p16, List.forall_mem_cons.mpr ⟨lw_p17, List.forall_mem_cons.mpr ⟨lw_p18, List.forall_mem_cons.mpr ⟨lw_p19, List.forall_mem_cons.mpr ⟨lw_p20, List.forall_mem_cons.mpr ⟨lw_p21, List.forall_mem_cons.mpr ⟨lw_p22, List.forall_mem_cons.mpr ⟨lw_p23, List.forall_mem_cons.mpr ⟨lw_p24, List.forall_mem_cons.mpr ⟨lw_p25, List.forall_mem_cons.mpr ⟨lw_p26, List.forall_mem_cons.mpr ⟨lw_p27, List.forall_mem_cons.mpr ⟨lw_p28, List.forall_mem_cons.mpr ⟨lw_p29, List.forall_mem_cons.mpr ⟨lw_p30, List.forall_mem_cons.mpr ⟨lw_p31, fun _ h => absurd h List.not_mem_nil⟩⟩⟩⟩⟩⟩⟩⟩⟩⟩⟩⟩⟩⟩⟩⟩
theorem lw_p32 : lw_okq (⟨"BaselineTextModel", "move", "(II)V"⟩, 26) := ⟨⟨by decide +kernel, by decide +kernel⟩, List.mem_of_getElem? (i := 797) (by decide +kernel), List.mem_of_getElem? (i := 984) (by decide +kernel), List.mem_of_getElem? (i := 985) (by decide +kernel)⟩
theorem lw_p33 : lw_okq (⟨"BaselineTextModel", "typeLine", "(I)I"⟩, 26) := ⟨⟨by decide +kernel, by decide +kernel⟩, List.mem_of_getElem? (i := 797) (by decide +kernel), List.mem_of_getElem? (i := 988) (by decide +kernel), List.mem_of_getElem? (i := 989) (by decide +kernel)⟩
theorem lw_p34 : lw_okq (⟨"BaselineTextModel", "lineOf", "(II)Z"⟩, 26) := ⟨⟨by decide +kernel, by decide +kernel⟩, List.mem_of_getElem? (i := 797) (by decide +kernel), List.mem_of_getElem? (i := 1000) (by decide +kernel), List.mem_of_getElem? (i := 1001) (by decide +kernel)⟩
theorem lw_p35 : lw_okq (⟨"BaselineTextModel", "say", "(J)V"⟩, 26) := ⟨⟨by decide +kernel, by decide +kernel⟩, List.mem_of_getElem? (i := 797) (by decide +kernel), List.mem_of_getElem? (i := 1004) (by decide +kernel), List.mem_of_getElem? (i := 1005) (by decide +kernel)⟩
theorem lw_p36 : lw_okq (⟨"BaselineTextModel", "put", "(I)V"⟩, 26) := ⟨⟨by decide +kernel, by decide +kernel⟩, List.mem_of_getElem? (i := 797) (by decide +kernel), List.mem_of_getElem? (i := 1008) (by decide +kernel), List.mem_of_getElem? (i := 1009) (by decide +kernel)⟩
theorem lw_p37 : lw_okq (⟨"BaselineTextModel", "typeRow", "(II)I"⟩, 26) := ⟨⟨by decide +kernel, by decide +kernel⟩, List.mem_of_getElem? (i := 797) (by decide +kernel), List.mem_of_getElem? (i := 1012) (by decide +kernel), List.mem_of_getElem? (i := 1013) (by decide +kernel)⟩
theorem lw_p38 : lw_okq (⟨"BaselineTextModel", "count", "(I)I"⟩, 26) := ⟨⟨by decide +kernel, by decide +kernel⟩, List.mem_of_getElem? (i := 797) (by decide +kernel), List.mem_of_getElem? (i := 1016) (by decide +kernel), List.mem_of_getElem? (i := 1017) (by decide +kernel)⟩
theorem lw_p39 : lw_okq (⟨"BaselineTextModel", "memberRow", "(II)I"⟩, 26) := ⟨⟨by decide +kernel, by decide +kernel⟩, List.mem_of_getElem? (i := 797) (by decide +kernel), List.mem_of_getElem? (i := 1020) (by decide +kernel), List.mem_of_getElem? (i := 1021) (by decide +kernel)⟩
theorem lw_p40 : lw_okq (⟨"BaselineTextModel", "rowLine", "(II)V"⟩, 26) := ⟨⟨by decide +kernel, by decide +kernel⟩, List.mem_of_getElem? (i := 797) (by decide +kernel), List.mem_of_getElem? (i := 1024) (by decide +kernel), List.mem_of_getElem? (i := 1025) (by decide +kernel)⟩
theorem lw_p41 : lw_okq (⟨"BaselineTextModel", "copyText", "(ZII)V"⟩, 26) := ⟨⟨by decide +kernel, by decide +kernel⟩, List.mem_of_getElem? (i := 797) (by decide +kernel), List.mem_of_getElem? (i := 1034) (by decide +kernel), List.mem_of_getElem? (i := 1035) (by decide +kernel)⟩
theorem lw_p42 : lw_okq (⟨"BaselineTextModel", "memberAt", "(III)I"⟩, 26) := ⟨⟨by decide +kernel, by decide +kernel⟩, List.mem_of_getElem? (i := 797) (by decide +kernel), List.mem_of_getElem? (i := 1058) (by decide +kernel), List.mem_of_getElem? (i := 1059) (by decide +kernel)⟩
theorem lw_p43 : lw_okq (⟨"BaselineTextModel", "keep", "(II)Z"⟩, 26) := ⟨⟨by decide +kernel, by decide +kernel⟩, List.mem_of_getElem? (i := 797) (by decide +kernel), List.mem_of_getElem? (i := 1070) (by decide +kernel), List.mem_of_getElem? (i := 1071) (by decide +kernel)⟩
theorem lw_p44 : lw_okq (⟨"BaselineTextModel", "alike", "(II)Z"⟩, 26) := ⟨⟨by decide +kernel, by decide +kernel⟩, List.mem_of_getElem? (i := 797) (by decide +kernel), List.mem_of_getElem? (i := 1078) (by decide +kernel), List.mem_of_getElem? (i := 1079) (by decide +kernel)⟩
theorem lw_p45 : lw_okq (⟨"BaselineTextModel", "dollar", "(I)Z"⟩, 26) := ⟨⟨by decide +kernel, by decide +kernel⟩, List.mem_of_getElem? (i := 797) (by decide +kernel), List.mem_of_getElem? (i := 1082) (by decide +kernel), List.mem_of_getElem? (i := 1083) (by decide +kernel)⟩
theorem lw_p46 : lw_okq (⟨"BaselineTextModel", "lostOf", "(II)I"⟩, 26) := ⟨⟨by decide +kernel, by decide +kernel⟩, List.mem_of_getElem? (i := 797) (by decide +kernel), List.mem_of_getElem? (i := 1086) (by decide +kernel), List.mem_of_getElem? (i := 1087) (by decide +kernel)⟩
def lw_privs_3 : List (MethodName × Nat) := [(⟨"BaselineTextModel", "move", "(II)V"⟩, 26), (⟨"BaselineTextModel", "typeLine", "(I)I"⟩, 26), (⟨"BaselineTextModel", "lineOf", "(II)Z"⟩, 26), (⟨"BaselineTextModel", "say", "(J)V"⟩, 26), (⟨"BaselineTextModel", "put", "(I)V"⟩, 26), (⟨"BaselineTextModel", "typeRow", "(II)I"⟩, 26), (⟨"BaselineTextModel", "count", "(I)I"⟩, 26), (⟨"BaselineTextModel", "memberRow", "(II)I"⟩, 26), (⟨"BaselineTextModel", "rowLine", "(II)V"⟩, 26), (⟨"BaselineTextModel", "copyText", "(ZII)V"⟩, 26), (⟨"BaselineTextModel", "memberAt", "(III)I"⟩, 26), (⟨"BaselineTextModel", "keep", "(II)Z"⟩, 26), (⟨"BaselineTextModel", "alike", "(II)Z"⟩, 26), (⟨"BaselineTextModel", "dollar", "(I)Z"⟩, 26), (⟨"BaselineTextModel", "lostOf", "(II)I"⟩, 26)]
theorem lw_r3 : ∀ q ∈ lw_privs_3, lw_okq q := List.forall_mem_cons.mpr ⟨lw_p32, List.forall_mem_cons.mpr ⟨lw_p33, List.forall_mem_cons.mpr ⟨lw_p34, List.forall_mem_cons.mpr ⟨lw_p35, List.forall_mem_cons.mpr ⟨lw_p36, List.forall_mem_cons.mpr ⟨lw_p37, List.forall_mem_cons.mpr ⟨lw_p38, List.forall_mem_cons.mpr ⟨lw_p39, List.forall_mem_cons.mpr ⟨lw_p40, List.forall_mem_cons.mpr ⟨lw_p41, List.forall_mem_cons.mpr ⟨lw_p42, List.forall_mem_cons.mpr ⟨lw_p43, List.forall_mem_cons.mpr ⟨lw_p44, List.forall_mem_cons.mpr ⟨lw_p45, List.forall_mem_cons.mpr ⟨lw_p46, fun _ h => absurd h List.not_mem_nil⟩⟩⟩⟩⟩⟩⟩⟩⟩⟩⟩⟩⟩⟩⟩
def lw_privs : List (MethodName × Nat) := lw_privs_1 ++ (lw_privs_2 ++ (lw_privs_3))
def lw_tbl : List Cond := k2_sels lw_privs ++ tables_1
theorem lw_privs_ok : ∀ q ∈ lw_privs, lw_okq q := by
  show ∀ q ∈ lw_privs_1 ++ (lw_privs_2 ++ (lw_privs_3)), lw_okq q
  exact List.forall_mem_append.mpr ⟨lw_r1, List.forall_mem_append.mpr ⟨lw_r2, lw_r3⟩⟩
end
section
/-! NAMES, by program out of the claim: classes (R_, F_, t_), methods (b_, y_), the words of the tables (tw_) -/
def R_Rw : String := "BaselineText$Row"
def F_Rw : u_T := fun k => match k with
  | 0 => ("BaselineText$Row", "letters", "[C", true)
  | 1 => ("BaselineText$Row", "length", "I", false)
  | _ => ("BaselineText$Row", "overflowed", "Z", false)
def t_Rw : Nat → FieldType := fun k => match k with
  | 0 => .array .char
  | 1 => .int
  | _ => .boolean
theorem n_Rw : ∀ a, a < 3 → ∀ b, b < 3 → a ≠ b → (F_Rw a).2.1 ≠ (F_Rw b).2.1 := by decide +kernel
theorem t_Rw_ok : ∀ k, k < 3 → parseFieldDescriptor (F_Rw k).2.2.1 = some (t_Rw k) := by decide +kernel
def R_Dc : String := "BaselineText$Declaration"
def F_Dc : u_T := fun k => match k with
  | 0 => ("BaselineText$Declaration", "name", "LBaselineText$Row;", true)
  | 1 => ("BaselineText$Declaration", "descriptor", "LBaselineText$Row;", true)
  | 2 => ("BaselineText$Declaration", "kind", "I", false)
  | _ => ("BaselineText$Declaration", "marks", "I", false)
def t_Dc : Nat → FieldType := fun k => match k with
  | 0 => .object "BaselineText$Row"
  | 1 => .object "BaselineText$Row"
  | 2 => .int
  | _ => .int
theorem n_Dc : ∀ a, a < 4 → ∀ b, b < 4 → a ≠ b → (F_Dc a).2.1 ≠ (F_Dc b).2.1 := by decide +kernel
theorem t_Dc_ok : ∀ k, k < 4 → parseFieldDescriptor (F_Dc k).2.2.1 = some (t_Dc k) := by decide +kernel
def R_Tp : String := "BaselineText$Type"
def F_Tp : u_T := fun k => match k with
  | 0 => ("BaselineText$Declaration", "name", "LBaselineText$Row;", true)
  | 1 => ("BaselineText$Declaration", "descriptor", "LBaselineText$Row;", true)
  | 2 => ("BaselineText$Declaration", "kind", "I", false)
  | 3 => ("BaselineText$Declaration", "marks", "I", false)
  | _ => ("BaselineText$Type", "members", "LBaselineText$Shelf;", true)
def t_Tp : Nat → FieldType := fun k => match k with
  | 0 => .object "BaselineText$Row"
  | 1 => .object "BaselineText$Row"
  | 2 => .int
  | 3 => .int
  | _ => .object "BaselineText$Shelf"
theorem n_Tp : ∀ a, a < 5 → ∀ b, b < 5 → a ≠ b → (F_Tp a).2.1 ≠ (F_Tp b).2.1 := by decide +kernel
theorem t_Tp_ok : ∀ k, k < 5 → parseFieldDescriptor (F_Tp k).2.2.1 = some (t_Tp k) := by decide +kernel
def R_Sf : String := "BaselineText$Shelf"
def F_Sf : u_T := fun k => match k with
  | 0 => ("BaselineText$Shelf", "declarations", "Ljava/util/ArrayList;", true)
  | 1 => ("BaselineText$Shelf", "most", "I", true)
  | _ => ("BaselineText$Shelf", "count", "I", false)
def t_Sf : Nat → FieldType := fun k => match k with
  | 0 => .object "java/util/ArrayList"
  | 1 => .int
  | _ => .int
theorem n_Sf : ∀ a, a < 3 → ∀ b, b < 3 → a ≠ b → (F_Sf a).2.1 ≠ (F_Sf b).2.1 := by decide +kernel
theorem t_Sf_ok : ∀ k, k < 3 → parseFieldDescriptor (F_Sf k).2.2.1 = some (t_Sf k) := by decide +kernel
def R_AL : String := "java/util/ArrayList"
def F_AL : u_T := fun k => match k with
  | 0 => ("java/util/ArrayList", "elementData", "[Ljava/lang/Object;", false)
  | 1 => ("java/util/ArrayList", "size", "I", false)
  | _ => ("java/util/AbstractList", "modCount", "I", false)
def t_AL : Nat → FieldType := fun k => match k with
  | 0 => .array (.object "java/lang/Object")
  | 1 => .int
  | _ => .int
theorem n_AL : ∀ a, a < 3 → ∀ b, b < 3 → a ≠ b → (F_AL a).2.1 ≠ (F_AL b).2.1 := by decide +kernel
theorem t_AL_ok : ∀ k, k < 3 → parseFieldDescriptor (F_AL k).2.2.1 = some (t_AL k) := by decide +kernel
def R_Bl : String := "BaselineText$Baseline"
def F_Bl : u_T := fun k => match k with
  | 0 => ("BaselineText$Baseline", "types", "LBaselineText$Shelf;", true)
  | _ => ("BaselineText$Baseline", "format", "I", false)
def t_Bl : Nat → FieldType := fun k => match k with
  | 0 => .object "BaselineText$Shelf"
  | _ => .int
theorem n_Bl : ∀ a, a < 2 → ∀ b, b < 2 → a ≠ b → (F_Bl a).2.1 ≠ (F_Bl b).2.1 := by decide +kernel
theorem t_Bl_ok : ∀ k, k < 2 → parseFieldDescriptor (F_Bl k).2.2.1 = some (t_Bl k) := by decide +kernel
def R_Dg : String := "BaselineText$Diagnostics"
def F_Dg : u_T := fun k => match k with
  | 0 => ("BaselineText$Diagnostics", "numbers", "[I", true)
  | 1 => ("BaselineText$Diagnostics", "lines", "[I", true)
  | 2 => ("BaselineText$Diagnostics", "places", "[I", true)
  | _ => ("BaselineText$Diagnostics", "count", "I", false)
def t_Dg : Nat → FieldType := fun k => match k with
  | 0 => .array .int
  | 1 => .array .int
  | 2 => .array .int
  | _ => .int
theorem n_Dg : ∀ a, a < 4 → ∀ b, b < 4 → a ≠ b → (F_Dg a).2.1 ≠ (F_Dg b).2.1 := by decide +kernel
theorem t_Dg_ok : ∀ k, k < 4 → parseFieldDescriptor (F_Dg k).2.2.1 = some (t_Dg k) := by decide +kernel
def R_Ln : String := "BaselineText$Line"
def F_Ln : u_T := fun k => match k with
  | 0 => ("BaselineText$Line", "text", "LBaselineText$Row;", true)
  | 1 => ("BaselineText$Line", "start", "I", false)
  | 2 => ("BaselineText$Line", "end", "I", false)
  | 3 => ("BaselineText$Line", "wordStart", "I", false)
  | _ => ("BaselineText$Line", "wordEnd", "I", false)
def t_Ln : Nat → FieldType := fun k => match k with
  | 0 => .object "BaselineText$Row"
  | 1 => .int
  | 2 => .int
  | 3 => .int
  | _ => .int
theorem n_Ln : ∀ a, a < 5 → ∀ b, b < 5 → a ≠ b → (F_Ln a).2.1 ≠ (F_Ln b).2.1 := by decide +kernel
theorem t_Ln_ok : ∀ k, k < 5 → parseFieldDescriptor (F_Ln k).2.2.1 = some (t_Ln k) := by decide +kernel
def R_Rd : String := "BaselineText$Reader"
def F_Rd : u_T := fun k => match k with
  | 0 => ("BaselineText$Reader", "line", "LBaselineText$Line;", true)
  | 1 => ("BaselineText$Reader", "target", "LBaselineText$Baseline;", true)
  | 2 => ("BaselineText$Reader", "diagnostics", "LBaselineText$Diagnostics;", true)
  | 3 => ("BaselineText$Reader", "draft", "LBaselineText$Declaration;", true)
  | 4 => ("BaselineText$Reader", "number", "I", false)
  | 5 => ("BaselineText$Reader", "pastFirst", "Z", false)
  | 6 => ("BaselineText$Reader", "broken", "Z", false)
  | _ => ("BaselineText$Reader", "owner", "LBaselineText$Type;", false)
def t_Rd : Nat → FieldType := fun k => match k with
  | 0 => .object "BaselineText$Line"
  | 1 => .object "BaselineText$Baseline"
  | 2 => .object "BaselineText$Diagnostics"
  | 3 => .object "BaselineText$Declaration"
  | 4 => .int
  | 5 => .boolean
  | 6 => .boolean
  | _ => .object "BaselineText$Type"
theorem n_Rd : ∀ a, a < 8 → ∀ b, b < 8 → a ≠ b → (F_Rd a).2.1 ≠ (F_Rd b).2.1 := by decide +kernel
theorem t_Rd_ok : ∀ k, k < 8 → parseFieldDescriptor (F_Rd k).2.2.1 = some (t_Rd k) := by decide +kernel
def R_B : String := "BaselineText"
def F_B : u_T := fun k => match k with
  | 0 => ("BaselineText", "text", "LBaselineText$Row;", true)
  | 1 => ("BaselineText", "form", "LBaselineText$Row;", true)
  | 2 => ("BaselineText", "diagnostics", "LBaselineText$Diagnostics;", true)
  | 3 => ("BaselineText", "baseline0", "LBaselineText$Baseline;", false)
  | _ => ("BaselineText", "baseline1", "LBaselineText$Baseline;", false)
def t_B : Nat → FieldType := fun k => match k with
  | 0 => .object "BaselineText$Row"
  | 1 => .object "BaselineText$Row"
  | 2 => .object "BaselineText$Diagnostics"
  | 3 => .object "BaselineText$Baseline"
  | _ => .object "BaselineText$Baseline"
theorem n_B : ∀ a, a < 5 → ∀ b, b < 5 → a ≠ b → (F_B a).2.1 ≠ (F_B b).2.1 := by decide +kernel
theorem t_B_ok : ∀ k, k < 5 → parseFieldDescriptor (F_B k).2.2.1 = some (t_B k) := by decide +kernel
def R_Mo : String := "BaselineTextModel"
def F_Mo : u_T := fun k => match k with
  | 0 => ("BaselineTextModel", "text", "[I", true)
  | 1 => ("BaselineTextModel", "size", "I", false)
  | 2 => ("BaselineTextModel", "diags", "[I", true)
  | 3 => ("BaselineTextModel", "found", "I", false)
  | 4 => ("BaselineTextModel", "crossed", "Z", false)
  | 5 => ("BaselineTextModel", "types", "[I", true)
  | 6 => ("BaselineTextModel", "formats", "[I", true)
  | 7 => ("BaselineTextModel", "name", "[I", true)
  | 8 => ("BaselineTextModel", "desc", "[I", true)
  | 9 => ("BaselineTextModel", "nameSize", "[I", true)
  | 10 => ("BaselineTextModel", "descSize", "[I", true)
  | 11 => ("BaselineTextModel", "kind", "[I", true)
  | 12 => ("BaselineTextModel", "marks", "[I", true)
  | 13 => ("BaselineTextModel", "members", "[I", true)
  | 14 => ("BaselineTextModel", "from", "I", false)
  | 15 => ("BaselineTextModel", "end", "I", false)
  | 16 => ("BaselineTextModel", "wordFrom", "I", false)
  | 17 => ("BaselineTextModel", "wordEnd", "I", false)
  | 18 => ("BaselineTextModel", "format", "I", false)
  | 19 => ("BaselineTextModel", "part", "[I", true)
  | 20 => ("BaselineTextModel", "partSize", "I", false)
  | 21 => ("BaselineTextModel", "code", "I", false)
  | 22 => ("BaselineTextModel", "place", "I", false)
  | 23 => ("BaselineTextModel", "out", "[I", true)
  | 24 => ("BaselineTextModel", "written", "I", false)
  | _ => ("BaselineTextModel", "other", "[I", true)
def t_Mo : Nat → FieldType := fun k => match k with
  | 0 => .array .int
  | 1 => .int
  | 2 => .array .int
  | 3 => .int
  | 4 => .boolean
  | 5 => .array .int
  | 6 => .array .int
  | 7 => .array .int
  | 8 => .array .int
  | 9 => .array .int
  | 10 => .array .int
  | 11 => .array .int
  | 12 => .array .int
  | 13 => .array .int
  | 14 => .int
  | 15 => .int
  | 16 => .int
  | 17 => .int
  | 18 => .int
  | 19 => .array .int
  | 20 => .int
  | 21 => .int
  | 22 => .int
  | 23 => .array .int
  | 24 => .int
  | _ => .array .int
theorem n_Mo : ∀ a, a < 26 → ∀ b, b < 26 → a ≠ b → (F_Mo a).2.1 ≠ (F_Mo b).2.1 := by decide +kernel
theorem t_Mo_ok : ∀ k, k < 26 → parseFieldDescriptor (F_Mo k).2.2.1 = some (t_Mo k) := by decide +kernel
abbrev classes : List vw_C := [(R_Rw, F_Rw, 3), (R_Dc, F_Dc, 4), (R_Tp, F_Tp, 5), (R_Sf, F_Sf, 3), (R_AL, F_AL, 3), (R_Bl, F_Bl, 2), (R_Dg, F_Dg, 4), (R_Ln, F_Ln, 5), (R_Rd, F_Rd, 8), (R_B, F_B, 5), (R_Mo, F_Mo, 26)]
abbrev b_B_init : ByteArray := prog_1_method_1_code
def y_B_init : MethodName := ⟨"BaselineText", "<init>", "()V"⟩
abbrev b_Obj_init : ByteArray := object_method_1_code
def y_Obj_init : MethodName := ⟨"java/lang/Object", "<init>", "()V"⟩
abbrev b_Rw_init : ByteArray := prog_8_method_1_code
def y_Rw_init : MethodName := ⟨"BaselineText$Row", "<init>", "(I)V"⟩
abbrev b_Dg_init : ByteArray := prog_4_method_1_code
def y_Dg_init : MethodName := ⟨"BaselineText$Diagnostics", "<init>", "()V"⟩
abbrev b_Bl_init : ByteArray := prog_2_method_1_code
def y_Bl_init : MethodName := ⟨"BaselineText$Baseline", "<init>", "()V"⟩
abbrev b_Sf_init : ByteArray := prog_9_method_1_code
def y_Sf_init : MethodName := ⟨"BaselineText$Shelf", "<init>", "(I)V"⟩
abbrev b_AL_init : ByteArray := prog_24_method_2_code
def y_AL_init : MethodName := ⟨"java/util/ArrayList", "<init>", "()V"⟩
abbrev b_AbL_init : ByteArray := prog_23_method_1_code
def y_AbL_init : MethodName := ⟨"java/util/AbstractList", "<init>", "()V"⟩
abbrev b_AbC_init : ByteArray := prog_22_method_1_code
def y_AbC_init : MethodName := ⟨"java/util/AbstractCollection", "<init>", "()V"⟩
abbrev b_B_type : ByteArray := prog_1_method_2_code
def y_B_type : MethodName := ⟨"BaselineText", "type", "(JI)I"⟩
abbrev b_Rw_length : ByteArray := prog_8_method_2_code
def y_Rw_length : MethodName := ⟨"BaselineText$Row", "length", "()I"⟩
abbrev b_B_byteOf : ByteArray := prog_1_method_16_code
def y_B_byteOf : MethodName := ⟨"BaselineText", "byteOf", "(JI)I"⟩
abbrev b_B_isTextCode : ByteArray := prog_1_method_17_code
def y_B_isTextCode : MethodName := ⟨"BaselineText", "isTextCode", "(I)Z"⟩
abbrev b_Rw_add : ByteArray := prog_8_method_6_code
def y_Rw_add : MethodName := ⟨"BaselineText$Row", "add", "(I)V"⟩
abbrev b_B_clear : ByteArray := prog_1_method_3_code
def y_B_clear : MethodName := ⟨"BaselineText", "clear", "()I"⟩
abbrev b_Rw_empty : ByteArray := prog_8_method_5_code
def y_Rw_empty : MethodName := ⟨"BaselineText$Row", "empty", "()V"⟩
abbrev b_B_read : ByteArray := prog_1_method_4_code
def y_B_read : MethodName := ⟨"BaselineText", "read", "(I)I"⟩
abbrev b_B_chosen : ByteArray := prog_1_method_18_code
def y_B_chosen : MethodName := ⟨"BaselineText", "chosen", "(I)LBaselineText$Baseline;"⟩
abbrev b_Bl_empty : ByteArray := prog_2_method_2_code
def y_Bl_empty : MethodName := ⟨"BaselineText$Baseline", "empty", "()V"⟩
abbrev b_Sf_empty : ByteArray := prog_9_method_4_code
def y_Sf_empty : MethodName := ⟨"BaselineText$Shelf", "empty", "()V"⟩
abbrev b_Dg_empty : ByteArray := prog_4_method_4_code
def y_Dg_empty : MethodName := ⟨"BaselineText$Diagnostics", "empty", "()V"⟩
abbrev b_Rd_init : ByteArray := prog_7_method_1_code
def y_Rd_init : MethodName := ⟨"BaselineText$Reader", "<init>", "(LBaselineText$Row;LBaselineText$Baseline;LBaselineText$Diagnostics;)V"⟩
abbrev b_Dc_init : ByteArray := prog_3_method_1_code
def y_Dc_init : MethodName := ⟨"BaselineText$Declaration", "<init>", "()V"⟩
abbrev b_Ln_init : ByteArray := prog_6_method_1_code
def y_Ln_init : MethodName := ⟨"BaselineText$Line", "<init>", "(LBaselineText$Row;)V"⟩
abbrev b_Rw_at : ByteArray := prog_8_method_4_code
def y_Rw_at : MethodName := ⟨"BaselineText$Row", "at", "(I)I"⟩
abbrev b_Rd_readLine : ByteArray := prog_7_method_2_code
def y_Rd_readLine : MethodName := ⟨"BaselineText$Reader", "readLine", "(II)V"⟩
abbrev b_Ln_frame : ByteArray := prog_6_method_2_code
def y_Ln_frame : MethodName := ⟨"BaselineText$Line", "frame", "(II)V"⟩
abbrev b_Ln_toFirstWord : ByteArray := prog_6_method_3_code
def y_Ln_toFirstWord : MethodName := ⟨"BaselineText$Line", "toFirstWord", "()V"⟩
abbrev b_Ln_toNextWord : ByteArray := prog_6_method_4_code
def y_Ln_toNextWord : MethodName := ⟨"BaselineText$Line", "toNextWord", "()V"⟩
abbrev b_Ln_isSkipped : ByteArray := prog_6_method_7_code
def y_Ln_isSkipped : MethodName := ⟨"BaselineText$Line", "isSkipped", "()Z"⟩
abbrev b_Ln_hasWord : ByteArray := prog_6_method_5_code
def y_Ln_hasWord : MethodName := ⟨"BaselineText$Line", "hasWord", "()Z"⟩
abbrev b_Rd_readFirst : ByteArray := prog_7_method_3_code
def y_Rd_readFirst : MethodName := ⟨"BaselineText$Reader", "readFirst", "()Z"⟩
abbrev b_Rd_readFormat : ByteArray := prog_7_method_4_code
def y_Rd_readFormat : MethodName := ⟨"BaselineText$Reader", "readFormat", "()Z"⟩
abbrev b_Ln_isAt : ByteArray := prog_6_method_8_code
def y_Ln_isAt : MethodName := ⟨"BaselineText$Line", "isAt", "(Ljava/lang/String;)Z"⟩
abbrev b_St_length : ByteArray := prog_18_method_54_code
def y_St_length : MethodName := ⟨"java/lang/String", "length", "()I"⟩
abbrev b_St_coder : ByteArray := prog_18_method_152_code
def y_St_coder : MethodName := ⟨"java/lang/String", "coder", "()B"⟩
abbrev b_St_charAt : ByteArray := prog_18_method_56_code
def y_St_charAt : MethodName := ⟨"java/lang/String", "charAt", "(I)C"⟩
abbrev b_St_isLatin1 : ByteArray := prog_18_method_154_code
def y_St_isLatin1 : MethodName := ⟨"java/lang/String", "isLatin1", "()Z"⟩
abbrev b_SL_charAt : ByteArray := prog_19_method_2_code
def y_SL_charAt : MethodName := ⟨"java/lang/StringLatin1", "charAt", "([BI)C"⟩
abbrev b_St_checkIndex : ByteArray := prog_18_method_155_code
def y_St_checkIndex : MethodName := ⟨"java/lang/String", "checkIndex", "(II)V"⟩
abbrev b_Pre_checkIndex : ByteArray := prog_32_method_11_code
def y_Pre_checkIndex : MethodName := ⟨"jdk/internal/util/Preconditions", "checkIndex", "(IILjava/util/function/BiFunction;)I"⟩
abbrev b_SU_charAt : ByteArray := prog_20_method_83_code
def y_SU_charAt : MethodName := ⟨"java/lang/StringUTF16", "charAt", "([BI)C"⟩
abbrev b_SU_checkIndex : ByteArray := prog_20_method_91_code
def y_SU_checkIndex : MethodName := ⟨"java/lang/StringUTF16", "checkIndex", "(I[B)V"⟩
abbrev b_SU_length : ByteArray := prog_20_method_6_code
def y_SU_length : MethodName := ⟨"java/lang/StringUTF16", "length", "([B)I"⟩
abbrev b_SU_getChar : ByteArray := prog_20_method_5_code
def y_SU_getChar : MethodName := ⟨"java/lang/StringUTF16", "getChar", "([BI)C"⟩
abbrev b_Ln_place : ByteArray := prog_6_method_6_code
def y_Ln_place : MethodName := ⟨"BaselineText$Line", "place", "()I"⟩
abbrev b_Dg_add : ByteArray := prog_4_method_5_code
def y_Dg_add : MethodName := ⟨"BaselineText$Diagnostics", "add", "(III)V"⟩
abbrev b_Rd_readWords : ByteArray := prog_7_method_5_code
def y_Rd_readWords : MethodName := ⟨"BaselineText$Reader", "readWords", "(Z)I"⟩
abbrev b_Rd_readMarks : ByteArray := prog_7_method_6_code
def y_Rd_readMarks : MethodName := ⟨"BaselineText$Reader", "readMarks", "(Z)Z"⟩
abbrev b_Vo_marks : ByteArray := prog_11_method_2_code
def y_Vo_marks : MethodName := ⟨"BaselineText$Vocabulary", "marks", "(Z)I"⟩
abbrev b_Rd_markHere : ByteArray := prog_7_method_7_code
def y_Rd_markHere : MethodName := ⟨"BaselineText$Reader", "markHere", "(Z)I"⟩
abbrev b_Vo_mark : ByteArray := prog_11_method_4_code
def y_Vo_mark : MethodName := ⟨"BaselineText$Vocabulary", "mark", "(ZI)Ljava/lang/String;"⟩
abbrev b_Vo_memberMark : ByteArray := prog_11_method_7_code
def y_Vo_memberMark : MethodName := ⟨"BaselineText$Vocabulary", "memberMark", "(I)Ljava/lang/String;"⟩
abbrev b_Vo_typeMark : ByteArray := prog_11_method_6_code
def y_Vo_typeMark : MethodName := ⟨"BaselineText$Vocabulary", "typeMark", "(I)Ljava/lang/String;"⟩
abbrev b_Rd_kindHere : ByteArray := prog_7_method_8_code
def y_Rd_kindHere : MethodName := ⟨"BaselineText$Reader", "kindHere", "(Z)I"⟩
abbrev b_Vo_kinds : ByteArray := prog_11_method_3_code
def y_Vo_kinds : MethodName := ⟨"BaselineText$Vocabulary", "kinds", "(Z)I"⟩
abbrev b_Vo_kind : ByteArray := prog_11_method_5_code
def y_Vo_kind : MethodName := ⟨"BaselineText$Vocabulary", "kind", "(ZI)Ljava/lang/String;"⟩
abbrev b_Vo_memberKind : ByteArray := prog_11_method_9_code
def y_Vo_memberKind : MethodName := ⟨"BaselineText$Vocabulary", "memberKind", "(I)Ljava/lang/String;"⟩
abbrev b_Vo_typeKind : ByteArray := prog_11_method_8_code
def y_Vo_typeKind : MethodName := ⟨"BaselineText$Vocabulary", "typeKind", "(I)Ljava/lang/String;"⟩
abbrev b_Ln_copyName : ByteArray := prog_6_method_9_code
def y_Ln_copyName : MethodName := ⟨"BaselineText$Line", "copyName", "(LBaselineText$Row;I)V"⟩
abbrev b_Gr_isName : ByteArray := prog_5_method_2_code
def y_Gr_isName : MethodName := ⟨"BaselineText$Grammar", "isName", "(LBaselineText$Row;ZI)Z"⟩
abbrev b_Rw_isWord : ByteArray := prog_8_method_11_code
def y_Rw_isWord : MethodName := ⟨"BaselineText$Row", "isWord", "(Ljava/lang/String;)Z"⟩
abbrev b_Rw_fits : ByteArray := prog_8_method_3_code
def y_Rw_fits : MethodName := ⟨"BaselineText$Row", "fits", "()Z"⟩
abbrev b_Gr_nameEnd : ByteArray := prog_5_method_6_code
def y_Gr_nameEnd : MethodName := ⟨"BaselineText$Grammar", "nameEnd", "(LBaselineText$Row;IC)I"⟩
abbrev b_Gr_isLetter : ByteArray := prog_5_method_7_code
def y_Gr_isLetter : MethodName := ⟨"BaselineText$Grammar", "isLetter", "(I)Z"⟩
abbrev b_Gr_isDigit : ByteArray := prog_5_method_8_code
def y_Gr_isDigit : MethodName := ⟨"BaselineText$Grammar", "isDigit", "(I)Z"⟩
abbrev b_Gr_isMethodDescriptor : ByteArray := prog_5_method_4_code
def y_Gr_isMethodDescriptor : MethodName := ⟨"BaselineText$Grammar", "isMethodDescriptor", "(LBaselineText$Row;)Z"⟩
abbrev b_Gr_fieldEnd : ByteArray := prog_5_method_5_code
def y_Gr_fieldEnd : MethodName := ⟨"BaselineText$Grammar", "fieldEnd", "(LBaselineText$Row;I)I"⟩
abbrev b_Gr_isBase : ByteArray := prog_5_method_9_code
def y_Gr_isBase : MethodName := ⟨"BaselineText$Grammar", "isBase", "(I)Z"⟩
abbrev b_Gr_isFieldDescriptor : ByteArray := prog_5_method_3_code
def y_Gr_isFieldDescriptor : MethodName := ⟨"BaselineText$Grammar", "isFieldDescriptor", "(LBaselineText$Row;)Z"⟩
abbrev b_Rd_takeMember : ByteArray := prog_7_method_10_code
def y_Rd_takeMember : MethodName := ⟨"BaselineText$Reader", "takeMember", "()I"⟩
abbrev b_Sf_alike : ByteArray := prog_9_method_8_code
def y_Sf_alike : MethodName := ⟨"BaselineText$Shelf", "alike", "(LBaselineText$Declaration;)LBaselineText$Declaration;"⟩
abbrev b_Sf_get : ByteArray := prog_9_method_5_code
def y_Sf_get : MethodName := ⟨"BaselineText$Shelf", "get", "(I)LBaselineText$Declaration;"⟩
abbrev b_AL_size : ByteArray := prog_24_method_8_code
def y_AL_size : MethodName := ⟨"java/util/ArrayList", "size", "()I"⟩
abbrev b_AL_get : ByteArray := prog_24_method_20_code
def y_AL_get : MethodName := ⟨"java/util/ArrayList", "get", "(I)Ljava/lang/Object;"⟩
abbrev b_Obs_checkIndex : ByteArray := prog_28_method_17_code
def y_Obs_checkIndex : MethodName := ⟨"java/util/Objects", "checkIndex", "(II)I"⟩
abbrev b_AL_elementData : ByteArray := prog_24_method_18_code
def y_AL_elementData : MethodName := ⟨"java/util/ArrayList", "elementData", "(I)Ljava/lang/Object;"⟩
abbrev b_Dc_compare : ByteArray := prog_3_method_3_code
def y_Dc_compare : MethodName := ⟨"BaselineText$Declaration", "compare", "(LBaselineText$Declaration;)I"⟩
abbrev b_Rw_compare : ByteArray := prog_8_method_12_code
def y_Rw_compare : MethodName := ⟨"BaselineText$Row", "compare", "(LBaselineText$Row;)I"⟩
abbrev b_Sf_isFull : ByteArray := prog_9_method_3_code
def y_Sf_isFull : MethodName := ⟨"BaselineText$Shelf", "isFull", "()Z"⟩
abbrev b_Tp_addMember : ByteArray := prog_10_method_2_code
def y_Tp_addMember : MethodName := ⟨"BaselineText$Type", "addMember", "(LBaselineText$Declaration;)V"⟩
abbrev b_Sf_takeSpare : ByteArray := prog_9_method_6_code
def y_Sf_takeSpare : MethodName := ⟨"BaselineText$Shelf", "takeSpare", "()LBaselineText$Declaration;"⟩
abbrev b_AL_remove : ByteArray := prog_24_method_29_code
def y_AL_remove : MethodName := ⟨"java/util/ArrayList", "remove", "(I)Ljava/lang/Object;"⟩
abbrev b_AL_fastRemove : ByteArray := prog_24_method_39_code
def y_AL_fastRemove : MethodName := ⟨"java/util/ArrayList", "fastRemove", "([Ljava/lang/Object;I)V"⟩
abbrev b_Dc_copy : ByteArray := prog_3_method_2_code
def y_Dc_copy : MethodName := ⟨"BaselineText$Declaration", "copy", "(LBaselineText$Declaration;)V"⟩
abbrev b_Rw_copy : ByteArray := prog_8_method_9_code
def y_Rw_copy : MethodName := ⟨"BaselineText$Row", "copy", "(LBaselineText$Row;)V"⟩
abbrev b_Sf_put : ByteArray := prog_9_method_7_code
def y_Sf_put : MethodName := ⟨"BaselineText$Shelf", "put", "(LBaselineText$Declaration;)V"⟩
abbrev b_AL_add : ByteArray := prog_24_method_26_code
def y_AL_add : MethodName := ⟨"java/util/ArrayList", "add", "(ILjava/lang/Object;)V"⟩
abbrev b_AL_rangeCheckForAdd : ByteArray := prog_24_method_45_code
def y_AL_rangeCheckForAdd : MethodName := ⟨"java/util/ArrayList", "rangeCheckForAdd", "(I)V"⟩
abbrev b_AL_grow : ByteArray := prog_24_method_7_code
def y_AL_grow : MethodName := ⟨"java/util/ArrayList", "grow", "()[Ljava/lang/Object;"⟩
abbrev b_AL_grow2 : ByteArray := prog_24_method_6_code
def y_AL_grow2 : MethodName := ⟨"java/util/ArrayList", "grow", "(I)[Ljava/lang/Object;"⟩
abbrev b_ASu_newLength : ByteArray := prog_31_method_27_code
def y_ASu_newLength : MethodName := ⟨"jdk/internal/util/ArraysSupport", "newLength", "(III)I"⟩
abbrev b_Ma_max : ByteArray := prog_17_method_65_code
def y_Ma_max : MethodName := ⟨"java/lang/Math", "max", "(II)I"⟩
abbrev b_ASu_hugeLength : ByteArray := prog_31_method_28_code
def y_ASu_hugeLength : MethodName := ⟨"jdk/internal/util/ArraysSupport", "hugeLength", "(II)I"⟩
abbrev b_Ars_copyOf : ByteArray := prog_25_method_119_code
def y_Ars_copyOf : MethodName := ⟨"java/util/Arrays", "copyOf", "([Ljava/lang/Object;I)[Ljava/lang/Object;"⟩
abbrev b_Ars_copyOf2 : ByteArray := prog_25_method_120_code
def y_Ars_copyOf2 : MethodName := ⟨"java/util/Arrays", "copyOf", "([Ljava/lang/Object;ILjava/lang/Class;)[Ljava/lang/Object;"⟩
abbrev b_Ma_min : ByteArray := prog_17_method_69_code
def y_Ma_min : MethodName := ⟨"java/lang/Math", "min", "(II)I"⟩
abbrev b_Rd_takeType : ByteArray := prog_7_method_9_code
def y_Rd_takeType : MethodName := ⟨"BaselineText$Reader", "takeType", "()I"⟩
abbrev b_Bl_named : ByteArray := prog_2_method_3_code
def y_Bl_named : MethodName := ⟨"BaselineText$Baseline", "named", "(LBaselineText$Row;)LBaselineText$Type;"⟩
abbrev b_Sf_count : ByteArray := prog_9_method_2_code
def y_Sf_count : MethodName := ⟨"BaselineText$Shelf", "count", "()I"⟩
abbrev b_Bl_addType : ByteArray := prog_2_method_4_code
def y_Bl_addType : MethodName := ⟨"BaselineText$Baseline", "addType", "(LBaselineText$Declaration;)LBaselineText$Type;"⟩
abbrev b_Tp_init : ByteArray := prog_10_method_1_code
def y_Tp_init : MethodName := ⟨"BaselineText$Type", "<init>", "()V"⟩
abbrev b_Dg_count : ByteArray := prog_4_method_2_code
def y_Dg_count : MethodName := ⟨"BaselineText$Diagnostics", "count", "()I"⟩
abbrev b_B_write : ByteArray := prog_1_method_5_code
def y_B_write : MethodName := ⟨"BaselineText", "write", "(I)I"⟩
abbrev b_Bl_addForm : ByteArray := prog_2_method_5_code
def y_Bl_addForm : MethodName := ⟨"BaselineText$Baseline", "addForm", "(LBaselineText$Row;)V"⟩
abbrev b_Rw_addWord : ByteArray := prog_8_method_7_code
def y_Rw_addWord : MethodName := ⟨"BaselineText$Row", "addWord", "(Ljava/lang/String;)V"⟩
abbrev b_Dc_addLine : ByteArray := prog_3_method_6_code
def y_Dc_addLine : MethodName := ⟨"BaselineText$Declaration", "addLine", "(LBaselineText$Row;ZI)V"⟩
abbrev b_Rw_addName : ByteArray := prog_8_method_8_code
def y_Rw_addName : MethodName := ⟨"BaselineText$Row", "addName", "(LBaselineText$Row;I)V"⟩
abbrev b_Bl_addMemberLines : ByteArray := prog_2_method_6_code
def y_Bl_addMemberLines : MethodName := ⟨"BaselineText$Baseline", "addMemberLines", "(LBaselineText$Row;LBaselineText$Shelf;)V"⟩
abbrev b_B_format : ByteArray := prog_1_method_6_code
def y_B_format : MethodName := ⟨"BaselineText", "format", "(II)I"⟩
abbrev b_B_text : ByteArray := prog_1_method_7_code
def y_B_text : MethodName := ⟨"BaselineText", "text", "(I)I"⟩
abbrev b_B_diagnostic : ByteArray := prog_1_method_8_code
def y_B_diagnostic : MethodName := ⟨"BaselineText", "diagnostic", "(II)I"⟩
abbrev b_Dg_kept : ByteArray := prog_4_method_3_code
def y_Dg_kept : MethodName := ⟨"BaselineText$Diagnostics", "kept", "()I"⟩
abbrev b_B_types : ByteArray := prog_1_method_9_code
def y_B_types : MethodName := ⟨"BaselineText", "types", "(I)I"⟩
abbrev b_B_about : ByteArray := prog_1_method_10_code
def y_B_about : MethodName := ⟨"BaselineText", "about", "(III)I"⟩
abbrev b_B_typeAt : ByteArray := prog_1_method_19_code
def y_B_typeAt : MethodName := ⟨"BaselineText", "typeAt", "(II)LBaselineText$Type;"⟩
abbrev b_B_member : ByteArray := prog_1_method_11_code
def y_B_member : MethodName := ⟨"BaselineText", "member", "(IIII)I"⟩
abbrev b_B_memberAt : ByteArray := prog_1_method_20_code
def y_B_memberAt : MethodName := ⟨"BaselineText", "memberAt", "(III)LBaselineText$Declaration;"⟩
abbrev b_B_character : ByteArray := prog_1_method_12_code
def y_B_character : MethodName := ⟨"BaselineText", "character", "(IIIII)I"⟩
abbrev b_B_differ : ByteArray := prog_1_method_13_code
def y_B_differ : MethodName := ⟨"BaselineText", "differ", "()I"⟩
abbrev b_Bl_firstDifference : ByteArray := prog_2_method_7_code
def y_Bl_firstDifference : MethodName := ⟨"BaselineText$Baseline", "firstDifference", "(LBaselineText$Baseline;)I"⟩
abbrev b_Dc_isSame : ByteArray := prog_3_method_4_code
def y_Dc_isSame : MethodName := ⟨"BaselineText$Declaration", "isSame", "(LBaselineText$Declaration;)Z"⟩
abbrev b_Bl_sameMembers : ByteArray := prog_2_method_8_code
def y_Bl_sameMembers : MethodName := ⟨"BaselineText$Baseline", "sameMembers", "(LBaselineText$Shelf;LBaselineText$Shelf;)I"⟩
abbrev b_B_lost : ByteArray := prog_1_method_14_code
def y_B_lost : MethodName := ⟨"BaselineText", "lost", "(I)I"⟩
abbrev b_Bl_linesMissingIn : ByteArray := prog_2_method_9_code
def y_Bl_linesMissingIn : MethodName := ⟨"BaselineText$Baseline", "linesMissingIn", "(LBaselineText$Baseline;)I"⟩
abbrev b_Bl_isSameLine : ByteArray := prog_2_method_11_code
def y_Bl_isSameLine : MethodName := ⟨"BaselineText$Baseline", "isSameLine", "(LBaselineText$Declaration;LBaselineText$Declaration;Z)Z"⟩
abbrev b_Dc_isFormatFree : ByteArray := prog_3_method_5_code
def y_Dc_isFormatFree : MethodName := ⟨"BaselineText$Declaration", "isFormatFree", "()Z"⟩
abbrev b_Rw_contains : ByteArray := prog_8_method_10_code
def y_Rw_contains : MethodName := ⟨"BaselineText$Row", "contains", "(C)Z"⟩
abbrev b_Bl_membersMissingIn : ByteArray := prog_2_method_10_code
def y_Bl_membersMissingIn : MethodName := ⟨"BaselineText$Baseline", "membersMissingIn", "(LBaselineText$Type;LBaselineText$Shelf;Z)I"⟩
abbrev b_B_swap : ByteArray := prog_1_method_15_code
def y_B_swap : MethodName := ⟨"BaselineText", "swap", "()V"⟩
abbrev b_Mo_init : ByteArray := prog_13_method_1_code
def y_Mo_init : MethodName := ⟨"BaselineTextModel", "<init>", "()V"⟩
abbrev b_Mo_type : ByteArray := prog_13_method_2_code
def y_Mo_type : MethodName := ⟨"BaselineTextModel", "type", "(JI)I"⟩
abbrev b_Mo_clear : ByteArray := prog_13_method_3_code
def y_Mo_clear : MethodName := ⟨"BaselineTextModel", "clear", "()I"⟩
abbrev b_Mo_read : ByteArray := prog_13_method_25_code
def y_Mo_read : MethodName := ⟨"BaselineTextModel", "read", "(I)I"⟩
abbrev b_Mo_none : ByteArray := prog_13_method_4_code
def y_Mo_none : MethodName := ⟨"BaselineTextModel", "none", "(I)Z"⟩
abbrev b_Mo_side : ByteArray := prog_13_method_5_code
def y_Mo_side : MethodName := ⟨"BaselineTextModel", "side", "(I)I"⟩
abbrev b_Mo_next : ByteArray := prog_13_method_6_code
def y_Mo_next : MethodName := ⟨"BaselineTextModel", "next", "()Z"⟩
abbrev b_Mo_first : ByteArray := prog_13_method_24_code
def y_Mo_first : MethodName := ⟨"BaselineTextModel", "first", "(II)I"⟩
abbrev b_Mo_word : ByteArray := prog_13_method_7_code
def y_Mo_word : MethodName := ⟨"BaselineTextModel", "word", "()J"⟩
abbrev b_Mo_tell : ByteArray := prog_13_method_16_code
def y_Mo_tell : MethodName := ⟨"BaselineTextModel", "tell", "(III)V"⟩
abbrev b_Mo_body : ByteArray := prog_13_method_26_code
def y_Mo_body : MethodName := ⟨"BaselineTextModel", "body", "(III)I"⟩
abbrev b_Mo_memberLine : ByteArray := prog_13_method_23_code
def y_Mo_memberLine : MethodName := ⟨"BaselineTextModel", "memberLine", "(II)V"⟩
abbrev b_Mo_words : ByteArray := prog_13_method_18_code
def y_Mo_words : MethodName := ⟨"BaselineTextModel", "words", "(ZI)Z"⟩
abbrev b_Mo_mark : ByteArray := prog_13_method_8_code
def y_Mo_mark : MethodName := ⟨"BaselineTextModel", "mark", "(ZJ)I"⟩
abbrev b_Mo_fail : ByteArray := prog_13_method_17_code
def y_Mo_fail : MethodName := ⟨"BaselineTextModel", "fail", "(I)Z"⟩
abbrev b_Mo_kindOf : ByteArray := prog_13_method_9_code
def y_Mo_kindOf : MethodName := ⟨"BaselineTextModel", "kindOf", "(ZJ)I"⟩
abbrev b_Mo_take : ByteArray := prog_13_method_10_code
def y_Mo_take : MethodName := ⟨"BaselineTextModel", "take", "()Z"⟩
abbrev b_Mo_dotted : ByteArray := prog_13_method_12_code
def y_Mo_dotted : MethodName := ⟨"BaselineTextModel", "dotted", "(III)Z"⟩
abbrev b_Mo_begins : ByteArray := prog_13_method_11_code
def y_Mo_begins : MethodName := ⟨"BaselineTextModel", "begins", "(I)Z"⟩
abbrev b_Mo_init2 : ByteArray := prog_13_method_13_code
def y_Mo_init2 : MethodName := ⟨"BaselineTextModel", "init", "()Z"⟩
abbrev b_Mo_method : ByteArray := prog_13_method_15_code
def y_Mo_method : MethodName := ⟨"BaselineTextModel", "method", "()Z"⟩
abbrev b_Mo_field : ByteArray := prog_13_method_14_code
def y_Mo_field : MethodName := ⟨"BaselineTextModel", "field", "(I)I"⟩
abbrev b_Mo_compareMembers : ByteArray := prog_13_method_20_code
def y_Mo_compareMembers : MethodName := ⟨"BaselineTextModel", "compareMembers", "(II)I"⟩
abbrev b_Mo_compareNames : ByteArray := prog_13_method_19_code
def y_Mo_compareNames : MethodName := ⟨"BaselineTextModel", "compareNames", "(II)I"⟩
abbrev b_Mo_move : ByteArray := prog_13_method_21_code
def y_Mo_move : MethodName := ⟨"BaselineTextModel", "move", "(II)V"⟩
abbrev b_Mo_typeLine : ByteArray := prog_13_method_22_code
def y_Mo_typeLine : MethodName := ⟨"BaselineTextModel", "typeLine", "(I)I"⟩
abbrev b_Mo_diagnostic : ByteArray := prog_13_method_27_code
def y_Mo_diagnostic : MethodName := ⟨"BaselineTextModel", "diagnostic", "(II)I"⟩
abbrev b_Mo_write : ByteArray := prog_13_method_38_code
def y_Mo_write : MethodName := ⟨"BaselineTextModel", "write", "(I)I"⟩
abbrev b_Mo_lineOf : ByteArray := prog_13_method_37_code
def y_Mo_lineOf : MethodName := ⟨"BaselineTextModel", "lineOf", "(II)Z"⟩
abbrev b_Mo_say : ByteArray := prog_13_method_32_code
def y_Mo_say : MethodName := ⟨"BaselineTextModel", "say", "(J)V"⟩
abbrev b_Mo_put : ByteArray := prog_13_method_31_code
def y_Mo_put : MethodName := ⟨"BaselineTextModel", "put", "(I)V"⟩
abbrev b_Mo_typeRow : ByteArray := prog_13_method_28_code
def y_Mo_typeRow : MethodName := ⟨"BaselineTextModel", "typeRow", "(II)I"⟩
abbrev b_Mo_count : ByteArray := prog_13_method_29_code
def y_Mo_count : MethodName := ⟨"BaselineTextModel", "count", "(I)I"⟩
abbrev b_Mo_memberRow : ByteArray := prog_13_method_30_code
def y_Mo_memberRow : MethodName := ⟨"BaselineTextModel", "memberRow", "(II)I"⟩
abbrev b_Mo_rowLine : ByteArray := prog_13_method_36_code
def y_Mo_rowLine : MethodName := ⟨"BaselineTextModel", "rowLine", "(II)V"⟩
abbrev b_Mo_markWord : ByteArray := prog_13_method_34_code
def y_Mo_markWord : MethodName := ⟨"BaselineTextModel", "markWord", "(ZI)J"⟩
abbrev b_Mo_kindWord : ByteArray := prog_13_method_35_code
def y_Mo_kindWord : MethodName := ⟨"BaselineTextModel", "kindWord", "(ZI)J"⟩
abbrev b_Mo_copyText : ByteArray := prog_13_method_33_code
def y_Mo_copyText : MethodName := ⟨"BaselineTextModel", "copyText", "(ZII)V"⟩
abbrev b_Mo_format : ByteArray := prog_13_method_39_code
def y_Mo_format : MethodName := ⟨"BaselineTextModel", "format", "(II)I"⟩
abbrev b_Mo_text : ByteArray := prog_13_method_40_code
def y_Mo_text : MethodName := ⟨"BaselineTextModel", "text", "(I)I"⟩
abbrev b_Mo_types : ByteArray := prog_13_method_41_code
def y_Mo_types : MethodName := ⟨"BaselineTextModel", "types", "(I)I"⟩
abbrev b_Mo_about : ByteArray := prog_13_method_42_code
def y_Mo_about : MethodName := ⟨"BaselineTextModel", "about", "(III)I"⟩
abbrev b_Mo_member : ByteArray := prog_13_method_44_code
def y_Mo_member : MethodName := ⟨"BaselineTextModel", "member", "(IIII)I"⟩
abbrev b_Mo_memberAt : ByteArray := prog_13_method_43_code
def y_Mo_memberAt : MethodName := ⟨"BaselineTextModel", "memberAt", "(III)I"⟩
abbrev b_Mo_character : ByteArray := prog_13_method_45_code
def y_Mo_character : MethodName := ⟨"BaselineTextModel", "character", "(IIIII)I"⟩
abbrev b_Mo_differ : ByteArray := prog_13_method_47_code
def y_Mo_differ : MethodName := ⟨"BaselineTextModel", "differ", "()I"⟩
abbrev b_Mo_keep : ByteArray := prog_13_method_46_code
def y_Mo_keep : MethodName := ⟨"BaselineTextModel", "keep", "(II)Z"⟩
abbrev b_Mo_lost : ByteArray := prog_13_method_51_code
def y_Mo_lost : MethodName := ⟨"BaselineTextModel", "lost", "(I)I"⟩
abbrev b_Mo_alike : ByteArray := prog_13_method_49_code
def y_Mo_alike : MethodName := ⟨"BaselineTextModel", "alike", "(II)Z"⟩
abbrev b_Mo_dollar : ByteArray := prog_13_method_48_code
def y_Mo_dollar : MethodName := ⟨"BaselineTextModel", "dollar", "(I)Z"⟩
abbrev b_Mo_lostOf : ByteArray := prog_13_method_50_code
def y_Mo_lostOf : MethodName := ⟨"BaselineTextModel", "lostOf", "(II)I"⟩
abbrev b_Mo_swap : ByteArray := prog_13_method_52_code
def y_Mo_swap : MethodName := ⟨"BaselineTextModel", "swap", "()V"⟩
/-- the words that stay as they are when entries are resolved -/
def tg : List Cond := lw_tbl.filter goodWord
theorem tg_of {w : Cond} (h : w ∈ lw_tbl) (hg : goodWord w = true) : w ∈ tg := List.mem_filter.mpr ⟨h, hg⟩
theorem tg_lw {w : Cond} (h : w ∈ tg) : w ∈ lw_tbl := (List.mem_filter.mp h).1
theorem tg_good {w : Cond} (h : w ∈ tg) : goodWord w = true := (List.mem_filter.mp h).2
theorem tw_0 : Jvm.Cond.initialized "BaselineTextLaw" ∈ tg := tg_of (List.mem_append_right _ (List.mem_append_left _ (List.mem_of_getElem? (i := 0) rfl))) rfl
theorem tw_1 : Jvm.Cond.initialized "BaselineText" ∈ tg := tg_of (List.mem_append_right _ (List.mem_append_left _ (List.mem_of_getElem? (i := 1) rfl))) rfl
theorem tw_2 : Jvm.Cond.initialized "BaselineText$Row" ∈ tg := tg_of (List.mem_append_right _ (List.mem_append_left _ (List.mem_of_getElem? (i := 2) rfl))) rfl
theorem tw_3 : Jvm.Cond.initialized "BaselineText$Diagnostics" ∈ tg := tg_of (List.mem_append_right _ (List.mem_append_left _ (List.mem_of_getElem? (i := 3) rfl))) rfl
theorem tw_4 : Jvm.Cond.initialized "BaselineText$Baseline" ∈ tg := tg_of (List.mem_append_right _ (List.mem_append_left _ (List.mem_of_getElem? (i := 4) rfl))) rfl
theorem tw_5 : Jvm.Cond.initialized "BaselineText$Shelf" ∈ tg := tg_of (List.mem_append_right _ (List.mem_append_left _ (List.mem_of_getElem? (i := 5) rfl))) rfl
theorem tw_6 : Jvm.Cond.initialized "java/util/AbstractCollection" ∈ tg := tg_of (List.mem_append_right _ (List.mem_append_left _ (List.mem_of_getElem? (i := 6) rfl))) rfl
theorem tw_7 : Jvm.Cond.initialized "java/util/AbstractList" ∈ tg := tg_of (List.mem_append_right _ (List.mem_append_left _ (List.mem_of_getElem? (i := 7) rfl))) rfl
theorem tw_8 : Jvm.Cond.initialized "java/util/ArrayList" ∈ tg := tg_of (List.mem_append_right _ (List.mem_append_left _ (List.mem_of_getElem? (i := 8) rfl))) rfl
theorem tw_9 : Jvm.Cond.initialized "BaselineTextModel" ∈ tg := tg_of (List.mem_append_right _ (List.mem_append_left _ (List.mem_of_getElem? (i := 9) rfl))) rfl
theorem tw_10 : Jvm.Cond.initialized "BaselineText$Reader" ∈ tg := tg_of (List.mem_append_right _ (List.mem_append_left _ (List.mem_of_getElem? (i := 10) rfl))) rfl
theorem tw_11 : Jvm.Cond.initialized "BaselineText$Declaration" ∈ tg := tg_of (List.mem_append_right _ (List.mem_append_left _ (List.mem_of_getElem? (i := 11) rfl))) rfl
theorem tw_12 : Jvm.Cond.initialized "BaselineText$Line" ∈ tg := tg_of (List.mem_append_right _ (List.mem_append_left _ (List.mem_of_getElem? (i := 12) rfl))) rfl
theorem tw_13 : Jvm.Cond.initialized "java/lang/String" ∈ tg := tg_of (List.mem_append_right _ (List.mem_append_left _ (List.mem_of_getElem? (i := 13) rfl))) rfl
theorem tw_14 : Jvm.Cond.initialized "java/lang/StringLatin1" ∈ tg := tg_of (List.mem_append_right _ (List.mem_append_left _ (List.mem_of_getElem? (i := 14) rfl))) rfl
theorem tw_15 : Jvm.Cond.initialized "jdk/internal/util/Preconditions" ∈ tg := tg_of (List.mem_append_right _ (List.mem_append_left _ (List.mem_of_getElem? (i := 15) rfl))) rfl
theorem tw_16 : Jvm.Cond.initialized "java/lang/StringUTF16" ∈ tg := tg_of (List.mem_append_right _ (List.mem_append_left _ (List.mem_of_getElem? (i := 16) rfl))) rfl
theorem tw_17 : Jvm.Cond.initialized "BaselineText$Vocabulary" ∈ tg := tg_of (List.mem_append_right _ (List.mem_append_left _ (List.mem_of_getElem? (i := 17) rfl))) rfl
theorem tw_18 : Jvm.Cond.initialized "BaselineText$Grammar" ∈ tg := tg_of (List.mem_append_right _ (List.mem_append_left _ (List.mem_of_getElem? (i := 18) rfl))) rfl
theorem tw_19 : Jvm.Cond.initialized "java/util/Objects" ∈ tg := tg_of (List.mem_append_right _ (List.mem_append_left _ (List.mem_of_getElem? (i := 19) rfl))) rfl
theorem tw_20 : Jvm.Cond.initialized "java/lang/System" ∈ tg := tg_of (List.mem_append_right _ (List.mem_append_left _ (List.mem_of_getElem? (i := 20) rfl))) rfl
theorem tw_21 : Jvm.Cond.initialized "jdk/internal/util/ArraysSupport" ∈ tg := tg_of (List.mem_append_right _ (List.mem_append_left _ (List.mem_of_getElem? (i := 21) rfl))) rfl
theorem tw_22 : Jvm.Cond.initialized "java/lang/Math" ∈ tg := tg_of (List.mem_append_right _ (List.mem_append_left _ (List.mem_of_getElem? (i := 22) rfl))) rfl
theorem tw_23 : Jvm.Cond.initialized "java/util/Arrays" ∈ tg := tg_of (List.mem_append_right _ (List.mem_append_left _ (List.mem_of_getElem? (i := 23) rfl))) rfl
theorem tw_24 : Jvm.Cond.initialized "BaselineText$Type" ∈ tg := tg_of (List.mem_append_right _ (List.mem_append_left _ (List.mem_of_getElem? (i := 24) rfl))) rfl
theorem tw_25 : Jvm.Cond.classLink "BaselineTextLaw" (7 : Nat) "BaselineText" ∈ tg := tg_of (List.mem_append_right _ (List.mem_append_left _ (List.mem_of_getElem? (i := 25) rfl))) rfl
theorem tw_26 : Jvm.Cond.instantiable "BaselineText" (5 : Nat) ∈ tg := tg_of (List.mem_append_right _ (List.mem_append_left _ (List.mem_of_getElem? (i := 26) rfl))) rfl
theorem tw_27 : Jvm.Cond.methodLink "BaselineTextLaw" (9 : Nat) ({ cls := "BaselineText", name := "<init>", desc := "()V" } : Jvm.MethodName) ∈ tg := tg_of (List.mem_append_right _ (List.mem_append_left _ (List.mem_of_getElem? (i := 27) rfl))) rfl
theorem tw_28 : Jvm.Cond.instanceMethod ({ cls := "BaselineText", name := "<init>", desc := "()V" } : Jvm.MethodName) ∈ tg := tg_of (List.mem_append_right _ (List.mem_append_left _ (List.mem_of_getElem? (i := 28) rfl))) rfl
theorem tw_29 : Jvm.Cond.code ({ cls := "BaselineText", name := "<init>", desc := "()V" } : Jvm.MethodName) prog_1_method_1_code (1 : Nat) (Option.none : Option Jvm.ClassFile.FieldType) ∈ tg := tg_of (List.mem_append_right _ (List.mem_append_left _ (List.mem_of_getElem? (i := 29) rfl))) rfl
theorem tw_30 : Jvm.Cond.methodLink "BaselineText" (1 : Nat) ({ cls := "java/lang/Object", name := "<init>", desc := "()V" } : Jvm.MethodName) ∈ tg := tg_of (List.mem_append_right _ (List.mem_append_left _ (List.mem_of_getElem? (i := 30) rfl))) rfl
theorem tw_31 : Jvm.Cond.instanceMethod ({ cls := "java/lang/Object", name := "<init>", desc := "()V" } : Jvm.MethodName) ∈ tg := tg_of (List.mem_append_right _ (List.mem_append_left _ (List.mem_of_getElem? (i := 31) rfl))) rfl
theorem tw_32 : Jvm.Cond.code ({ cls := "java/lang/Object", name := "<init>", desc := "()V" } : Jvm.MethodName) object_method_1_code (1 : Nat) (Option.none : Option Jvm.ClassFile.FieldType) ∈ tg := tg_of (List.mem_append_right _ (List.mem_append_left _ (List.mem_of_getElem? (i := 32) rfl))) rfl
theorem tw_33 : Jvm.Cond.classLink "BaselineText" (7 : Nat) "BaselineText$Row" ∈ tg := tg_of (List.mem_append_right _ (List.mem_append_left _ (List.mem_of_getElem? (i := 33) rfl))) rfl
theorem tw_34 : Jvm.Cond.instantiable "BaselineText$Row" (3 : Nat) ∈ tg := tg_of (List.mem_append_right _ (List.mem_append_left _ (List.mem_of_getElem? (i := 34) rfl))) rfl
theorem tw_35 : Jvm.Cond.methodLink "BaselineText" (11 : Nat) ({ cls := "BaselineText$Row", name := "<init>", desc := "(I)V" } : Jvm.MethodName) ∈ tg := tg_of (List.mem_append_right _ (List.mem_append_left _ (List.mem_of_getElem? (i := 35) rfl))) rfl
theorem tw_36 : Jvm.Cond.instanceMethod ({ cls := "BaselineText$Row", name := "<init>", desc := "(I)V" } : Jvm.MethodName) ∈ tg := tg_of (List.mem_append_right _ (List.mem_append_left _ (List.mem_of_getElem? (i := 36) rfl))) rfl
theorem tw_37 : Jvm.Cond.code ({ cls := "BaselineText$Row", name := "<init>", desc := "(I)V" } : Jvm.MethodName) prog_8_method_1_code (2 : Nat) (Option.none : Option Jvm.ClassFile.FieldType) ∈ tg := tg_of (List.mem_append_right _ (List.mem_append_left _ (List.mem_of_getElem? (i := 37) rfl))) rfl
theorem tw_38 : Jvm.Cond.methodLink "BaselineText$Row" (3 : Nat) ({ cls := "java/lang/Object", name := "<init>", desc := "()V" } : Jvm.MethodName) ∈ tg := tg_of (List.mem_append_right _ (List.mem_append_left _ (List.mem_of_getElem? (i := 38) rfl))) rfl
theorem tw_39 : Jvm.Cond.fieldLink "BaselineText$Row" (9 : Nat) "BaselineText$Row" "letters" "[C" ∈ tg := tg_of (List.mem_append_right _ (List.mem_append_left _ (List.mem_of_getElem? (i := 39) rfl))) rfl
theorem tw_40 : Jvm.Cond.fieldLink "BaselineText$Row" (15 : Nat) "BaselineText$Row" "length" "I" ∈ tg := tg_of (List.mem_append_right _ (List.mem_append_left _ (List.mem_of_getElem? (i := 40) rfl))) rfl
theorem tw_41 : Jvm.Cond.fieldLink "BaselineText$Row" (19 : Nat) "BaselineText$Row" "overflowed" "Z" ∈ tg := tg_of (List.mem_append_right _ (List.mem_append_left _ (List.mem_of_getElem? (i := 41) rfl))) rfl
theorem tw_42 : Jvm.Cond.laysFinal "BaselineText$Row" "BaselineText$Row" "letters" "[C" ∈ tg := tg_of (List.mem_append_right _ (List.mem_append_left _ (List.mem_of_getElem? (i := 42) rfl))) rfl
theorem tw_43 : Jvm.Cond.soleField "BaselineText$Row" "letters" ∈ tg := tg_of (List.mem_append_right _ (List.mem_append_left _ (List.mem_of_getElem? (i := 43) rfl))) rfl
theorem tw_44 : Jvm.Cond.lays "BaselineText$Row" "BaselineText$Row" "length" "I" ∈ tg := tg_of (List.mem_append_right _ (List.mem_append_left _ (List.mem_of_getElem? (i := 44) rfl))) rfl
theorem tw_45 : Jvm.Cond.soleField "BaselineText$Row" "length" ∈ tg := tg_of (List.mem_append_right _ (List.mem_append_left _ (List.mem_of_getElem? (i := 45) rfl))) rfl
theorem tw_46 : Jvm.Cond.lays "BaselineText$Row" "BaselineText$Row" "overflowed" "Z" ∈ tg := tg_of (List.mem_append_right _ (List.mem_append_left _ (List.mem_of_getElem? (i := 46) rfl))) rfl
theorem tw_47 : Jvm.Cond.soleField "BaselineText$Row" "overflowed" ∈ tg := tg_of (List.mem_append_right _ (List.mem_append_left _ (List.mem_of_getElem? (i := 47) rfl))) rfl
theorem tw_48 : Jvm.Cond.superclass "BaselineText$Row" "java/lang/Object" ∈ tg := tg_of (List.mem_append_right _ (List.mem_append_left _ (List.mem_of_getElem? (i := 48) rfl))) rfl
theorem tw_49 : Jvm.Cond.arrayClass Jvm.ClassFile.FieldType.char ∈ tg := tg_of (List.mem_append_right _ (List.mem_append_left _ (List.mem_of_getElem? (i := 49) rfl))) rfl
theorem tw_50 : Jvm.Cond.classLink "BaselineText" (21 : Nat) "BaselineText$Diagnostics" ∈ tg := tg_of (List.mem_append_right _ (List.mem_append_left _ (List.mem_of_getElem? (i := 50) rfl))) rfl
theorem tw_51 : Jvm.Cond.instantiable "BaselineText$Diagnostics" (4 : Nat) ∈ tg := tg_of (List.mem_append_right _ (List.mem_append_left _ (List.mem_of_getElem? (i := 51) rfl))) rfl
theorem tz_52 : Jvm.Cond.methodLinkNest "BaselineText" (23 : Nat) ({ cls := "BaselineText$Diagnostics", name := "<init>", desc := "()V" } : Jvm.MethodName) "BaselineText" ∈ lw_tbl := List.mem_append_right _ (List.mem_append_left _ (List.mem_of_getElem? (i := 52) rfl))
theorem tw_53 : Jvm.Cond.instanceMethod ({ cls := "BaselineText$Diagnostics", name := "<init>", desc := "()V" } : Jvm.MethodName) ∈ tg := tg_of (List.mem_append_right _ (List.mem_append_left _ (List.mem_of_getElem? (i := 53) rfl))) rfl
theorem tw_54 : Jvm.Cond.code ({ cls := "BaselineText$Diagnostics", name := "<init>", desc := "()V" } : Jvm.MethodName) prog_4_method_1_code (1 : Nat) (Option.none : Option Jvm.ClassFile.FieldType) ∈ tg := tg_of (List.mem_append_right _ (List.mem_append_left _ (List.mem_of_getElem? (i := 54) rfl))) rfl
theorem tw_55 : Jvm.Cond.methodLink "BaselineText$Diagnostics" (3 : Nat) ({ cls := "java/lang/Object", name := "<init>", desc := "()V" } : Jvm.MethodName) ∈ tg := tg_of (List.mem_append_right _ (List.mem_append_left _ (List.mem_of_getElem? (i := 55) rfl))) rfl
theorem tw_56 : Jvm.Cond.fieldLink "BaselineText$Diagnostics" (9 : Nat) "BaselineText$Diagnostics" "numbers" "[I" ∈ tg := tg_of (List.mem_append_right _ (List.mem_append_left _ (List.mem_of_getElem? (i := 56) rfl))) rfl
theorem tw_57 : Jvm.Cond.fieldLink "BaselineText" (96 : Nat) "BaselineText$Diagnostics" "numbers" "[I" ∈ tg := tg_of (List.mem_append_right _ (List.mem_append_left _ (List.mem_of_getElem? (i := 57) rfl))) rfl
theorem tw_58 : Jvm.Cond.fieldLink "BaselineText$Diagnostics" (15 : Nat) "BaselineText$Diagnostics" "lines" "[I" ∈ tg := tg_of (List.mem_append_right _ (List.mem_append_left _ (List.mem_of_getElem? (i := 58) rfl))) rfl
theorem tw_59 : Jvm.Cond.fieldLink "BaselineText" (100 : Nat) "BaselineText$Diagnostics" "lines" "[I" ∈ tg := tg_of (List.mem_append_right _ (List.mem_append_left _ (List.mem_of_getElem? (i := 59) rfl))) rfl
theorem tw_60 : Jvm.Cond.fieldLink "BaselineText$Diagnostics" (18 : Nat) "BaselineText$Diagnostics" "places" "[I" ∈ tg := tg_of (List.mem_append_right _ (List.mem_append_left _ (List.mem_of_getElem? (i := 60) rfl))) rfl
theorem tw_61 : Jvm.Cond.fieldLink "BaselineText" (103 : Nat) "BaselineText$Diagnostics" "places" "[I" ∈ tg := tg_of (List.mem_append_right _ (List.mem_append_left _ (List.mem_of_getElem? (i := 61) rfl))) rfl
theorem tw_62 : Jvm.Cond.fieldLink "BaselineText$Diagnostics" (21 : Nat) "BaselineText$Diagnostics" "count" "I" ∈ tg := tg_of (List.mem_append_right _ (List.mem_append_left _ (List.mem_of_getElem? (i := 62) rfl))) rfl
theorem tw_63 : Jvm.Cond.laysFinal "BaselineText$Diagnostics" "BaselineText$Diagnostics" "numbers" "[I" ∈ tg := tg_of (List.mem_append_right _ (List.mem_append_left _ (List.mem_of_getElem? (i := 63) rfl))) rfl
theorem tw_64 : Jvm.Cond.soleField "BaselineText$Diagnostics" "numbers" ∈ tg := tg_of (List.mem_append_right _ (List.mem_append_left _ (List.mem_of_getElem? (i := 64) rfl))) rfl
theorem tw_65 : Jvm.Cond.laysFinal "BaselineText$Diagnostics" "BaselineText$Diagnostics" "lines" "[I" ∈ tg := tg_of (List.mem_append_right _ (List.mem_append_left _ (List.mem_of_getElem? (i := 65) rfl))) rfl
theorem tw_66 : Jvm.Cond.soleField "BaselineText$Diagnostics" "lines" ∈ tg := tg_of (List.mem_append_right _ (List.mem_append_left _ (List.mem_of_getElem? (i := 66) rfl))) rfl
theorem tw_67 : Jvm.Cond.laysFinal "BaselineText$Diagnostics" "BaselineText$Diagnostics" "places" "[I" ∈ tg := tg_of (List.mem_append_right _ (List.mem_append_left _ (List.mem_of_getElem? (i := 67) rfl))) rfl
theorem tw_68 : Jvm.Cond.soleField "BaselineText$Diagnostics" "places" ∈ tg := tg_of (List.mem_append_right _ (List.mem_append_left _ (List.mem_of_getElem? (i := 68) rfl))) rfl
theorem tw_69 : Jvm.Cond.lays "BaselineText$Diagnostics" "BaselineText$Diagnostics" "count" "I" ∈ tg := tg_of (List.mem_append_right _ (List.mem_append_left _ (List.mem_of_getElem? (i := 69) rfl))) rfl
theorem tw_70 : Jvm.Cond.soleField "BaselineText$Diagnostics" "count" ∈ tg := tg_of (List.mem_append_right _ (List.mem_append_left _ (List.mem_of_getElem? (i := 70) rfl))) rfl
theorem tw_71 : Jvm.Cond.superclass "BaselineText$Diagnostics" "java/lang/Object" ∈ tg := tg_of (List.mem_append_right _ (List.mem_append_left _ (List.mem_of_getElem? (i := 71) rfl))) rfl
theorem tw_72 : Jvm.Cond.arrayClass Jvm.ClassFile.FieldType.int ∈ tg := tg_of (List.mem_append_right _ (List.mem_append_left _ (List.mem_of_getElem? (i := 72) rfl))) rfl
theorem tw_73 : Jvm.Cond.classLink "BaselineText" (28 : Nat) "BaselineText$Baseline" ∈ tg := tg_of (List.mem_append_right _ (List.mem_append_left _ (List.mem_of_getElem? (i := 73) rfl))) rfl
theorem tw_74 : Jvm.Cond.instantiable "BaselineText$Baseline" (2 : Nat) ∈ tg := tg_of (List.mem_append_right _ (List.mem_append_left _ (List.mem_of_getElem? (i := 74) rfl))) rfl
theorem tz_75 : Jvm.Cond.methodLinkNest "BaselineText" (30 : Nat) ({ cls := "BaselineText$Baseline", name := "<init>", desc := "()V" } : Jvm.MethodName) "BaselineText" ∈ lw_tbl := List.mem_append_right _ (List.mem_append_left _ (List.mem_of_getElem? (i := 75) rfl))
theorem tw_76 : Jvm.Cond.instanceMethod ({ cls := "BaselineText$Baseline", name := "<init>", desc := "()V" } : Jvm.MethodName) ∈ tg := tg_of (List.mem_append_right _ (List.mem_append_left _ (List.mem_of_getElem? (i := 76) rfl))) rfl
theorem tw_77 : Jvm.Cond.code ({ cls := "BaselineText$Baseline", name := "<init>", desc := "()V" } : Jvm.MethodName) prog_2_method_1_code (1 : Nat) (Option.none : Option Jvm.ClassFile.FieldType) ∈ tg := tg_of (List.mem_append_right _ (List.mem_append_left _ (List.mem_of_getElem? (i := 77) rfl))) rfl
theorem tw_78 : Jvm.Cond.methodLink "BaselineText$Baseline" (3 : Nat) ({ cls := "java/lang/Object", name := "<init>", desc := "()V" } : Jvm.MethodName) ∈ tg := tg_of (List.mem_append_right _ (List.mem_append_left _ (List.mem_of_getElem? (i := 78) rfl))) rfl
theorem tw_79 : Jvm.Cond.classLink "BaselineText$Baseline" (9 : Nat) "BaselineText$Shelf" ∈ tg := tg_of (List.mem_append_right _ (List.mem_append_left _ (List.mem_of_getElem? (i := 79) rfl))) rfl
theorem tw_80 : Jvm.Cond.instantiable "BaselineText$Shelf" (3 : Nat) ∈ tg := tg_of (List.mem_append_right _ (List.mem_append_left _ (List.mem_of_getElem? (i := 80) rfl))) rfl
theorem tw_81 : Jvm.Cond.methodLink "BaselineText$Baseline" (11 : Nat) ({ cls := "BaselineText$Shelf", name := "<init>", desc := "(I)V" } : Jvm.MethodName) ∈ tg := tg_of (List.mem_append_right _ (List.mem_append_left _ (List.mem_of_getElem? (i := 81) rfl))) rfl
theorem tw_82 : Jvm.Cond.instanceMethod ({ cls := "BaselineText$Shelf", name := "<init>", desc := "(I)V" } : Jvm.MethodName) ∈ tg := tg_of (List.mem_append_right _ (List.mem_append_left _ (List.mem_of_getElem? (i := 82) rfl))) rfl
theorem tw_83 : Jvm.Cond.code ({ cls := "BaselineText$Shelf", name := "<init>", desc := "(I)V" } : Jvm.MethodName) prog_9_method_1_code (2 : Nat) (Option.none : Option Jvm.ClassFile.FieldType) ∈ tg := tg_of (List.mem_append_right _ (List.mem_append_left _ (List.mem_of_getElem? (i := 83) rfl))) rfl
theorem tw_84 : Jvm.Cond.methodLink "BaselineText$Shelf" (1 : Nat) ({ cls := "java/lang/Object", name := "<init>", desc := "()V" } : Jvm.MethodName) ∈ tg := tg_of (List.mem_append_right _ (List.mem_append_left _ (List.mem_of_getElem? (i := 84) rfl))) rfl
theorem tw_85 : Jvm.Cond.classLink "BaselineText$Shelf" (7 : Nat) "java/util/ArrayList" ∈ tg := tg_of (List.mem_append_right _ (List.mem_append_left _ (List.mem_of_getElem? (i := 85) rfl))) rfl
theorem tw_86 : Jvm.Cond.instantiable "java/util/ArrayList" (3 : Nat) ∈ tg := tg_of (List.mem_append_right _ (List.mem_append_left _ (List.mem_of_getElem? (i := 86) rfl))) rfl
theorem tw_87 : Jvm.Cond.methodLink "BaselineText$Shelf" (9 : Nat) ({ cls := "java/util/ArrayList", name := "<init>", desc := "()V" } : Jvm.MethodName) ∈ tg := tg_of (List.mem_append_right _ (List.mem_append_left _ (List.mem_of_getElem? (i := 87) rfl))) rfl
theorem tw_88 : Jvm.Cond.instanceMethod ({ cls := "java/util/ArrayList", name := "<init>", desc := "()V" } : Jvm.MethodName) ∈ tg := tg_of (List.mem_append_right _ (List.mem_append_left _ (List.mem_of_getElem? (i := 88) rfl))) rfl
theorem tw_89 : Jvm.Cond.code ({ cls := "java/util/ArrayList", name := "<init>", desc := "()V" } : Jvm.MethodName) prog_24_method_2_code (1 : Nat) (Option.none : Option Jvm.ClassFile.FieldType) ∈ tg := tg_of (List.mem_append_right _ (List.mem_append_left _ (List.mem_of_getElem? (i := 89) rfl))) rfl
theorem tw_90 : Jvm.Cond.methodLink "java/util/ArrayList" (1 : Nat) ({ cls := "java/util/AbstractList", name := "<init>", desc := "()V" } : Jvm.MethodName) ∈ tg := tg_of (List.mem_append_right _ (List.mem_append_left _ (List.mem_of_getElem? (i := 90) rfl))) rfl
theorem tw_91 : Jvm.Cond.instanceMethod ({ cls := "java/util/AbstractList", name := "<init>", desc := "()V" } : Jvm.MethodName) ∈ tg := tg_of (List.mem_append_right _ (List.mem_append_left _ (List.mem_of_getElem? (i := 91) rfl))) rfl
theorem tw_92 : Jvm.Cond.code ({ cls := "java/util/AbstractList", name := "<init>", desc := "()V" } : Jvm.MethodName) prog_23_method_1_code (1 : Nat) (Option.none : Option Jvm.ClassFile.FieldType) ∈ tg := tg_of (List.mem_append_right _ (List.mem_append_left _ (List.mem_of_getElem? (i := 92) rfl))) rfl
theorem tw_93 : Jvm.Cond.methodLink "java/util/AbstractList" (1 : Nat) ({ cls := "java/util/AbstractCollection", name := "<init>", desc := "()V" } : Jvm.MethodName) ∈ tg := tg_of (List.mem_append_right _ (List.mem_append_left _ (List.mem_of_getElem? (i := 93) rfl))) rfl
theorem tw_94 : Jvm.Cond.instanceMethod ({ cls := "java/util/AbstractCollection", name := "<init>", desc := "()V" } : Jvm.MethodName) ∈ tg := tg_of (List.mem_append_right _ (List.mem_append_left _ (List.mem_of_getElem? (i := 94) rfl))) rfl
theorem tw_95 : Jvm.Cond.code ({ cls := "java/util/AbstractCollection", name := "<init>", desc := "()V" } : Jvm.MethodName) prog_22_method_1_code (1 : Nat) (Option.none : Option Jvm.ClassFile.FieldType) ∈ tg := tg_of (List.mem_append_right _ (List.mem_append_left _ (List.mem_of_getElem? (i := 95) rfl))) rfl
theorem tw_96 : Jvm.Cond.methodLink "java/util/AbstractCollection" (1 : Nat) ({ cls := "java/lang/Object", name := "<init>", desc := "()V" } : Jvm.MethodName) ∈ tg := tg_of (List.mem_append_right _ (List.mem_append_left _ (List.mem_of_getElem? (i := 96) rfl))) rfl
theorem tw_97 : Jvm.Cond.fieldLink "java/util/ArrayList" (39 : Nat) "java/util/ArrayList" "DEFAULTCAPACITY_EMPTY_ELEMENTDATA" "[Ljava/lang/Object;" ∈ tg := tg_of (List.mem_append_right _ (List.mem_append_left _ (List.mem_of_getElem? (i := 97) rfl))) rfl
theorem tz_98 : Jvm.Cond.laysStatic "java/util/ArrayList" "DEFAULTCAPACITY_EMPTY_ELEMENTDATA" "[Ljava/lang/Object;" ∈ lw_tbl := List.mem_append_right _ (List.mem_append_left _ (List.mem_of_getElem? (i := 98) rfl))
theorem tw_99 : Jvm.Cond.fieldLink "java/util/ArrayList" (9 : Nat) "java/util/ArrayList" "elementData" "[Ljava/lang/Object;" ∈ tg := tg_of (List.mem_append_right _ (List.mem_append_left _ (List.mem_of_getElem? (i := 99) rfl))) rfl
theorem tw_100 : Jvm.Cond.fieldLink "java/util/ArrayList" (48 : Nat) "java/util/ArrayList" "size" "I" ∈ tg := tg_of (List.mem_append_right _ (List.mem_append_left _ (List.mem_of_getElem? (i := 100) rfl))) rfl
theorem tw_101 : Jvm.Cond.fieldLink "java/util/AbstractList" (7 : Nat) "java/util/AbstractList" "modCount" "I" ∈ tg := tg_of (List.mem_append_right _ (List.mem_append_left _ (List.mem_of_getElem? (i := 101) rfl))) rfl
theorem tw_102 : Jvm.Cond.fieldLink "java/util/ArrayList" (63 : Nat) "java/util/ArrayList" "modCount" "I" ∈ tg := tg_of (List.mem_append_right _ (List.mem_append_left _ (List.mem_of_getElem? (i := 102) rfl))) rfl
theorem tw_103 : Jvm.Cond.sameField "java/util/ArrayList" "java/util/AbstractList" "modCount" "I" ∈ tg := tg_of (List.mem_append_right _ (List.mem_append_left _ (List.mem_of_getElem? (i := 103) rfl))) rfl
theorem tw_104 : Jvm.Cond.lays "java/util/ArrayList" "java/util/ArrayList" "elementData" "[Ljava/lang/Object;" ∈ tg := tg_of (List.mem_append_right _ (List.mem_append_left _ (List.mem_of_getElem? (i := 104) rfl))) rfl
theorem tw_105 : Jvm.Cond.soleField "java/util/ArrayList" "elementData" ∈ tg := tg_of (List.mem_append_right _ (List.mem_append_left _ (List.mem_of_getElem? (i := 105) rfl))) rfl
theorem tw_106 : Jvm.Cond.lays "java/util/ArrayList" "java/util/ArrayList" "size" "I" ∈ tg := tg_of (List.mem_append_right _ (List.mem_append_left _ (List.mem_of_getElem? (i := 106) rfl))) rfl
theorem tw_107 : Jvm.Cond.soleField "java/util/ArrayList" "size" ∈ tg := tg_of (List.mem_append_right _ (List.mem_append_left _ (List.mem_of_getElem? (i := 107) rfl))) rfl
theorem tw_108 : Jvm.Cond.lays "java/util/ArrayList" "java/util/AbstractList" "modCount" "I" ∈ tg := tg_of (List.mem_append_right _ (List.mem_append_left _ (List.mem_of_getElem? (i := 108) rfl))) rfl
theorem tw_109 : Jvm.Cond.soleField "java/util/AbstractList" "modCount" ∈ tg := tg_of (List.mem_append_right _ (List.mem_append_left _ (List.mem_of_getElem? (i := 109) rfl))) rfl
theorem tw_110 : Jvm.Cond.superclass "java/util/ArrayList" "java/util/AbstractList" ∈ tg := tg_of (List.mem_append_right _ (List.mem_append_left _ (List.mem_of_getElem? (i := 110) rfl))) rfl
theorem tw_111 : Jvm.Cond.fieldLink "BaselineText$Shelf" (10 : Nat) "BaselineText$Shelf" "declarations" "Ljava/util/ArrayList;" ∈ tg := tg_of (List.mem_append_right _ (List.mem_append_left _ (List.mem_of_getElem? (i := 111) rfl))) rfl
theorem tw_112 : Jvm.Cond.fieldLink "BaselineText$Shelf" (16 : Nat) "BaselineText$Shelf" "most" "I" ∈ tg := tg_of (List.mem_append_right _ (List.mem_append_left _ (List.mem_of_getElem? (i := 112) rfl))) rfl
theorem tw_113 : Jvm.Cond.fieldLink "BaselineText$Shelf" (20 : Nat) "BaselineText$Shelf" "count" "I" ∈ tg := tg_of (List.mem_append_right _ (List.mem_append_left _ (List.mem_of_getElem? (i := 113) rfl))) rfl
theorem tw_114 : Jvm.Cond.laysFinal "BaselineText$Shelf" "BaselineText$Shelf" "declarations" "Ljava/util/ArrayList;" ∈ tg := tg_of (List.mem_append_right _ (List.mem_append_left _ (List.mem_of_getElem? (i := 114) rfl))) rfl
theorem tw_115 : Jvm.Cond.soleField "BaselineText$Shelf" "declarations" ∈ tg := tg_of (List.mem_append_right _ (List.mem_append_left _ (List.mem_of_getElem? (i := 115) rfl))) rfl
theorem tw_116 : Jvm.Cond.laysFinal "BaselineText$Shelf" "BaselineText$Shelf" "most" "I" ∈ tg := tg_of (List.mem_append_right _ (List.mem_append_left _ (List.mem_of_getElem? (i := 116) rfl))) rfl
theorem tw_117 : Jvm.Cond.soleField "BaselineText$Shelf" "most" ∈ tg := tg_of (List.mem_append_right _ (List.mem_append_left _ (List.mem_of_getElem? (i := 117) rfl))) rfl
theorem tw_118 : Jvm.Cond.lays "BaselineText$Shelf" "BaselineText$Shelf" "count" "I" ∈ tg := tg_of (List.mem_append_right _ (List.mem_append_left _ (List.mem_of_getElem? (i := 118) rfl))) rfl
theorem tw_119 : Jvm.Cond.soleField "BaselineText$Shelf" "count" ∈ tg := tg_of (List.mem_append_right _ (List.mem_append_left _ (List.mem_of_getElem? (i := 119) rfl))) rfl
theorem tw_120 : Jvm.Cond.superclass "BaselineText$Shelf" "java/lang/Object" ∈ tg := tg_of (List.mem_append_right _ (List.mem_append_left _ (List.mem_of_getElem? (i := 120) rfl))) rfl
theorem tw_121 : Jvm.Cond.fieldLink "BaselineText$Baseline" (14 : Nat) "BaselineText$Baseline" "types" "LBaselineText$Shelf;" ∈ tg := tg_of (List.mem_append_right _ (List.mem_append_left _ (List.mem_of_getElem? (i := 121) rfl))) rfl
theorem tw_122 : Jvm.Cond.fieldLink "BaselineText" (106 : Nat) "BaselineText$Baseline" "types" "LBaselineText$Shelf;" ∈ tg := tg_of (List.mem_append_right _ (List.mem_append_left _ (List.mem_of_getElem? (i := 122) rfl))) rfl
theorem tw_123 : Jvm.Cond.fieldLink "BaselineText$Reader" (166 : Nat) "BaselineText$Baseline" "types" "LBaselineText$Shelf;" ∈ tg := tg_of (List.mem_append_right _ (List.mem_append_left _ (List.mem_of_getElem? (i := 123) rfl))) rfl
theorem tw_124 : Jvm.Cond.fieldLink "BaselineText$Baseline" (20 : Nat) "BaselineText$Baseline" "format" "I" ∈ tg := tg_of (List.mem_append_right _ (List.mem_append_left _ (List.mem_of_getElem? (i := 124) rfl))) rfl
theorem tw_125 : Jvm.Cond.fieldLink "BaselineText$Reader" (99 : Nat) "BaselineText$Baseline" "format" "I" ∈ tg := tg_of (List.mem_append_right _ (List.mem_append_left _ (List.mem_of_getElem? (i := 125) rfl))) rfl
theorem tw_126 : Jvm.Cond.fieldLink "BaselineText" (89 : Nat) "BaselineText$Baseline" "format" "I" ∈ tg := tg_of (List.mem_append_right _ (List.mem_append_left _ (List.mem_of_getElem? (i := 126) rfl))) rfl
theorem tw_127 : Jvm.Cond.laysFinal "BaselineText$Baseline" "BaselineText$Baseline" "types" "LBaselineText$Shelf;" ∈ tg := tg_of (List.mem_append_right _ (List.mem_append_left _ (List.mem_of_getElem? (i := 127) rfl))) rfl
theorem tw_128 : Jvm.Cond.soleField "BaselineText$Baseline" "types" ∈ tg := tg_of (List.mem_append_right _ (List.mem_append_left _ (List.mem_of_getElem? (i := 128) rfl))) rfl
theorem tw_129 : Jvm.Cond.lays "BaselineText$Baseline" "BaselineText$Baseline" "format" "I" ∈ tg := tg_of (List.mem_append_right _ (List.mem_append_left _ (List.mem_of_getElem? (i := 129) rfl))) rfl
theorem tw_130 : Jvm.Cond.soleField "BaselineText$Baseline" "format" ∈ tg := tg_of (List.mem_append_right _ (List.mem_append_left _ (List.mem_of_getElem? (i := 130) rfl))) rfl
theorem tw_131 : Jvm.Cond.superclass "BaselineText$Baseline" "java/lang/Object" ∈ tg := tg_of (List.mem_append_right _ (List.mem_append_left _ (List.mem_of_getElem? (i := 131) rfl))) rfl
theorem tw_132 : Jvm.Cond.fieldLink "BaselineText" (14 : Nat) "BaselineText" "text" "LBaselineText$Row;" ∈ tg := tg_of (List.mem_append_right _ (List.mem_append_left _ (List.mem_of_getElem? (i := 132) rfl))) rfl
theorem tw_133 : Jvm.Cond.fieldLink "BaselineText" (18 : Nat) "BaselineText" "form" "LBaselineText$Row;" ∈ tg := tg_of (List.mem_append_right _ (List.mem_append_left _ (List.mem_of_getElem? (i := 133) rfl))) rfl
theorem tw_134 : Jvm.Cond.fieldLink "BaselineText" (24 : Nat) "BaselineText" "diagnostics" "LBaselineText$Diagnostics;" ∈ tg := tg_of (List.mem_append_right _ (List.mem_append_left _ (List.mem_of_getElem? (i := 134) rfl))) rfl
theorem tw_135 : Jvm.Cond.fieldLink "BaselineText" (31 : Nat) "BaselineText" "baseline0" "LBaselineText$Baseline;" ∈ tg := tg_of (List.mem_append_right _ (List.mem_append_left _ (List.mem_of_getElem? (i := 135) rfl))) rfl
theorem tw_136 : Jvm.Cond.fieldLink "BaselineText" (35 : Nat) "BaselineText" "baseline1" "LBaselineText$Baseline;" ∈ tg := tg_of (List.mem_append_right _ (List.mem_append_left _ (List.mem_of_getElem? (i := 136) rfl))) rfl
theorem tw_137 : Jvm.Cond.laysFinal "BaselineText" "BaselineText" "text" "LBaselineText$Row;" ∈ tg := tg_of (List.mem_append_right _ (List.mem_append_left _ (List.mem_of_getElem? (i := 137) rfl))) rfl
theorem tw_138 : Jvm.Cond.soleField "BaselineText" "text" ∈ tg := tg_of (List.mem_append_right _ (List.mem_append_left _ (List.mem_of_getElem? (i := 138) rfl))) rfl
theorem tw_139 : Jvm.Cond.laysFinal "BaselineText" "BaselineText" "form" "LBaselineText$Row;" ∈ tg := tg_of (List.mem_append_right _ (List.mem_append_left _ (List.mem_of_getElem? (i := 139) rfl))) rfl
theorem tw_140 : Jvm.Cond.soleField "BaselineText" "form" ∈ tg := tg_of (List.mem_append_right _ (List.mem_append_left _ (List.mem_of_getElem? (i := 140) rfl))) rfl
theorem tw_141 : Jvm.Cond.laysFinal "BaselineText" "BaselineText" "diagnostics" "LBaselineText$Diagnostics;" ∈ tg := tg_of (List.mem_append_right _ (List.mem_append_left _ (List.mem_of_getElem? (i := 141) rfl))) rfl
theorem tw_142 : Jvm.Cond.soleField "BaselineText" "diagnostics" ∈ tg := tg_of (List.mem_append_right _ (List.mem_append_left _ (List.mem_of_getElem? (i := 142) rfl))) rfl
theorem tw_143 : Jvm.Cond.lays "BaselineText" "BaselineText" "baseline0" "LBaselineText$Baseline;" ∈ tg := tg_of (List.mem_append_right _ (List.mem_append_left _ (List.mem_of_getElem? (i := 143) rfl))) rfl
theorem tw_144 : Jvm.Cond.soleField "BaselineText" "baseline0" ∈ tg := tg_of (List.mem_append_right _ (List.mem_append_left _ (List.mem_of_getElem? (i := 144) rfl))) rfl
theorem tw_145 : Jvm.Cond.lays "BaselineText" "BaselineText" "baseline1" "LBaselineText$Baseline;" ∈ tg := tg_of (List.mem_append_right _ (List.mem_append_left _ (List.mem_of_getElem? (i := 145) rfl))) rfl
theorem tw_146 : Jvm.Cond.soleField "BaselineText" "baseline1" ∈ tg := tg_of (List.mem_append_right _ (List.mem_append_left _ (List.mem_of_getElem? (i := 146) rfl))) rfl
theorem tw_147 : Jvm.Cond.superclass "BaselineText" "java/lang/Object" ∈ tg := tg_of (List.mem_append_right _ (List.mem_append_left _ (List.mem_of_getElem? (i := 147) rfl))) rfl
theorem tw_148 : Jvm.Cond.methodLink "BaselineTextLaw" (15 : Nat) ({ cls := "BaselineText", name := "type", desc := "(JI)I" } : Jvm.MethodName) ∈ tg := tg_of (List.mem_append_right _ (List.mem_append_left _ (List.mem_of_getElem? (i := 148) rfl))) rfl
theorem tw_149 : Jvm.Cond.instanceMethod ({ cls := "BaselineText", name := "type", desc := "(JI)I" } : Jvm.MethodName) ∈ tg := tg_of (List.mem_append_right _ (List.mem_append_left _ (List.mem_of_getElem? (i := 149) rfl))) rfl
theorem tw_150 : Jvm.Cond.selects "BaselineText" ({ cls := "BaselineText", name := "type", desc := "(JI)I" } : Jvm.MethodName) ({ cls := "BaselineText", name := "type", desc := "(JI)I" } : Jvm.MethodName) ∈ tg := tg_of (List.mem_append_right _ (List.mem_append_left _ (List.mem_of_getElem? (i := 150) rfl))) rfl
theorem tw_151 : Jvm.Cond.code ({ cls := "BaselineText", name := "type", desc := "(JI)I" } : Jvm.MethodName) prog_1_method_2_code (5 : Nat) (Option.some Jvm.ClassFile.FieldType.int) ∈ tg := tg_of (List.mem_append_right _ (List.mem_append_left _ (List.mem_of_getElem? (i := 151) rfl))) rfl
theorem tw_152 : Jvm.Cond.methodLink "BaselineText" (38 : Nat) ({ cls := "BaselineText$Row", name := "length", desc := "()I" } : Jvm.MethodName) ∈ tg := tg_of (List.mem_append_right _ (List.mem_append_left _ (List.mem_of_getElem? (i := 152) rfl))) rfl
theorem tw_153 : Jvm.Cond.instanceMethod ({ cls := "BaselineText$Row", name := "length", desc := "()I" } : Jvm.MethodName) ∈ tg := tg_of (List.mem_append_right _ (List.mem_append_left _ (List.mem_of_getElem? (i := 153) rfl))) rfl
theorem tw_154 : Jvm.Cond.selects "BaselineText$Row" ({ cls := "BaselineText$Row", name := "length", desc := "()I" } : Jvm.MethodName) ({ cls := "BaselineText$Row", name := "length", desc := "()I" } : Jvm.MethodName) ∈ tg := tg_of (List.mem_append_right _ (List.mem_append_left _ (List.mem_of_getElem? (i := 154) rfl))) rfl
theorem tw_155 : Jvm.Cond.code ({ cls := "BaselineText$Row", name := "length", desc := "()I" } : Jvm.MethodName) prog_8_method_2_code (1 : Nat) (Option.some Jvm.ClassFile.FieldType.int) ∈ tg := tg_of (List.mem_append_right _ (List.mem_append_left _ (List.mem_of_getElem? (i := 155) rfl))) rfl
theorem tw_156 : Jvm.Cond.methodLink "BaselineText" (42 : Nat) ({ cls := "BaselineText", name := "byteOf", desc := "(JI)I" } : Jvm.MethodName) ∈ tg := tg_of (List.mem_append_right _ (List.mem_append_left _ (List.mem_of_getElem? (i := 156) rfl))) rfl
theorem tw_157 : Jvm.Cond.static ({ cls := "BaselineText", name := "byteOf", desc := "(JI)I" } : Jvm.MethodName) ∈ tg := tg_of (List.mem_append_right _ (List.mem_append_left _ (List.mem_of_getElem? (i := 157) rfl))) rfl
theorem tw_158 : Jvm.Cond.code ({ cls := "BaselineText", name := "byteOf", desc := "(JI)I" } : Jvm.MethodName) prog_1_method_16_code (3 : Nat) (Option.some Jvm.ClassFile.FieldType.int) ∈ tg := tg_of (List.mem_append_right _ (List.mem_append_left _ (List.mem_of_getElem? (i := 158) rfl))) rfl
theorem tw_159 : Jvm.Cond.methodLink "BaselineText" (46 : Nat) ({ cls := "BaselineText", name := "isTextCode", desc := "(I)Z" } : Jvm.MethodName) ∈ tg := tg_of (List.mem_append_right _ (List.mem_append_left _ (List.mem_of_getElem? (i := 159) rfl))) rfl
theorem tw_160 : Jvm.Cond.static ({ cls := "BaselineText", name := "isTextCode", desc := "(I)Z" } : Jvm.MethodName) ∈ tg := tg_of (List.mem_append_right _ (List.mem_append_left _ (List.mem_of_getElem? (i := 160) rfl))) rfl
theorem tw_161 : Jvm.Cond.code ({ cls := "BaselineText", name := "isTextCode", desc := "(I)Z" } : Jvm.MethodName) prog_1_method_17_code (1 : Nat) (Option.some Jvm.ClassFile.FieldType.boolean) ∈ tg := tg_of (List.mem_append_right _ (List.mem_append_left _ (List.mem_of_getElem? (i := 161) rfl))) rfl
theorem tw_162 : Jvm.Cond.methodLink "BaselineText" (50 : Nat) ({ cls := "BaselineText$Row", name := "add", desc := "(I)V" } : Jvm.MethodName) ∈ tg := tg_of (List.mem_append_right _ (List.mem_append_left _ (List.mem_of_getElem? (i := 162) rfl))) rfl
theorem tw_163 : Jvm.Cond.instanceMethod ({ cls := "BaselineText$Row", name := "add", desc := "(I)V" } : Jvm.MethodName) ∈ tg := tg_of (List.mem_append_right _ (List.mem_append_left _ (List.mem_of_getElem? (i := 163) rfl))) rfl
theorem tw_164 : Jvm.Cond.selects "BaselineText$Row" ({ cls := "BaselineText$Row", name := "add", desc := "(I)V" } : Jvm.MethodName) ({ cls := "BaselineText$Row", name := "add", desc := "(I)V" } : Jvm.MethodName) ∈ tg := tg_of (List.mem_append_right _ (List.mem_append_left _ (List.mem_of_getElem? (i := 164) rfl))) rfl
theorem tw_165 : Jvm.Cond.code ({ cls := "BaselineText$Row", name := "add", desc := "(I)V" } : Jvm.MethodName) prog_8_method_6_code (2 : Nat) (Option.none : Option Jvm.ClassFile.FieldType) ∈ tg := tg_of (List.mem_append_right _ (List.mem_append_left _ (List.mem_of_getElem? (i := 165) rfl))) rfl
theorem tw_166 : Jvm.Cond.methodLink "BaselineTextLaw" (20 : Nat) ({ cls := "BaselineText", name := "clear", desc := "()I" } : Jvm.MethodName) ∈ tg := tg_of (List.mem_append_right _ (List.mem_append_left _ (List.mem_of_getElem? (i := 166) rfl))) rfl
theorem tw_167 : Jvm.Cond.instanceMethod ({ cls := "BaselineText", name := "clear", desc := "()I" } : Jvm.MethodName) ∈ tg := tg_of (List.mem_append_right _ (List.mem_append_left _ (List.mem_of_getElem? (i := 167) rfl))) rfl
theorem tw_168 : Jvm.Cond.selects "BaselineText" ({ cls := "BaselineText", name := "clear", desc := "()I" } : Jvm.MethodName) ({ cls := "BaselineText", name := "clear", desc := "()I" } : Jvm.MethodName) ∈ tg := tg_of (List.mem_append_right _ (List.mem_append_left _ (List.mem_of_getElem? (i := 168) rfl))) rfl
theorem tw_169 : Jvm.Cond.code ({ cls := "BaselineText", name := "clear", desc := "()I" } : Jvm.MethodName) prog_1_method_3_code (2 : Nat) (Option.some Jvm.ClassFile.FieldType.int) ∈ tg := tg_of (List.mem_append_right _ (List.mem_append_left _ (List.mem_of_getElem? (i := 169) rfl))) rfl
theorem tw_170 : Jvm.Cond.methodLink "BaselineText" (53 : Nat) ({ cls := "BaselineText$Row", name := "empty", desc := "()V" } : Jvm.MethodName) ∈ tg := tg_of (List.mem_append_right _ (List.mem_append_left _ (List.mem_of_getElem? (i := 170) rfl))) rfl
theorem tw_171 : Jvm.Cond.instanceMethod ({ cls := "BaselineText$Row", name := "empty", desc := "()V" } : Jvm.MethodName) ∈ tg := tg_of (List.mem_append_right _ (List.mem_append_left _ (List.mem_of_getElem? (i := 171) rfl))) rfl
theorem tw_172 : Jvm.Cond.selects "BaselineText$Row" ({ cls := "BaselineText$Row", name := "empty", desc := "()V" } : Jvm.MethodName) ({ cls := "BaselineText$Row", name := "empty", desc := "()V" } : Jvm.MethodName) ∈ tg := tg_of (List.mem_append_right _ (List.mem_append_left _ (List.mem_of_getElem? (i := 172) rfl))) rfl
theorem tw_173 : Jvm.Cond.code ({ cls := "BaselineText$Row", name := "empty", desc := "()V" } : Jvm.MethodName) prog_8_method_5_code (1 : Nat) (Option.none : Option Jvm.ClassFile.FieldType) ∈ tg := tg_of (List.mem_append_right _ (List.mem_append_left _ (List.mem_of_getElem? (i := 173) rfl))) rfl
theorem tw_174 : Jvm.Cond.methodLink "BaselineTextLaw" (25 : Nat) ({ cls := "BaselineText", name := "read", desc := "(I)I" } : Jvm.MethodName) ∈ tg := tg_of (List.mem_append_right _ (List.mem_append_left _ (List.mem_of_getElem? (i := 174) rfl))) rfl
theorem tw_175 : Jvm.Cond.instanceMethod ({ cls := "BaselineText", name := "read", desc := "(I)I" } : Jvm.MethodName) ∈ tg := tg_of (List.mem_append_right _ (List.mem_append_left _ (List.mem_of_getElem? (i := 175) rfl))) rfl
theorem tw_176 : Jvm.Cond.selects "BaselineText" ({ cls := "BaselineText", name := "read", desc := "(I)I" } : Jvm.MethodName) ({ cls := "BaselineText", name := "read", desc := "(I)I" } : Jvm.MethodName) ∈ tg := tg_of (List.mem_append_right _ (List.mem_append_left _ (List.mem_of_getElem? (i := 176) rfl))) rfl
theorem tw_177 : Jvm.Cond.code ({ cls := "BaselineText", name := "read", desc := "(I)I" } : Jvm.MethodName) prog_1_method_4_code (6 : Nat) (Option.some Jvm.ClassFile.FieldType.int) ∈ tg := tg_of (List.mem_append_right _ (List.mem_append_left _ (List.mem_of_getElem? (i := 177) rfl))) rfl
theorem tw_178 : Jvm.Cond.methodLink "BaselineText" (56 : Nat) ({ cls := "BaselineText", name := "chosen", desc := "(I)LBaselineText$Baseline;" } : Jvm.MethodName) ∈ tg := tg_of (List.mem_append_right _ (List.mem_append_left _ (List.mem_of_getElem? (i := 178) rfl))) rfl
theorem tz_179 : Jvm.Cond.privateMethod ({ cls := "BaselineText", name := "chosen", desc := "(I)LBaselineText$Baseline;" } : Jvm.MethodName) ∈ lw_tbl := List.mem_append_right _ (List.mem_append_left _ (List.mem_of_getElem? (i := 179) rfl))
theorem tw_180 : Jvm.Cond.instanceMethod ({ cls := "BaselineText", name := "chosen", desc := "(I)LBaselineText$Baseline;" } : Jvm.MethodName) ∈ tg := tg_of (List.mem_append_right _ (List.mem_append_left _ (List.mem_of_getElem? (i := 180) rfl))) rfl
theorem tw_181 : Jvm.Cond.code ({ cls := "BaselineText", name := "chosen", desc := "(I)LBaselineText$Baseline;" } : Jvm.MethodName) prog_1_method_18_code (2 : Nat) (Option.some (Jvm.ClassFile.FieldType.object "BaselineText$Baseline")) ∈ tg := tg_of (List.mem_append_right _ (List.mem_append_left _ (List.mem_of_getElem? (i := 181) rfl))) rfl
theorem tw_182 : Jvm.Cond.methodLink "BaselineText" (60 : Nat) ({ cls := "BaselineText$Baseline", name := "empty", desc := "()V" } : Jvm.MethodName) ∈ tg := tg_of (List.mem_append_right _ (List.mem_append_left _ (List.mem_of_getElem? (i := 182) rfl))) rfl
theorem tw_183 : Jvm.Cond.instanceMethod ({ cls := "BaselineText$Baseline", name := "empty", desc := "()V" } : Jvm.MethodName) ∈ tg := tg_of (List.mem_append_right _ (List.mem_append_left _ (List.mem_of_getElem? (i := 183) rfl))) rfl
theorem tw_184 : Jvm.Cond.selects "BaselineText$Baseline" ({ cls := "BaselineText$Baseline", name := "empty", desc := "()V" } : Jvm.MethodName) ({ cls := "BaselineText$Baseline", name := "empty", desc := "()V" } : Jvm.MethodName) ∈ tg := tg_of (List.mem_append_right _ (List.mem_append_left _ (List.mem_of_getElem? (i := 184) rfl))) rfl
theorem tw_185 : Jvm.Cond.code ({ cls := "BaselineText$Baseline", name := "empty", desc := "()V" } : Jvm.MethodName) prog_2_method_2_code (1 : Nat) (Option.none : Option Jvm.ClassFile.FieldType) ∈ tg := tg_of (List.mem_append_right _ (List.mem_append_left _ (List.mem_of_getElem? (i := 185) rfl))) rfl
theorem tw_186 : Jvm.Cond.methodLink "BaselineText$Baseline" (24 : Nat) ({ cls := "BaselineText$Shelf", name := "empty", desc := "()V" } : Jvm.MethodName) ∈ tg := tg_of (List.mem_append_right _ (List.mem_append_left _ (List.mem_of_getElem? (i := 186) rfl))) rfl
theorem tw_187 : Jvm.Cond.instanceMethod ({ cls := "BaselineText$Shelf", name := "empty", desc := "()V" } : Jvm.MethodName) ∈ tg := tg_of (List.mem_append_right _ (List.mem_append_left _ (List.mem_of_getElem? (i := 187) rfl))) rfl
theorem tw_188 : Jvm.Cond.selects "BaselineText$Shelf" ({ cls := "BaselineText$Shelf", name := "empty", desc := "()V" } : Jvm.MethodName) ({ cls := "BaselineText$Shelf", name := "empty", desc := "()V" } : Jvm.MethodName) ∈ tg := tg_of (List.mem_append_right _ (List.mem_append_left _ (List.mem_of_getElem? (i := 188) rfl))) rfl
theorem tw_189 : Jvm.Cond.code ({ cls := "BaselineText$Shelf", name := "empty", desc := "()V" } : Jvm.MethodName) prog_9_method_4_code (1 : Nat) (Option.none : Option Jvm.ClassFile.FieldType) ∈ tg := tg_of (List.mem_append_right _ (List.mem_append_left _ (List.mem_of_getElem? (i := 189) rfl))) rfl
theorem tw_190 : Jvm.Cond.methodLink "BaselineText" (61 : Nat) ({ cls := "BaselineText$Diagnostics", name := "empty", desc := "()V" } : Jvm.MethodName) ∈ tg := tg_of (List.mem_append_right _ (List.mem_append_left _ (List.mem_of_getElem? (i := 190) rfl))) rfl
theorem tw_191 : Jvm.Cond.instanceMethod ({ cls := "BaselineText$Diagnostics", name := "empty", desc := "()V" } : Jvm.MethodName) ∈ tg := tg_of (List.mem_append_right _ (List.mem_append_left _ (List.mem_of_getElem? (i := 191) rfl))) rfl
theorem tw_192 : Jvm.Cond.selects "BaselineText$Diagnostics" ({ cls := "BaselineText$Diagnostics", name := "empty", desc := "()V" } : Jvm.MethodName) ({ cls := "BaselineText$Diagnostics", name := "empty", desc := "()V" } : Jvm.MethodName) ∈ tg := tg_of (List.mem_append_right _ (List.mem_append_left _ (List.mem_of_getElem? (i := 192) rfl))) rfl
theorem tw_193 : Jvm.Cond.code ({ cls := "BaselineText$Diagnostics", name := "empty", desc := "()V" } : Jvm.MethodName) prog_4_method_4_code (1 : Nat) (Option.none : Option Jvm.ClassFile.FieldType) ∈ tg := tg_of (List.mem_append_right _ (List.mem_append_left _ (List.mem_of_getElem? (i := 193) rfl))) rfl
theorem tw_194 : Jvm.Cond.classLink "BaselineText" (62 : Nat) "BaselineText$Reader" ∈ tg := tg_of (List.mem_append_right _ (List.mem_append_left _ (List.mem_of_getElem? (i := 194) rfl))) rfl
theorem tw_195 : Jvm.Cond.instantiable "BaselineText$Reader" (8 : Nat) ∈ tg := tg_of (List.mem_append_right _ (List.mem_append_left _ (List.mem_of_getElem? (i := 195) rfl))) rfl
theorem tw_196 : Jvm.Cond.methodLink "BaselineText" (64 : Nat) ({ cls := "BaselineText$Reader", name := "<init>", desc := "(LBaselineText$Row;LBaselineText$Baseline;LBaselineText$Diagnostics;)V" } : Jvm.MethodName) ∈ tg := tg_of (List.mem_append_right _ (List.mem_append_left _ (List.mem_of_getElem? (i := 196) rfl))) rfl
theorem tw_197 : Jvm.Cond.instanceMethod ({ cls := "BaselineText$Reader", name := "<init>", desc := "(LBaselineText$Row;LBaselineText$Baseline;LBaselineText$Diagnostics;)V" } : Jvm.MethodName) ∈ tg := tg_of (List.mem_append_right _ (List.mem_append_left _ (List.mem_of_getElem? (i := 197) rfl))) rfl
theorem tw_198 : Jvm.Cond.code ({ cls := "BaselineText$Reader", name := "<init>", desc := "(LBaselineText$Row;LBaselineText$Baseline;LBaselineText$Diagnostics;)V" } : Jvm.MethodName) prog_7_method_1_code (4 : Nat) (Option.none : Option Jvm.ClassFile.FieldType) ∈ tg := tg_of (List.mem_append_right _ (List.mem_append_left _ (List.mem_of_getElem? (i := 198) rfl))) rfl
theorem tw_199 : Jvm.Cond.methodLink "BaselineText$Reader" (3 : Nat) ({ cls := "java/lang/Object", name := "<init>", desc := "()V" } : Jvm.MethodName) ∈ tg := tg_of (List.mem_append_right _ (List.mem_append_left _ (List.mem_of_getElem? (i := 199) rfl))) rfl
theorem tw_200 : Jvm.Cond.classLink "BaselineText$Reader" (9 : Nat) "BaselineText$Declaration" ∈ tg := tg_of (List.mem_append_right _ (List.mem_append_left _ (List.mem_of_getElem? (i := 200) rfl))) rfl
theorem tw_201 : Jvm.Cond.instantiable "BaselineText$Declaration" (4 : Nat) ∈ tg := tg_of (List.mem_append_right _ (List.mem_append_left _ (List.mem_of_getElem? (i := 201) rfl))) rfl
theorem tz_202 : Jvm.Cond.methodLinkNest "BaselineText$Reader" (11 : Nat) ({ cls := "BaselineText$Declaration", name := "<init>", desc := "()V" } : Jvm.MethodName) "BaselineText" ∈ lw_tbl := List.mem_append_right _ (List.mem_append_left _ (List.mem_of_getElem? (i := 202) rfl))
theorem tw_203 : Jvm.Cond.instanceMethod ({ cls := "BaselineText$Declaration", name := "<init>", desc := "()V" } : Jvm.MethodName) ∈ tg := tg_of (List.mem_append_right _ (List.mem_append_left _ (List.mem_of_getElem? (i := 203) rfl))) rfl
theorem tw_204 : Jvm.Cond.code ({ cls := "BaselineText$Declaration", name := "<init>", desc := "()V" } : Jvm.MethodName) prog_3_method_1_code (1 : Nat) (Option.none : Option Jvm.ClassFile.FieldType) ∈ tg := tg_of (List.mem_append_right _ (List.mem_append_left _ (List.mem_of_getElem? (i := 204) rfl))) rfl
theorem tw_205 : Jvm.Cond.methodLink "BaselineText$Declaration" (3 : Nat) ({ cls := "java/lang/Object", name := "<init>", desc := "()V" } : Jvm.MethodName) ∈ tg := tg_of (List.mem_append_right _ (List.mem_append_left _ (List.mem_of_getElem? (i := 205) rfl))) rfl
theorem tw_206 : Jvm.Cond.classLink "BaselineText$Declaration" (9 : Nat) "BaselineText$Row" ∈ tg := tg_of (List.mem_append_right _ (List.mem_append_left _ (List.mem_of_getElem? (i := 206) rfl))) rfl
theorem tw_207 : Jvm.Cond.methodLink "BaselineText$Declaration" (11 : Nat) ({ cls := "BaselineText$Row", name := "<init>", desc := "(I)V" } : Jvm.MethodName) ∈ tg := tg_of (List.mem_append_right _ (List.mem_append_left _ (List.mem_of_getElem? (i := 207) rfl))) rfl
theorem tw_208 : Jvm.Cond.fieldLink "BaselineText$Declaration" (14 : Nat) "BaselineText$Declaration" "name" "LBaselineText$Row;" ∈ tg := tg_of (List.mem_append_right _ (List.mem_append_left _ (List.mem_of_getElem? (i := 208) rfl))) rfl
theorem tw_209 : Jvm.Cond.fieldLink "BaselineText$Baseline" (37 : Nat) "BaselineText$Type" "name" "LBaselineText$Row;" ∈ tg := tg_of (List.mem_append_right _ (List.mem_append_left _ (List.mem_of_getElem? (i := 209) rfl))) rfl
theorem tw_210 : Jvm.Cond.sameField "BaselineText$Type" "BaselineText$Declaration" "name" "LBaselineText$Row;" ∈ tg := tg_of (List.mem_append_right _ (List.mem_append_left _ (List.mem_of_getElem? (i := 210) rfl))) rfl
theorem tw_211 : Jvm.Cond.fieldLink "BaselineText$Reader" (114 : Nat) "BaselineText$Declaration" "name" "LBaselineText$Row;" ∈ tg := tg_of (List.mem_append_right _ (List.mem_append_left _ (List.mem_of_getElem? (i := 211) rfl))) rfl
theorem tw_212 : Jvm.Cond.fieldLink "BaselineText" (128 : Nat) "BaselineText$Type" "name" "LBaselineText$Row;" ∈ tg := tg_of (List.mem_append_right _ (List.mem_append_left _ (List.mem_of_getElem? (i := 212) rfl))) rfl
theorem tw_213 : Jvm.Cond.fieldLink "BaselineText" (139 : Nat) "BaselineText$Declaration" "name" "LBaselineText$Row;" ∈ tg := tg_of (List.mem_append_right _ (List.mem_append_left _ (List.mem_of_getElem? (i := 213) rfl))) rfl
theorem tw_214 : Jvm.Cond.fieldLink "BaselineText$Declaration" (20 : Nat) "BaselineText$Declaration" "descriptor" "LBaselineText$Row;" ∈ tg := tg_of (List.mem_append_right _ (List.mem_append_left _ (List.mem_of_getElem? (i := 214) rfl))) rfl
theorem tw_215 : Jvm.Cond.fieldLink "BaselineText$Reader" (128 : Nat) "BaselineText$Declaration" "descriptor" "LBaselineText$Row;" ∈ tg := tg_of (List.mem_append_right _ (List.mem_append_left _ (List.mem_of_getElem? (i := 215) rfl))) rfl
theorem tw_216 : Jvm.Cond.fieldLink "BaselineText" (140 : Nat) "BaselineText$Declaration" "descriptor" "LBaselineText$Row;" ∈ tg := tg_of (List.mem_append_right _ (List.mem_append_left _ (List.mem_of_getElem? (i := 216) rfl))) rfl
theorem tw_217 : Jvm.Cond.fieldLink "BaselineText$Declaration" (27 : Nat) "BaselineText$Declaration" "kind" "I" ∈ tg := tg_of (List.mem_append_right _ (List.mem_append_left _ (List.mem_of_getElem? (i := 217) rfl))) rfl
theorem tw_218 : Jvm.Cond.fieldLink "BaselineText$Reader" (111 : Nat) "BaselineText$Declaration" "kind" "I" ∈ tg := tg_of (List.mem_append_right _ (List.mem_append_left _ (List.mem_of_getElem? (i := 218) rfl))) rfl
theorem tw_219 : Jvm.Cond.fieldLink "BaselineText" (117 : Nat) "BaselineText$Type" "kind" "I" ∈ tg := tg_of (List.mem_append_right _ (List.mem_append_left _ (List.mem_of_getElem? (i := 219) rfl))) rfl
theorem tw_220 : Jvm.Cond.sameField "BaselineText$Type" "BaselineText$Declaration" "kind" "I" ∈ tg := tg_of (List.mem_append_right _ (List.mem_append_left _ (List.mem_of_getElem? (i := 220) rfl))) rfl
theorem tw_221 : Jvm.Cond.fieldLink "BaselineText" (135 : Nat) "BaselineText$Declaration" "kind" "I" ∈ tg := tg_of (List.mem_append_right _ (List.mem_append_left _ (List.mem_of_getElem? (i := 221) rfl))) rfl
theorem tw_222 : Jvm.Cond.fieldLink "BaselineText$Declaration" (31 : Nat) "BaselineText$Declaration" "marks" "I" ∈ tg := tg_of (List.mem_append_right _ (List.mem_append_left _ (List.mem_of_getElem? (i := 222) rfl))) rfl
theorem tw_223 : Jvm.Cond.fieldLink "BaselineText$Reader" (143 : Nat) "BaselineText$Declaration" "marks" "I" ∈ tg := tg_of (List.mem_append_right _ (List.mem_append_left _ (List.mem_of_getElem? (i := 223) rfl))) rfl
theorem tw_224 : Jvm.Cond.fieldLink "BaselineText" (122 : Nat) "BaselineText$Type" "marks" "I" ∈ tg := tg_of (List.mem_append_right _ (List.mem_append_left _ (List.mem_of_getElem? (i := 224) rfl))) rfl
theorem tw_225 : Jvm.Cond.sameField "BaselineText$Type" "BaselineText$Declaration" "marks" "I" ∈ tg := tg_of (List.mem_append_right _ (List.mem_append_left _ (List.mem_of_getElem? (i := 225) rfl))) rfl
theorem tw_226 : Jvm.Cond.fieldLink "BaselineText" (138 : Nat) "BaselineText$Declaration" "marks" "I" ∈ tg := tg_of (List.mem_append_right _ (List.mem_append_left _ (List.mem_of_getElem? (i := 226) rfl))) rfl
theorem tw_227 : Jvm.Cond.laysFinal "BaselineText$Declaration" "BaselineText$Declaration" "name" "LBaselineText$Row;" ∈ tg := tg_of (List.mem_append_right _ (List.mem_append_left _ (List.mem_of_getElem? (i := 227) rfl))) rfl
theorem tw_228 : Jvm.Cond.soleField "BaselineText$Declaration" "name" ∈ tg := tg_of (List.mem_append_right _ (List.mem_append_left _ (List.mem_of_getElem? (i := 228) rfl))) rfl
theorem tw_229 : Jvm.Cond.laysFinal "BaselineText$Declaration" "BaselineText$Declaration" "descriptor" "LBaselineText$Row;" ∈ tg := tg_of (List.mem_append_right _ (List.mem_append_left _ (List.mem_of_getElem? (i := 229) rfl))) rfl
theorem tw_230 : Jvm.Cond.soleField "BaselineText$Declaration" "descriptor" ∈ tg := tg_of (List.mem_append_right _ (List.mem_append_left _ (List.mem_of_getElem? (i := 230) rfl))) rfl
theorem tw_231 : Jvm.Cond.lays "BaselineText$Declaration" "BaselineText$Declaration" "kind" "I" ∈ tg := tg_of (List.mem_append_right _ (List.mem_append_left _ (List.mem_of_getElem? (i := 231) rfl))) rfl
theorem tw_232 : Jvm.Cond.soleField "BaselineText$Declaration" "kind" ∈ tg := tg_of (List.mem_append_right _ (List.mem_append_left _ (List.mem_of_getElem? (i := 232) rfl))) rfl
theorem tw_233 : Jvm.Cond.lays "BaselineText$Declaration" "BaselineText$Declaration" "marks" "I" ∈ tg := tg_of (List.mem_append_right _ (List.mem_append_left _ (List.mem_of_getElem? (i := 233) rfl))) rfl
theorem tw_234 : Jvm.Cond.soleField "BaselineText$Declaration" "marks" ∈ tg := tg_of (List.mem_append_right _ (List.mem_append_left _ (List.mem_of_getElem? (i := 234) rfl))) rfl
theorem tw_235 : Jvm.Cond.superclass "BaselineText$Declaration" "java/lang/Object" ∈ tg := tg_of (List.mem_append_right _ (List.mem_append_left _ (List.mem_of_getElem? (i := 235) rfl))) rfl
theorem tw_236 : Jvm.Cond.classLink "BaselineText$Reader" (18 : Nat) "BaselineText$Line" ∈ tg := tg_of (List.mem_append_right _ (List.mem_append_left _ (List.mem_of_getElem? (i := 236) rfl))) rfl
theorem tw_237 : Jvm.Cond.instantiable "BaselineText$Line" (5 : Nat) ∈ tg := tg_of (List.mem_append_right _ (List.mem_append_left _ (List.mem_of_getElem? (i := 237) rfl))) rfl
theorem tw_238 : Jvm.Cond.methodLink "BaselineText$Reader" (20 : Nat) ({ cls := "BaselineText$Line", name := "<init>", desc := "(LBaselineText$Row;)V" } : Jvm.MethodName) ∈ tg := tg_of (List.mem_append_right _ (List.mem_append_left _ (List.mem_of_getElem? (i := 238) rfl))) rfl
theorem tw_239 : Jvm.Cond.instanceMethod ({ cls := "BaselineText$Line", name := "<init>", desc := "(LBaselineText$Row;)V" } : Jvm.MethodName) ∈ tg := tg_of (List.mem_append_right _ (List.mem_append_left _ (List.mem_of_getElem? (i := 239) rfl))) rfl
theorem tw_240 : Jvm.Cond.code ({ cls := "BaselineText$Line", name := "<init>", desc := "(LBaselineText$Row;)V" } : Jvm.MethodName) prog_6_method_1_code (2 : Nat) (Option.none : Option Jvm.ClassFile.FieldType) ∈ tg := tg_of (List.mem_append_right _ (List.mem_append_right _ (List.mem_append_left _ (List.mem_of_getElem? (i := 0) rfl)))) rfl
theorem tw_241 : Jvm.Cond.methodLink "BaselineText$Line" (3 : Nat) ({ cls := "java/lang/Object", name := "<init>", desc := "()V" } : Jvm.MethodName) ∈ tg := tg_of (List.mem_append_right _ (List.mem_append_right _ (List.mem_append_left _ (List.mem_of_getElem? (i := 1) rfl)))) rfl
theorem tw_242 : Jvm.Cond.fieldLink "BaselineText$Line" (9 : Nat) "BaselineText$Line" "text" "LBaselineText$Row;" ∈ tg := tg_of (List.mem_append_right _ (List.mem_append_right _ (List.mem_append_left _ (List.mem_of_getElem? (i := 2) rfl)))) rfl
theorem tw_243 : Jvm.Cond.fieldLink "BaselineText$Line" (15 : Nat) "BaselineText$Line" "start" "I" ∈ tg := tg_of (List.mem_append_right _ (List.mem_append_right _ (List.mem_append_left _ (List.mem_of_getElem? (i := 3) rfl)))) rfl
theorem tw_244 : Jvm.Cond.fieldLink "BaselineText$Line" (19 : Nat) "BaselineText$Line" "end" "I" ∈ tg := tg_of (List.mem_append_right _ (List.mem_append_right _ (List.mem_append_left _ (List.mem_of_getElem? (i := 4) rfl)))) rfl
theorem tw_245 : Jvm.Cond.fieldLink "BaselineText$Line" (37 : Nat) "BaselineText$Line" "wordStart" "I" ∈ tg := tg_of (List.mem_append_right _ (List.mem_append_right _ (List.mem_append_left _ (List.mem_of_getElem? (i := 5) rfl)))) rfl
theorem tw_246 : Jvm.Cond.fieldLink "BaselineText$Line" (31 : Nat) "BaselineText$Line" "wordEnd" "I" ∈ tg := tg_of (List.mem_append_right _ (List.mem_append_right _ (List.mem_append_left _ (List.mem_of_getElem? (i := 6) rfl)))) rfl
theorem tw_247 : Jvm.Cond.laysFinal "BaselineText$Line" "BaselineText$Line" "text" "LBaselineText$Row;" ∈ tg := tg_of (List.mem_append_right _ (List.mem_append_right _ (List.mem_append_left _ (List.mem_of_getElem? (i := 7) rfl)))) rfl
theorem tw_248 : Jvm.Cond.soleField "BaselineText$Line" "text" ∈ tg := tg_of (List.mem_append_right _ (List.mem_append_right _ (List.mem_append_left _ (List.mem_of_getElem? (i := 8) rfl)))) rfl
theorem tw_249 : Jvm.Cond.lays "BaselineText$Line" "BaselineText$Line" "start" "I" ∈ tg := tg_of (List.mem_append_right _ (List.mem_append_right _ (List.mem_append_left _ (List.mem_of_getElem? (i := 9) rfl)))) rfl
theorem tw_250 : Jvm.Cond.soleField "BaselineText$Line" "start" ∈ tg := tg_of (List.mem_append_right _ (List.mem_append_right _ (List.mem_append_left _ (List.mem_of_getElem? (i := 10) rfl)))) rfl
theorem tw_251 : Jvm.Cond.lays "BaselineText$Line" "BaselineText$Line" "end" "I" ∈ tg := tg_of (List.mem_append_right _ (List.mem_append_right _ (List.mem_append_left _ (List.mem_of_getElem? (i := 11) rfl)))) rfl
theorem tw_252 : Jvm.Cond.soleField "BaselineText$Line" "end" ∈ tg := tg_of (List.mem_append_right _ (List.mem_append_right _ (List.mem_append_left _ (List.mem_of_getElem? (i := 12) rfl)))) rfl
theorem tw_253 : Jvm.Cond.lays "BaselineText$Line" "BaselineText$Line" "wordStart" "I" ∈ tg := tg_of (List.mem_append_right _ (List.mem_append_right _ (List.mem_append_left _ (List.mem_of_getElem? (i := 13) rfl)))) rfl
theorem tw_254 : Jvm.Cond.soleField "BaselineText$Line" "wordStart" ∈ tg := tg_of (List.mem_append_right _ (List.mem_append_right _ (List.mem_append_left _ (List.mem_of_getElem? (i := 14) rfl)))) rfl
theorem tw_255 : Jvm.Cond.lays "BaselineText$Line" "BaselineText$Line" "wordEnd" "I" ∈ tg := tg_of (List.mem_append_right _ (List.mem_append_right _ (List.mem_append_left _ (List.mem_of_getElem? (i := 15) rfl)))) rfl
theorem tw_256 : Jvm.Cond.soleField "BaselineText$Line" "wordEnd" ∈ tg := tg_of (List.mem_append_right _ (List.mem_append_right _ (List.mem_append_left _ (List.mem_of_getElem? (i := 16) rfl)))) rfl
theorem tw_257 : Jvm.Cond.superclass "BaselineText$Line" "java/lang/Object" ∈ tg := tg_of (List.mem_append_right _ (List.mem_append_right _ (List.mem_append_left _ (List.mem_of_getElem? (i := 17) rfl)))) rfl
theorem tw_258 : Jvm.Cond.fieldLink "BaselineText$Reader" (23 : Nat) "BaselineText$Reader" "line" "LBaselineText$Line;" ∈ tg := tg_of (List.mem_append_right _ (List.mem_append_right _ (List.mem_append_left _ (List.mem_of_getElem? (i := 18) rfl)))) rfl
theorem tw_259 : Jvm.Cond.fieldLink "BaselineText$Reader" (27 : Nat) "BaselineText$Reader" "target" "LBaselineText$Baseline;" ∈ tg := tg_of (List.mem_append_right _ (List.mem_append_right _ (List.mem_append_left _ (List.mem_of_getElem? (i := 19) rfl)))) rfl
theorem tw_260 : Jvm.Cond.fieldLink "BaselineText$Reader" (31 : Nat) "BaselineText$Reader" "diagnostics" "LBaselineText$Diagnostics;" ∈ tg := tg_of (List.mem_append_right _ (List.mem_append_right _ (List.mem_append_left _ (List.mem_of_getElem? (i := 20) rfl)))) rfl
theorem tw_261 : Jvm.Cond.fieldLink "BaselineText$Reader" (12 : Nat) "BaselineText$Reader" "draft" "LBaselineText$Declaration;" ∈ tg := tg_of (List.mem_append_right _ (List.mem_append_right _ (List.mem_append_left _ (List.mem_of_getElem? (i := 21) rfl)))) rfl
theorem tw_262 : Jvm.Cond.fieldLink "BaselineText$Reader" (35 : Nat) "BaselineText$Reader" "number" "I" ∈ tg := tg_of (List.mem_append_right _ (List.mem_append_right _ (List.mem_append_left _ (List.mem_of_getElem? (i := 22) rfl)))) rfl
theorem tw_263 : Jvm.Cond.fieldLink "BaselineText$Reader" (77 : Nat) "BaselineText$Reader" "pastFirst" "Z" ∈ tg := tg_of (List.mem_append_right _ (List.mem_append_right _ (List.mem_append_left _ (List.mem_of_getElem? (i := 23) rfl)))) rfl
theorem tw_264 : Jvm.Cond.fieldLink "BaselineText$Reader" (54 : Nat) "BaselineText$Reader" "broken" "Z" ∈ tg := tg_of (List.mem_append_right _ (List.mem_append_right _ (List.mem_append_left _ (List.mem_of_getElem? (i := 24) rfl)))) rfl
theorem tw_265 : Jvm.Cond.fieldLink "BaselineText$Reader" (179 : Nat) "BaselineText$Reader" "owner" "LBaselineText$Type;" ∈ tg := tg_of (List.mem_append_right _ (List.mem_append_right _ (List.mem_append_left _ (List.mem_of_getElem? (i := 25) rfl)))) rfl
theorem tw_266 : Jvm.Cond.laysFinal "BaselineText$Reader" "BaselineText$Reader" "line" "LBaselineText$Line;" ∈ tg := tg_of (List.mem_append_right _ (List.mem_append_right _ (List.mem_append_left _ (List.mem_of_getElem? (i := 26) rfl)))) rfl
theorem tw_267 : Jvm.Cond.soleField "BaselineText$Reader" "line" ∈ tg := tg_of (List.mem_append_right _ (List.mem_append_right _ (List.mem_append_left _ (List.mem_of_getElem? (i := 27) rfl)))) rfl
theorem tw_268 : Jvm.Cond.laysFinal "BaselineText$Reader" "BaselineText$Reader" "target" "LBaselineText$Baseline;" ∈ tg := tg_of (List.mem_append_right _ (List.mem_append_right _ (List.mem_append_left _ (List.mem_of_getElem? (i := 28) rfl)))) rfl
theorem tw_269 : Jvm.Cond.soleField "BaselineText$Reader" "target" ∈ tg := tg_of (List.mem_append_right _ (List.mem_append_right _ (List.mem_append_left _ (List.mem_of_getElem? (i := 29) rfl)))) rfl
theorem tw_270 : Jvm.Cond.laysFinal "BaselineText$Reader" "BaselineText$Reader" "diagnostics" "LBaselineText$Diagnostics;" ∈ tg := tg_of (List.mem_append_right _ (List.mem_append_right _ (List.mem_append_left _ (List.mem_of_getElem? (i := 30) rfl)))) rfl
theorem tw_271 : Jvm.Cond.soleField "BaselineText$Reader" "diagnostics" ∈ tg := tg_of (List.mem_append_right _ (List.mem_append_right _ (List.mem_append_left _ (List.mem_of_getElem? (i := 31) rfl)))) rfl
theorem tw_272 : Jvm.Cond.laysFinal "BaselineText$Reader" "BaselineText$Reader" "draft" "LBaselineText$Declaration;" ∈ tg := tg_of (List.mem_append_right _ (List.mem_append_right _ (List.mem_append_left _ (List.mem_of_getElem? (i := 32) rfl)))) rfl
theorem tw_273 : Jvm.Cond.soleField "BaselineText$Reader" "draft" ∈ tg := tg_of (List.mem_append_right _ (List.mem_append_right _ (List.mem_append_left _ (List.mem_of_getElem? (i := 33) rfl)))) rfl
theorem tw_274 : Jvm.Cond.lays "BaselineText$Reader" "BaselineText$Reader" "number" "I" ∈ tg := tg_of (List.mem_append_right _ (List.mem_append_right _ (List.mem_append_left _ (List.mem_of_getElem? (i := 34) rfl)))) rfl
theorem tw_275 : Jvm.Cond.soleField "BaselineText$Reader" "number" ∈ tg := tg_of (List.mem_append_right _ (List.mem_append_right _ (List.mem_append_left _ (List.mem_of_getElem? (i := 35) rfl)))) rfl
theorem tw_276 : Jvm.Cond.lays "BaselineText$Reader" "BaselineText$Reader" "pastFirst" "Z" ∈ tg := tg_of (List.mem_append_right _ (List.mem_append_right _ (List.mem_append_left _ (List.mem_of_getElem? (i := 36) rfl)))) rfl
theorem tw_277 : Jvm.Cond.soleField "BaselineText$Reader" "pastFirst" ∈ tg := tg_of (List.mem_append_right _ (List.mem_append_right _ (List.mem_append_left _ (List.mem_of_getElem? (i := 37) rfl)))) rfl
theorem tw_278 : Jvm.Cond.lays "BaselineText$Reader" "BaselineText$Reader" "broken" "Z" ∈ tg := tg_of (List.mem_append_right _ (List.mem_append_right _ (List.mem_append_left _ (List.mem_of_getElem? (i := 38) rfl)))) rfl
theorem tw_279 : Jvm.Cond.soleField "BaselineText$Reader" "broken" ∈ tg := tg_of (List.mem_append_right _ (List.mem_append_right _ (List.mem_append_left _ (List.mem_of_getElem? (i := 39) rfl)))) rfl
theorem tw_280 : Jvm.Cond.lays "BaselineText$Reader" "BaselineText$Reader" "owner" "LBaselineText$Type;" ∈ tg := tg_of (List.mem_append_right _ (List.mem_append_right _ (List.mem_append_left _ (List.mem_of_getElem? (i := 40) rfl)))) rfl
theorem tw_281 : Jvm.Cond.soleField "BaselineText$Reader" "owner" ∈ tg := tg_of (List.mem_append_right _ (List.mem_append_right _ (List.mem_append_left _ (List.mem_of_getElem? (i := 41) rfl)))) rfl
theorem tw_282 : Jvm.Cond.superclass "BaselineText$Reader" "java/lang/Object" ∈ tg := tg_of (List.mem_append_right _ (List.mem_append_right _ (List.mem_append_left _ (List.mem_of_getElem? (i := 42) rfl)))) rfl
theorem tw_283 : Jvm.Cond.methodLink "BaselineText" (67 : Nat) ({ cls := "BaselineText$Row", name := "at", desc := "(I)I" } : Jvm.MethodName) ∈ tg := tg_of (List.mem_append_right _ (List.mem_append_right _ (List.mem_append_left _ (List.mem_of_getElem? (i := 43) rfl)))) rfl
theorem tw_284 : Jvm.Cond.instanceMethod ({ cls := "BaselineText$Row", name := "at", desc := "(I)I" } : Jvm.MethodName) ∈ tg := tg_of (List.mem_append_right _ (List.mem_append_right _ (List.mem_append_left _ (List.mem_of_getElem? (i := 44) rfl)))) rfl
theorem tw_285 : Jvm.Cond.selects "BaselineText$Row" ({ cls := "BaselineText$Row", name := "at", desc := "(I)I" } : Jvm.MethodName) ({ cls := "BaselineText$Row", name := "at", desc := "(I)I" } : Jvm.MethodName) ∈ tg := tg_of (List.mem_append_right _ (List.mem_append_right _ (List.mem_append_left _ (List.mem_of_getElem? (i := 45) rfl)))) rfl
theorem tw_286 : Jvm.Cond.code ({ cls := "BaselineText$Row", name := "at", desc := "(I)I" } : Jvm.MethodName) prog_8_method_4_code (2 : Nat) (Option.some Jvm.ClassFile.FieldType.int) ∈ tg := tg_of (List.mem_append_right _ (List.mem_append_right _ (List.mem_append_left _ (List.mem_of_getElem? (i := 46) rfl)))) rfl
theorem tw_287 : Jvm.Cond.methodLink "BaselineText" (71 : Nat) ({ cls := "BaselineText$Reader", name := "readLine", desc := "(II)V" } : Jvm.MethodName) ∈ tg := tg_of (List.mem_append_right _ (List.mem_append_right _ (List.mem_append_left _ (List.mem_of_getElem? (i := 47) rfl)))) rfl
theorem tw_288 : Jvm.Cond.instanceMethod ({ cls := "BaselineText$Reader", name := "readLine", desc := "(II)V" } : Jvm.MethodName) ∈ tg := tg_of (List.mem_append_right _ (List.mem_append_right _ (List.mem_append_left _ (List.mem_of_getElem? (i := 48) rfl)))) rfl
theorem tw_289 : Jvm.Cond.selects "BaselineText$Reader" ({ cls := "BaselineText$Reader", name := "readLine", desc := "(II)V" } : Jvm.MethodName) ({ cls := "BaselineText$Reader", name := "readLine", desc := "(II)V" } : Jvm.MethodName) ∈ tg := tg_of (List.mem_append_right _ (List.mem_append_right _ (List.mem_append_left _ (List.mem_of_getElem? (i := 49) rfl)))) rfl
theorem tw_290 : Jvm.Cond.code ({ cls := "BaselineText$Reader", name := "readLine", desc := "(II)V" } : Jvm.MethodName) prog_7_method_2_code (5 : Nat) (Option.none : Option Jvm.ClassFile.FieldType) ∈ tg := tg_of (List.mem_append_right _ (List.mem_append_right _ (List.mem_append_left _ (List.mem_of_getElem? (i := 50) rfl)))) rfl
theorem tw_291 : Jvm.Cond.methodLink "BaselineText$Reader" (39 : Nat) ({ cls := "BaselineText$Line", name := "frame", desc := "(II)V" } : Jvm.MethodName) ∈ tg := tg_of (List.mem_append_right _ (List.mem_append_right _ (List.mem_append_left _ (List.mem_of_getElem? (i := 51) rfl)))) rfl
theorem tw_292 : Jvm.Cond.instanceMethod ({ cls := "BaselineText$Line", name := "frame", desc := "(II)V" } : Jvm.MethodName) ∈ tg := tg_of (List.mem_append_right _ (List.mem_append_right _ (List.mem_append_left _ (List.mem_of_getElem? (i := 52) rfl)))) rfl
theorem tw_293 : Jvm.Cond.selects "BaselineText$Line" ({ cls := "BaselineText$Line", name := "frame", desc := "(II)V" } : Jvm.MethodName) ({ cls := "BaselineText$Line", name := "frame", desc := "(II)V" } : Jvm.MethodName) ∈ tg := tg_of (List.mem_append_right _ (List.mem_append_right _ (List.mem_append_left _ (List.mem_of_getElem? (i := 53) rfl)))) rfl
theorem tw_294 : Jvm.Cond.code ({ cls := "BaselineText$Line", name := "frame", desc := "(II)V" } : Jvm.MethodName) prog_6_method_2_code (3 : Nat) (Option.none : Option Jvm.ClassFile.FieldType) ∈ tg := tg_of (List.mem_append_right _ (List.mem_append_right _ (List.mem_append_left _ (List.mem_of_getElem? (i := 54) rfl)))) rfl
theorem tw_295 : Jvm.Cond.methodLink "BaselineText$Line" (22 : Nat) ({ cls := "BaselineText$Row", name := "at", desc := "(I)I" } : Jvm.MethodName) ∈ tg := tg_of (List.mem_append_right _ (List.mem_append_right _ (List.mem_append_left _ (List.mem_of_getElem? (i := 55) rfl)))) rfl
theorem tw_296 : Jvm.Cond.methodLink "BaselineText$Line" (28 : Nat) ({ cls := "BaselineText$Line", name := "toFirstWord", desc := "()V" } : Jvm.MethodName) ∈ tg := tg_of (List.mem_append_right _ (List.mem_append_right _ (List.mem_append_left _ (List.mem_of_getElem? (i := 56) rfl)))) rfl
theorem tw_297 : Jvm.Cond.instanceMethod ({ cls := "BaselineText$Line", name := "toFirstWord", desc := "()V" } : Jvm.MethodName) ∈ tg := tg_of (List.mem_append_right _ (List.mem_append_right _ (List.mem_append_left _ (List.mem_of_getElem? (i := 57) rfl)))) rfl
theorem tw_298 : Jvm.Cond.selects "BaselineText$Line" ({ cls := "BaselineText$Line", name := "toFirstWord", desc := "()V" } : Jvm.MethodName) ({ cls := "BaselineText$Line", name := "toFirstWord", desc := "()V" } : Jvm.MethodName) ∈ tg := tg_of (List.mem_append_right _ (List.mem_append_right _ (List.mem_append_left _ (List.mem_of_getElem? (i := 58) rfl)))) rfl
theorem tw_299 : Jvm.Cond.code ({ cls := "BaselineText$Line", name := "toFirstWord", desc := "()V" } : Jvm.MethodName) prog_6_method_3_code (1 : Nat) (Option.none : Option Jvm.ClassFile.FieldType) ∈ tg := tg_of (List.mem_append_right _ (List.mem_append_right _ (List.mem_append_left _ (List.mem_of_getElem? (i := 59) rfl)))) rfl
theorem tw_300 : Jvm.Cond.methodLink "BaselineText$Line" (34 : Nat) ({ cls := "BaselineText$Line", name := "toNextWord", desc := "()V" } : Jvm.MethodName) ∈ tg := tg_of (List.mem_append_right _ (List.mem_append_right _ (List.mem_append_left _ (List.mem_of_getElem? (i := 60) rfl)))) rfl
theorem tw_301 : Jvm.Cond.instanceMethod ({ cls := "BaselineText$Line", name := "toNextWord", desc := "()V" } : Jvm.MethodName) ∈ tg := tg_of (List.mem_append_right _ (List.mem_append_right _ (List.mem_append_left _ (List.mem_of_getElem? (i := 61) rfl)))) rfl
theorem tw_302 : Jvm.Cond.selects "BaselineText$Line" ({ cls := "BaselineText$Line", name := "toNextWord", desc := "()V" } : Jvm.MethodName) ({ cls := "BaselineText$Line", name := "toNextWord", desc := "()V" } : Jvm.MethodName) ∈ tg := tg_of (List.mem_append_right _ (List.mem_append_right _ (List.mem_append_left _ (List.mem_of_getElem? (i := 62) rfl)))) rfl
theorem tw_303 : Jvm.Cond.code ({ cls := "BaselineText$Line", name := "toNextWord", desc := "()V" } : Jvm.MethodName) prog_6_method_4_code (1 : Nat) (Option.none : Option Jvm.ClassFile.FieldType) ∈ tg := tg_of (List.mem_append_right _ (List.mem_append_right _ (List.mem_append_left _ (List.mem_of_getElem? (i := 63) rfl)))) rfl
theorem tw_304 : Jvm.Cond.methodLink "BaselineText$Reader" (43 : Nat) ({ cls := "BaselineText$Line", name := "isSkipped", desc := "()Z" } : Jvm.MethodName) ∈ tg := tg_of (List.mem_append_right _ (List.mem_append_right _ (List.mem_append_left _ (List.mem_of_getElem? (i := 64) rfl)))) rfl
theorem tw_305 : Jvm.Cond.instanceMethod ({ cls := "BaselineText$Line", name := "isSkipped", desc := "()Z" } : Jvm.MethodName) ∈ tg := tg_of (List.mem_append_right _ (List.mem_append_right _ (List.mem_append_left _ (List.mem_of_getElem? (i := 65) rfl)))) rfl
theorem tw_306 : Jvm.Cond.selects "BaselineText$Line" ({ cls := "BaselineText$Line", name := "isSkipped", desc := "()Z" } : Jvm.MethodName) ({ cls := "BaselineText$Line", name := "isSkipped", desc := "()Z" } : Jvm.MethodName) ∈ tg := tg_of (List.mem_append_right _ (List.mem_append_right _ (List.mem_append_left _ (List.mem_of_getElem? (i := 66) rfl)))) rfl
theorem tw_307 : Jvm.Cond.code ({ cls := "BaselineText$Line", name := "isSkipped", desc := "()Z" } : Jvm.MethodName) prog_6_method_7_code (1 : Nat) (Option.some Jvm.ClassFile.FieldType.boolean) ∈ tg := tg_of (List.mem_append_right _ (List.mem_append_right _ (List.mem_append_left _ (List.mem_of_getElem? (i := 67) rfl)))) rfl
theorem tw_308 : Jvm.Cond.methodLink "BaselineText$Line" (40 : Nat) ({ cls := "BaselineText$Line", name := "hasWord", desc := "()Z" } : Jvm.MethodName) ∈ tg := tg_of (List.mem_append_right _ (List.mem_append_right _ (List.mem_append_left _ (List.mem_of_getElem? (i := 68) rfl)))) rfl
theorem tw_309 : Jvm.Cond.instanceMethod ({ cls := "BaselineText$Line", name := "hasWord", desc := "()Z" } : Jvm.MethodName) ∈ tg := tg_of (List.mem_append_right _ (List.mem_append_right _ (List.mem_append_left _ (List.mem_of_getElem? (i := 69) rfl)))) rfl
theorem tw_310 : Jvm.Cond.selects "BaselineText$Line" ({ cls := "BaselineText$Line", name := "hasWord", desc := "()Z" } : Jvm.MethodName) ({ cls := "BaselineText$Line", name := "hasWord", desc := "()Z" } : Jvm.MethodName) ∈ tg := tg_of (List.mem_append_right _ (List.mem_append_right _ (List.mem_append_left _ (List.mem_of_getElem? (i := 70) rfl)))) rfl
theorem tw_311 : Jvm.Cond.code ({ cls := "BaselineText$Line", name := "hasWord", desc := "()Z" } : Jvm.MethodName) prog_6_method_5_code (1 : Nat) (Option.some Jvm.ClassFile.FieldType.boolean) ∈ tg := tg_of (List.mem_append_right _ (List.mem_append_right _ (List.mem_append_left _ (List.mem_of_getElem? (i := 71) rfl)))) rfl
theorem tw_312 : Jvm.Cond.methodLink "BaselineText$Reader" (47 : Nat) ({ cls := "BaselineText$Reader", name := "readFirst", desc := "()Z" } : Jvm.MethodName) ∈ tg := tg_of (List.mem_append_right _ (List.mem_append_right _ (List.mem_append_left _ (List.mem_of_getElem? (i := 72) rfl)))) rfl
theorem tz_313 : Jvm.Cond.privateMethod ({ cls := "BaselineText$Reader", name := "readFirst", desc := "()Z" } : Jvm.MethodName) ∈ lw_tbl := List.mem_append_right _ (List.mem_append_right _ (List.mem_append_left _ (List.mem_of_getElem? (i := 73) rfl)))
theorem tw_314 : Jvm.Cond.instanceMethod ({ cls := "BaselineText$Reader", name := "readFirst", desc := "()Z" } : Jvm.MethodName) ∈ tg := tg_of (List.mem_append_right _ (List.mem_append_right _ (List.mem_append_left _ (List.mem_of_getElem? (i := 74) rfl)))) rfl
theorem tw_315 : Jvm.Cond.code ({ cls := "BaselineText$Reader", name := "readFirst", desc := "()Z" } : Jvm.MethodName) prog_7_method_3_code (1 : Nat) (Option.some Jvm.ClassFile.FieldType.boolean) ∈ tg := tg_of (List.mem_append_right _ (List.mem_append_right _ (List.mem_append_left _ (List.mem_of_getElem? (i := 75) rfl)))) rfl
theorem tw_316 : Jvm.Cond.methodLink "BaselineText$Reader" (80 : Nat) ({ cls := "BaselineText$Reader", name := "readFormat", desc := "()Z" } : Jvm.MethodName) ∈ tg := tg_of (List.mem_append_right _ (List.mem_append_right _ (List.mem_append_left _ (List.mem_of_getElem? (i := 76) rfl)))) rfl
theorem tz_317 : Jvm.Cond.privateMethod ({ cls := "BaselineText$Reader", name := "readFormat", desc := "()Z" } : Jvm.MethodName) ∈ lw_tbl := List.mem_append_right _ (List.mem_append_right _ (List.mem_append_left _ (List.mem_of_getElem? (i := 77) rfl)))
theorem tw_318 : Jvm.Cond.instanceMethod ({ cls := "BaselineText$Reader", name := "readFormat", desc := "()Z" } : Jvm.MethodName) ∈ tg := tg_of (List.mem_append_right _ (List.mem_append_right _ (List.mem_append_left _ (List.mem_of_getElem? (i := 78) rfl)))) rfl
theorem tw_319 : Jvm.Cond.code ({ cls := "BaselineText$Reader", name := "readFormat", desc := "()Z" } : Jvm.MethodName) prog_7_method_4_code (2 : Nat) (Option.some Jvm.ClassFile.FieldType.boolean) ∈ tg := tg_of (List.mem_append_right _ (List.mem_append_right _ (List.mem_append_left _ (List.mem_of_getElem? (i := 79) rfl)))) rfl
theorem tz_320 : Jvm.Cond.stringRef "BaselineText$Reader" (83 : Nat) "#sig" ∈ lw_tbl := List.mem_append_right _ (List.mem_append_right _ (List.mem_append_left _ (List.mem_of_getElem? (i := 80) rfl)))
theorem tw_321 : Jvm.Cond.methodLink "BaselineText$Reader" (85 : Nat) ({ cls := "BaselineText$Line", name := "isAt", desc := "(Ljava/lang/String;)Z" } : Jvm.MethodName) ∈ tg := tg_of (List.mem_append_right _ (List.mem_append_right _ (List.mem_append_left _ (List.mem_of_getElem? (i := 81) rfl)))) rfl
theorem tw_322 : Jvm.Cond.instanceMethod ({ cls := "BaselineText$Line", name := "isAt", desc := "(Ljava/lang/String;)Z" } : Jvm.MethodName) ∈ tg := tg_of (List.mem_append_right _ (List.mem_append_right _ (List.mem_append_left _ (List.mem_of_getElem? (i := 82) rfl)))) rfl
theorem tw_323 : Jvm.Cond.selects "BaselineText$Line" ({ cls := "BaselineText$Line", name := "isAt", desc := "(Ljava/lang/String;)Z" } : Jvm.MethodName) ({ cls := "BaselineText$Line", name := "isAt", desc := "(Ljava/lang/String;)Z" } : Jvm.MethodName) ∈ tg := tg_of (List.mem_append_right _ (List.mem_append_right _ (List.mem_append_left _ (List.mem_of_getElem? (i := 83) rfl)))) rfl
theorem tw_324 : Jvm.Cond.code ({ cls := "BaselineText$Line", name := "isAt", desc := "(Ljava/lang/String;)Z" } : Jvm.MethodName) prog_6_method_8_code (3 : Nat) (Option.some Jvm.ClassFile.FieldType.boolean) ∈ tg := tg_of (List.mem_append_right _ (List.mem_append_right _ (List.mem_append_left _ (List.mem_of_getElem? (i := 84) rfl)))) rfl
theorem tw_325 : Jvm.Cond.methodLink "BaselineText$Line" (44 : Nat) ({ cls := "java/lang/String", name := "length", desc := "()I" } : Jvm.MethodName) ∈ tg := tg_of (List.mem_append_right _ (List.mem_append_right _ (List.mem_append_left _ (List.mem_of_getElem? (i := 85) rfl)))) rfl
theorem tw_326 : Jvm.Cond.instanceMethod ({ cls := "java/lang/String", name := "length", desc := "()I" } : Jvm.MethodName) ∈ tg := tg_of (List.mem_append_right _ (List.mem_append_right _ (List.mem_append_left _ (List.mem_of_getElem? (i := 86) rfl)))) rfl
theorem tw_327 : Jvm.Cond.selects "java/lang/String" ({ cls := "java/lang/String", name := "length", desc := "()I" } : Jvm.MethodName) ({ cls := "java/lang/String", name := "length", desc := "()I" } : Jvm.MethodName) ∈ tg := tg_of (List.mem_append_right _ (List.mem_append_right _ (List.mem_append_left _ (List.mem_of_getElem? (i := 87) rfl)))) rfl
theorem tw_328 : Jvm.Cond.code ({ cls := "java/lang/String", name := "length", desc := "()I" } : Jvm.MethodName) prog_18_method_54_code (1 : Nat) (Option.some Jvm.ClassFile.FieldType.int) ∈ tg := tg_of (List.mem_append_right _ (List.mem_append_right _ (List.mem_append_left _ (List.mem_of_getElem? (i := 88) rfl)))) rfl
theorem tw_329 : Jvm.Cond.methodLink "java/lang/String" (335 : Nat) ({ cls := "java/lang/String", name := "coder", desc := "()B" } : Jvm.MethodName) ∈ tg := tg_of (List.mem_append_right _ (List.mem_append_right _ (List.mem_append_left _ (List.mem_of_getElem? (i := 89) rfl)))) rfl
theorem tw_330 : Jvm.Cond.instanceMethod ({ cls := "java/lang/String", name := "coder", desc := "()B" } : Jvm.MethodName) ∈ tg := tg_of (List.mem_append_right _ (List.mem_append_right _ (List.mem_append_left _ (List.mem_of_getElem? (i := 90) rfl)))) rfl
theorem tw_331 : Jvm.Cond.selects "java/lang/String" ({ cls := "java/lang/String", name := "coder", desc := "()B" } : Jvm.MethodName) ({ cls := "java/lang/String", name := "coder", desc := "()B" } : Jvm.MethodName) ∈ tg := tg_of (List.mem_append_right _ (List.mem_append_right _ (List.mem_append_left _ (List.mem_of_getElem? (i := 91) rfl)))) rfl
theorem tw_332 : Jvm.Cond.code ({ cls := "java/lang/String", name := "coder", desc := "()B" } : Jvm.MethodName) prog_18_method_152_code (1 : Nat) (Option.some Jvm.ClassFile.FieldType.byte) ∈ tg := tg_of (List.mem_append_right _ (List.mem_append_right _ (List.mem_append_left _ (List.mem_of_getElem? (i := 92) rfl)))) rfl
theorem tw_333 : Jvm.Cond.fieldLink "java/lang/String" (38 : Nat) "java/lang/String" "COMPACT_STRINGS" "Z" ∈ tg := tg_of (List.mem_append_right _ (List.mem_append_right _ (List.mem_append_left _ (List.mem_of_getElem? (i := 93) rfl)))) rfl
theorem tz_334 : Jvm.Cond.laysStatic "java/lang/String" "COMPACT_STRINGS" "Z" ∈ lw_tbl := List.mem_append_right _ (List.mem_append_right _ (List.mem_append_left _ (List.mem_of_getElem? (i := 94) rfl)))
theorem tw_335 : Jvm.Cond.methodLink "BaselineText$Line" (50 : Nat) ({ cls := "java/lang/String", name := "charAt", desc := "(I)C" } : Jvm.MethodName) ∈ tg := tg_of (List.mem_append_right _ (List.mem_append_right _ (List.mem_append_left _ (List.mem_of_getElem? (i := 95) rfl)))) rfl
theorem tw_336 : Jvm.Cond.instanceMethod ({ cls := "java/lang/String", name := "charAt", desc := "(I)C" } : Jvm.MethodName) ∈ tg := tg_of (List.mem_append_right _ (List.mem_append_right _ (List.mem_append_left _ (List.mem_of_getElem? (i := 96) rfl)))) rfl
theorem tw_337 : Jvm.Cond.selects "java/lang/String" ({ cls := "java/lang/String", name := "charAt", desc := "(I)C" } : Jvm.MethodName) ({ cls := "java/lang/String", name := "charAt", desc := "(I)C" } : Jvm.MethodName) ∈ tg := tg_of (List.mem_append_right _ (List.mem_append_right _ (List.mem_append_left _ (List.mem_of_getElem? (i := 97) rfl)))) rfl
theorem tw_338 : Jvm.Cond.code ({ cls := "java/lang/String", name := "charAt", desc := "(I)C" } : Jvm.MethodName) prog_18_method_56_code (2 : Nat) (Option.some Jvm.ClassFile.FieldType.char) ∈ tg := tg_of (List.mem_append_right _ (List.mem_append_right _ (List.mem_append_left _ (List.mem_of_getElem? (i := 98) rfl)))) rfl
theorem tw_339 : Jvm.Cond.methodLink "java/lang/String" (492 : Nat) ({ cls := "java/lang/String", name := "isLatin1", desc := "()Z" } : Jvm.MethodName) ∈ tg := tg_of (List.mem_append_right _ (List.mem_append_right _ (List.mem_append_left _ (List.mem_of_getElem? (i := 99) rfl)))) rfl
theorem tw_340 : Jvm.Cond.instanceMethod ({ cls := "java/lang/String", name := "isLatin1", desc := "()Z" } : Jvm.MethodName) ∈ tg := tg_of (List.mem_append_right _ (List.mem_append_right _ (List.mem_append_left _ (List.mem_of_getElem? (i := 100) rfl)))) rfl
theorem tw_341 : Jvm.Cond.selects "java/lang/String" ({ cls := "java/lang/String", name := "isLatin1", desc := "()Z" } : Jvm.MethodName) ({ cls := "java/lang/String", name := "isLatin1", desc := "()Z" } : Jvm.MethodName) ∈ tg := tg_of (List.mem_append_right _ (List.mem_append_right _ (List.mem_append_left _ (List.mem_of_getElem? (i := 101) rfl)))) rfl
theorem tw_342 : Jvm.Cond.code ({ cls := "java/lang/String", name := "isLatin1", desc := "()Z" } : Jvm.MethodName) prog_18_method_154_code (1 : Nat) (Option.some Jvm.ClassFile.FieldType.boolean) ∈ tg := tg_of (List.mem_append_right _ (List.mem_append_right _ (List.mem_append_left _ (List.mem_of_getElem? (i := 102) rfl)))) rfl
theorem tw_343 : Jvm.Cond.methodLink "java/lang/String" (495 : Nat) ({ cls := "java/lang/StringLatin1", name := "charAt", desc := "([BI)C" } : Jvm.MethodName) ∈ tg := tg_of (List.mem_append_right _ (List.mem_append_right _ (List.mem_append_left _ (List.mem_of_getElem? (i := 103) rfl)))) rfl
theorem tw_344 : Jvm.Cond.static ({ cls := "java/lang/StringLatin1", name := "charAt", desc := "([BI)C" } : Jvm.MethodName) ∈ tg := tg_of (List.mem_append_right _ (List.mem_append_right _ (List.mem_append_left _ (List.mem_of_getElem? (i := 104) rfl)))) rfl
theorem tw_345 : Jvm.Cond.code ({ cls := "java/lang/StringLatin1", name := "charAt", desc := "([BI)C" } : Jvm.MethodName) prog_19_method_2_code (2 : Nat) (Option.some Jvm.ClassFile.FieldType.char) ∈ tg := tg_of (List.mem_append_right _ (List.mem_append_right _ (List.mem_append_left _ (List.mem_of_getElem? (i := 105) rfl)))) rfl
theorem tw_346 : Jvm.Cond.methodLink "java/lang/StringLatin1" (9 : Nat) ({ cls := "java/lang/String", name := "checkIndex", desc := "(II)V" } : Jvm.MethodName) ∈ tg := tg_of (List.mem_append_right _ (List.mem_append_right _ (List.mem_append_left _ (List.mem_of_getElem? (i := 106) rfl)))) rfl
theorem tw_347 : Jvm.Cond.static ({ cls := "java/lang/String", name := "checkIndex", desc := "(II)V" } : Jvm.MethodName) ∈ tg := tg_of (List.mem_append_right _ (List.mem_append_right _ (List.mem_append_left _ (List.mem_of_getElem? (i := 107) rfl)))) rfl
theorem tw_348 : Jvm.Cond.code ({ cls := "java/lang/String", name := "checkIndex", desc := "(II)V" } : Jvm.MethodName) prog_18_method_155_code (2 : Nat) (Option.none : Option Jvm.ClassFile.FieldType) ∈ tg := tg_of (List.mem_append_right _ (List.mem_append_right _ (List.mem_append_left _ (List.mem_of_getElem? (i := 108) rfl)))) rfl
theorem tw_349 : Jvm.Cond.fieldLink "java/lang/String" (1053 : Nat) "jdk/internal/util/Preconditions" "SIOOBE_FORMATTER" "Ljava/util/function/BiFunction;" ∈ tg := tg_of (List.mem_append_right _ (List.mem_append_right _ (List.mem_append_left _ (List.mem_of_getElem? (i := 109) rfl)))) rfl
theorem tz_350 : Jvm.Cond.laysStatic "jdk/internal/util/Preconditions" "SIOOBE_FORMATTER" "Ljava/util/function/BiFunction;" ∈ lw_tbl := List.mem_append_right _ (List.mem_append_right _ (List.mem_append_left _ (List.mem_of_getElem? (i := 110) rfl)))
theorem tw_351 : Jvm.Cond.methodLink "java/lang/String" (1059 : Nat) ({ cls := "jdk/internal/util/Preconditions", name := "checkIndex", desc := "(IILjava/util/function/BiFunction;)I" } : Jvm.MethodName) ∈ tg := tg_of (List.mem_append_right _ (List.mem_append_right _ (List.mem_append_left _ (List.mem_of_getElem? (i := 111) rfl)))) rfl
theorem tw_352 : Jvm.Cond.static ({ cls := "jdk/internal/util/Preconditions", name := "checkIndex", desc := "(IILjava/util/function/BiFunction;)I" } : Jvm.MethodName) ∈ tg := tg_of (List.mem_append_right _ (List.mem_append_right _ (List.mem_append_left _ (List.mem_of_getElem? (i := 112) rfl)))) rfl
theorem tw_353 : Jvm.Cond.code ({ cls := "jdk/internal/util/Preconditions", name := "checkIndex", desc := "(IILjava/util/function/BiFunction;)I" } : Jvm.MethodName) prog_32_method_11_code (3 : Nat) (Option.some Jvm.ClassFile.FieldType.int) ∈ tg := tg_of (List.mem_append_right _ (List.mem_append_right _ (List.mem_append_left _ (List.mem_of_getElem? (i := 113) rfl)))) rfl
theorem tw_354 : Jvm.Cond.methodLink "java/lang/String" (498 : Nat) ({ cls := "java/lang/StringUTF16", name := "charAt", desc := "([BI)C" } : Jvm.MethodName) ∈ tg := tg_of (List.mem_append_right _ (List.mem_append_right _ (List.mem_append_left _ (List.mem_of_getElem? (i := 114) rfl)))) rfl
theorem tw_355 : Jvm.Cond.static ({ cls := "java/lang/StringUTF16", name := "charAt", desc := "([BI)C" } : Jvm.MethodName) ∈ tg := tg_of (List.mem_append_right _ (List.mem_append_right _ (List.mem_append_left _ (List.mem_of_getElem? (i := 115) rfl)))) rfl
theorem tw_356 : Jvm.Cond.code ({ cls := "java/lang/StringUTF16", name := "charAt", desc := "([BI)C" } : Jvm.MethodName) prog_20_method_83_code (2 : Nat) (Option.some Jvm.ClassFile.FieldType.char) ∈ tg := tg_of (List.mem_append_right _ (List.mem_append_right _ (List.mem_append_left _ (List.mem_of_getElem? (i := 116) rfl)))) rfl
theorem tw_357 : Jvm.Cond.methodLink "java/lang/StringUTF16" (67 : Nat) ({ cls := "java/lang/StringUTF16", name := "checkIndex", desc := "(I[B)V" } : Jvm.MethodName) ∈ tg := tg_of (List.mem_append_right _ (List.mem_append_right _ (List.mem_append_left _ (List.mem_of_getElem? (i := 117) rfl)))) rfl
theorem tw_358 : Jvm.Cond.static ({ cls := "java/lang/StringUTF16", name := "checkIndex", desc := "(I[B)V" } : Jvm.MethodName) ∈ tg := tg_of (List.mem_append_right _ (List.mem_append_right _ (List.mem_append_left _ (List.mem_of_getElem? (i := 118) rfl)))) rfl
theorem tw_359 : Jvm.Cond.code ({ cls := "java/lang/StringUTF16", name := "checkIndex", desc := "(I[B)V" } : Jvm.MethodName) prog_20_method_91_code (2 : Nat) (Option.none : Option Jvm.ClassFile.FieldType) ∈ tg := tg_of (List.mem_append_right _ (List.mem_append_right _ (List.mem_append_left _ (List.mem_of_getElem? (i := 119) rfl)))) rfl
theorem tw_360 : Jvm.Cond.methodLink "java/lang/StringUTF16" (48 : Nat) ({ cls := "java/lang/StringUTF16", name := "length", desc := "([B)I" } : Jvm.MethodName) ∈ tg := tg_of (List.mem_append_right _ (List.mem_append_right _ (List.mem_append_left _ (List.mem_of_getElem? (i := 120) rfl)))) rfl
theorem tw_361 : Jvm.Cond.static ({ cls := "java/lang/StringUTF16", name := "length", desc := "([B)I" } : Jvm.MethodName) ∈ tg := tg_of (List.mem_append_right _ (List.mem_append_right _ (List.mem_append_left _ (List.mem_of_getElem? (i := 121) rfl)))) rfl
theorem tw_362 : Jvm.Cond.code ({ cls := "java/lang/StringUTF16", name := "length", desc := "([B)I" } : Jvm.MethodName) prog_20_method_6_code (1 : Nat) (Option.some Jvm.ClassFile.FieldType.int) ∈ tg := tg_of (List.mem_append_right _ (List.mem_append_right _ (List.mem_append_left _ (List.mem_of_getElem? (i := 122) rfl)))) rfl
theorem tw_363 : Jvm.Cond.methodLink "java/lang/StringUTF16" (414 : Nat) ({ cls := "java/lang/String", name := "checkIndex", desc := "(II)V" } : Jvm.MethodName) ∈ tg := tg_of (List.mem_append_right _ (List.mem_append_right _ (List.mem_append_left _ (List.mem_of_getElem? (i := 123) rfl)))) rfl
theorem tw_364 : Jvm.Cond.methodLink "java/lang/StringUTF16" (71 : Nat) ({ cls := "java/lang/StringUTF16", name := "getChar", desc := "([BI)C" } : Jvm.MethodName) ∈ tg := tg_of (List.mem_append_right _ (List.mem_append_right _ (List.mem_append_left _ (List.mem_of_getElem? (i := 124) rfl)))) rfl
theorem tw_365 : Jvm.Cond.static ({ cls := "java/lang/StringUTF16", name := "getChar", desc := "([BI)C" } : Jvm.MethodName) ∈ tg := tg_of (List.mem_append_right _ (List.mem_append_right _ (List.mem_append_left _ (List.mem_of_getElem? (i := 125) rfl)))) rfl
theorem tw_366 : Jvm.Cond.code ({ cls := "java/lang/StringUTF16", name := "getChar", desc := "([BI)C" } : Jvm.MethodName) prog_20_method_5_code (2 : Nat) (Option.some Jvm.ClassFile.FieldType.char) ∈ tg := tg_of (List.mem_append_right _ (List.mem_append_right _ (List.mem_append_left _ (List.mem_of_getElem? (i := 126) rfl)))) rfl
theorem tw_367 : Jvm.Cond.fieldLink "java/lang/StringUTF16" (44 : Nat) "java/lang/StringUTF16" "$assertionsDisabled" "Z" ∈ tg := tg_of (List.mem_append_right _ (List.mem_append_right _ (List.mem_append_left _ (List.mem_of_getElem? (i := 127) rfl)))) rfl
theorem tz_368 : Jvm.Cond.laysStatic "java/lang/StringUTF16" "$assertionsDisabled" "Z" ∈ lw_tbl := List.mem_append_right _ (List.mem_append_right _ (List.mem_append_left _ (List.mem_of_getElem? (i := 128) rfl)))
theorem tw_369 : Jvm.Cond.fieldLink "java/lang/StringUTF16" (59 : Nat) "java/lang/StringUTF16" "HI_BYTE_SHIFT" "I" ∈ tg := tg_of (List.mem_append_right _ (List.mem_append_right _ (List.mem_append_left _ (List.mem_of_getElem? (i := 129) rfl)))) rfl
theorem tz_370 : Jvm.Cond.laysStatic "java/lang/StringUTF16" "HI_BYTE_SHIFT" "I" ∈ lw_tbl := List.mem_append_right _ (List.mem_append_right _ (List.mem_append_left _ (List.mem_of_getElem? (i := 130) rfl)))
theorem tw_371 : Jvm.Cond.fieldLink "java/lang/StringUTF16" (63 : Nat) "java/lang/StringUTF16" "LO_BYTE_SHIFT" "I" ∈ tg := tg_of (List.mem_append_right _ (List.mem_append_right _ (List.mem_append_left _ (List.mem_of_getElem? (i := 131) rfl)))) rfl
theorem tz_372 : Jvm.Cond.laysStatic "java/lang/StringUTF16" "LO_BYTE_SHIFT" "I" ∈ lw_tbl := List.mem_append_right _ (List.mem_append_right _ (List.mem_append_left _ (List.mem_of_getElem? (i := 132) rfl)))
theorem tw_373 : Jvm.Cond.methodLink "BaselineText$Reader" (89 : Nat) ({ cls := "BaselineText$Line", name := "toNextWord", desc := "()V" } : Jvm.MethodName) ∈ tg := tg_of (List.mem_append_right _ (List.mem_append_right _ (List.mem_append_left _ (List.mem_of_getElem? (i := 133) rfl)))) rfl
theorem tz_374 : Jvm.Cond.stringRef "BaselineText$Reader" (92 : Nat) "1" ∈ lw_tbl := List.mem_append_right _ (List.mem_append_right _ (List.mem_append_left _ (List.mem_of_getElem? (i := 134) rfl)))
theorem tz_375 : Jvm.Cond.stringRef "BaselineText$Reader" (94 : Nat) "2" ∈ lw_tbl := List.mem_append_right _ (List.mem_append_right _ (List.mem_append_left _ (List.mem_of_getElem? (i := 135) rfl)))
theorem tw_376 : Jvm.Cond.methodLink "BaselineText$Reader" (96 : Nat) ({ cls := "BaselineText$Line", name := "hasWord", desc := "()Z" } : Jvm.MethodName) ∈ tg := tg_of (List.mem_append_right _ (List.mem_append_right _ (List.mem_append_left _ (List.mem_of_getElem? (i := 136) rfl)))) rfl
theorem tw_377 : Jvm.Cond.methodLink "BaselineText$Reader" (62 : Nat) ({ cls := "BaselineText$Line", name := "toFirstWord", desc := "()V" } : Jvm.MethodName) ∈ tg := tg_of (List.mem_append_right _ (List.mem_append_right _ (List.mem_append_left _ (List.mem_of_getElem? (i := 137) rfl)))) rfl
theorem tw_378 : Jvm.Cond.methodLink "BaselineText$Reader" (50 : Nat) ({ cls := "BaselineText$Line", name := "place", desc := "()I" } : Jvm.MethodName) ∈ tg := tg_of (List.mem_append_right _ (List.mem_append_right _ (List.mem_append_left _ (List.mem_of_getElem? (i := 138) rfl)))) rfl
theorem tw_379 : Jvm.Cond.instanceMethod ({ cls := "BaselineText$Line", name := "place", desc := "()I" } : Jvm.MethodName) ∈ tg := tg_of (List.mem_append_right _ (List.mem_append_right _ (List.mem_append_left _ (List.mem_of_getElem? (i := 139) rfl)))) rfl
theorem tw_380 : Jvm.Cond.selects "BaselineText$Line" ({ cls := "BaselineText$Line", name := "place", desc := "()I" } : Jvm.MethodName) ({ cls := "BaselineText$Line", name := "place", desc := "()I" } : Jvm.MethodName) ∈ tg := tg_of (List.mem_append_right _ (List.mem_append_right _ (List.mem_append_left _ (List.mem_of_getElem? (i := 140) rfl)))) rfl
theorem tw_381 : Jvm.Cond.code ({ cls := "BaselineText$Line", name := "place", desc := "()I" } : Jvm.MethodName) prog_6_method_6_code (1 : Nat) (Option.some Jvm.ClassFile.FieldType.int) ∈ tg := tg_of (List.mem_append_right _ (List.mem_append_right _ (List.mem_append_left _ (List.mem_of_getElem? (i := 141) rfl)))) rfl
theorem tw_382 : Jvm.Cond.methodLink "BaselineText$Reader" (71 : Nat) ({ cls := "BaselineText$Diagnostics", name := "add", desc := "(III)V" } : Jvm.MethodName) ∈ tg := tg_of (List.mem_append_right _ (List.mem_append_right _ (List.mem_append_left _ (List.mem_of_getElem? (i := 142) rfl)))) rfl
theorem tw_383 : Jvm.Cond.instanceMethod ({ cls := "BaselineText$Diagnostics", name := "add", desc := "(III)V" } : Jvm.MethodName) ∈ tg := tg_of (List.mem_append_right _ (List.mem_append_right _ (List.mem_append_left _ (List.mem_of_getElem? (i := 143) rfl)))) rfl
theorem tw_384 : Jvm.Cond.selects "BaselineText$Diagnostics" ({ cls := "BaselineText$Diagnostics", name := "add", desc := "(III)V" } : Jvm.MethodName) ({ cls := "BaselineText$Diagnostics", name := "add", desc := "(III)V" } : Jvm.MethodName) ∈ tg := tg_of (List.mem_append_right _ (List.mem_append_right _ (List.mem_append_left _ (List.mem_of_getElem? (i := 144) rfl)))) rfl
theorem tw_385 : Jvm.Cond.code ({ cls := "BaselineText$Diagnostics", name := "add", desc := "(III)V" } : Jvm.MethodName) prog_4_method_5_code (4 : Nat) (Option.none : Option Jvm.ClassFile.FieldType) ∈ tg := tg_of (List.mem_append_right _ (List.mem_append_right _ (List.mem_append_left _ (List.mem_of_getElem? (i := 145) rfl)))) rfl
theorem tw_386 : Jvm.Cond.methodLink "BaselineText$Reader" (58 : Nat) ({ cls := "BaselineText$Reader", name := "readWords", desc := "(Z)I" } : Jvm.MethodName) ∈ tg := tg_of (List.mem_append_right _ (List.mem_append_right _ (List.mem_append_left _ (List.mem_of_getElem? (i := 146) rfl)))) rfl
theorem tz_387 : Jvm.Cond.privateMethod ({ cls := "BaselineText$Reader", name := "readWords", desc := "(Z)I" } : Jvm.MethodName) ∈ lw_tbl := List.mem_append_right _ (List.mem_append_right _ (List.mem_append_left _ (List.mem_of_getElem? (i := 147) rfl)))
theorem tw_388 : Jvm.Cond.instanceMethod ({ cls := "BaselineText$Reader", name := "readWords", desc := "(Z)I" } : Jvm.MethodName) ∈ tg := tg_of (List.mem_append_right _ (List.mem_append_right _ (List.mem_append_left _ (List.mem_of_getElem? (i := 148) rfl)))) rfl
theorem tw_389 : Jvm.Cond.code ({ cls := "BaselineText$Reader", name := "readWords", desc := "(Z)I" } : Jvm.MethodName) prog_7_method_5_code (3 : Nat) (Option.some Jvm.ClassFile.FieldType.int) ∈ tg := tg_of (List.mem_append_right _ (List.mem_append_right _ (List.mem_append_left _ (List.mem_of_getElem? (i := 149) rfl)))) rfl
theorem tw_390 : Jvm.Cond.methodLink "BaselineText$Reader" (104 : Nat) ({ cls := "BaselineText$Reader", name := "readMarks", desc := "(Z)Z" } : Jvm.MethodName) ∈ tg := tg_of (List.mem_append_right _ (List.mem_append_right _ (List.mem_append_left _ (List.mem_of_getElem? (i := 150) rfl)))) rfl
theorem tz_391 : Jvm.Cond.privateMethod ({ cls := "BaselineText$Reader", name := "readMarks", desc := "(Z)Z" } : Jvm.MethodName) ∈ lw_tbl := List.mem_append_right _ (List.mem_append_right _ (List.mem_append_left _ (List.mem_of_getElem? (i := 151) rfl)))
theorem tw_392 : Jvm.Cond.instanceMethod ({ cls := "BaselineText$Reader", name := "readMarks", desc := "(Z)Z" } : Jvm.MethodName) ∈ tg := tg_of (List.mem_append_right _ (List.mem_append_right _ (List.mem_append_left _ (List.mem_of_getElem? (i := 152) rfl)))) rfl
theorem tw_393 : Jvm.Cond.code ({ cls := "BaselineText$Reader", name := "readMarks", desc := "(Z)Z" } : Jvm.MethodName) prog_7_method_6_code (4 : Nat) (Option.some Jvm.ClassFile.FieldType.boolean) ∈ tg := tg_of (List.mem_append_right _ (List.mem_append_right _ (List.mem_append_left _ (List.mem_of_getElem? (i := 153) rfl)))) rfl
theorem tw_394 : Jvm.Cond.methodLink "BaselineText$Reader" (146 : Nat) ({ cls := "BaselineText$Vocabulary", name := "marks", desc := "(Z)I" } : Jvm.MethodName) ∈ tg := tg_of (List.mem_append_right _ (List.mem_append_right _ (List.mem_append_left _ (List.mem_of_getElem? (i := 154) rfl)))) rfl
theorem tw_395 : Jvm.Cond.static ({ cls := "BaselineText$Vocabulary", name := "marks", desc := "(Z)I" } : Jvm.MethodName) ∈ tg := tg_of (List.mem_append_right _ (List.mem_append_right _ (List.mem_append_left _ (List.mem_of_getElem? (i := 155) rfl)))) rfl
theorem tw_396 : Jvm.Cond.code ({ cls := "BaselineText$Vocabulary", name := "marks", desc := "(Z)I" } : Jvm.MethodName) prog_11_method_2_code (1 : Nat) (Option.some Jvm.ClassFile.FieldType.int) ∈ tg := tg_of (List.mem_append_right _ (List.mem_append_right _ (List.mem_append_left _ (List.mem_of_getElem? (i := 156) rfl)))) rfl
theorem tw_397 : Jvm.Cond.methodLink "BaselineText$Reader" (150 : Nat) ({ cls := "BaselineText$Reader", name := "markHere", desc := "(Z)I" } : Jvm.MethodName) ∈ tg := tg_of (List.mem_append_right _ (List.mem_append_right _ (List.mem_append_left _ (List.mem_of_getElem? (i := 157) rfl)))) rfl
theorem tz_398 : Jvm.Cond.privateMethod ({ cls := "BaselineText$Reader", name := "markHere", desc := "(Z)I" } : Jvm.MethodName) ∈ lw_tbl := List.mem_append_right _ (List.mem_append_right _ (List.mem_append_left _ (List.mem_of_getElem? (i := 158) rfl)))
theorem tw_399 : Jvm.Cond.instanceMethod ({ cls := "BaselineText$Reader", name := "markHere", desc := "(Z)I" } : Jvm.MethodName) ∈ tg := tg_of (List.mem_append_right _ (List.mem_append_right _ (List.mem_append_left _ (List.mem_of_getElem? (i := 159) rfl)))) rfl
theorem tw_400 : Jvm.Cond.code ({ cls := "BaselineText$Reader", name := "markHere", desc := "(Z)I" } : Jvm.MethodName) prog_7_method_7_code (3 : Nat) (Option.some Jvm.ClassFile.FieldType.int) ∈ tg := tg_of (List.mem_append_right _ (List.mem_append_right _ (List.mem_append_left _ (List.mem_of_getElem? (i := 160) rfl)))) rfl
theorem tw_401 : Jvm.Cond.methodLink "BaselineText$Reader" (153 : Nat) ({ cls := "BaselineText$Vocabulary", name := "mark", desc := "(ZI)Ljava/lang/String;" } : Jvm.MethodName) ∈ tg := tg_of (List.mem_append_right _ (List.mem_append_right _ (List.mem_append_left _ (List.mem_of_getElem? (i := 161) rfl)))) rfl
theorem tw_402 : Jvm.Cond.static ({ cls := "BaselineText$Vocabulary", name := "mark", desc := "(ZI)Ljava/lang/String;" } : Jvm.MethodName) ∈ tg := tg_of (List.mem_append_right _ (List.mem_append_right _ (List.mem_append_left _ (List.mem_of_getElem? (i := 162) rfl)))) rfl
theorem tw_403 : Jvm.Cond.code ({ cls := "BaselineText$Vocabulary", name := "mark", desc := "(ZI)Ljava/lang/String;" } : Jvm.MethodName) prog_11_method_4_code (2 : Nat) (Option.some (Jvm.ClassFile.FieldType.object "java/lang/String")) ∈ tg := tg_of (List.mem_append_right _ (List.mem_append_right _ (List.mem_append_left _ (List.mem_of_getElem? (i := 163) rfl)))) rfl
theorem tw_404 : Jvm.Cond.methodLink "BaselineText$Vocabulary" (9 : Nat) ({ cls := "BaselineText$Vocabulary", name := "memberMark", desc := "(I)Ljava/lang/String;" } : Jvm.MethodName) ∈ tg := tg_of (List.mem_append_right _ (List.mem_append_right _ (List.mem_append_left _ (List.mem_of_getElem? (i := 164) rfl)))) rfl
theorem tw_405 : Jvm.Cond.static ({ cls := "BaselineText$Vocabulary", name := "memberMark", desc := "(I)Ljava/lang/String;" } : Jvm.MethodName) ∈ tg := tg_of (List.mem_append_right _ (List.mem_append_right _ (List.mem_append_left _ (List.mem_of_getElem? (i := 165) rfl)))) rfl
theorem tw_406 : Jvm.Cond.code ({ cls := "BaselineText$Vocabulary", name := "memberMark", desc := "(I)Ljava/lang/String;" } : Jvm.MethodName) prog_11_method_7_code (1 : Nat) (Option.some (Jvm.ClassFile.FieldType.object "java/lang/String")) ∈ tg := tg_of (List.mem_append_right _ (List.mem_append_right _ (List.mem_append_left _ (List.mem_of_getElem? (i := 166) rfl)))) rfl
theorem tz_407 : Jvm.Cond.stringRef "BaselineText$Vocabulary" (24 : Nat) "public" ∈ lw_tbl := List.mem_append_right _ (List.mem_append_right _ (List.mem_append_left _ (List.mem_of_getElem? (i := 167) rfl)))
theorem tz_408 : Jvm.Cond.stringRef "BaselineText$Vocabulary" (30 : Nat) "protected" ∈ lw_tbl := List.mem_append_right _ (List.mem_append_right _ (List.mem_append_left _ (List.mem_of_getElem? (i := 168) rfl)))
theorem tz_409 : Jvm.Cond.stringRef "BaselineText$Vocabulary" (32 : Nat) "static" ∈ lw_tbl := List.mem_append_right _ (List.mem_append_right _ (List.mem_append_left _ (List.mem_of_getElem? (i := 169) rfl)))
theorem tz_410 : Jvm.Cond.stringRef "BaselineText$Vocabulary" (28 : Nat) "final" ∈ lw_tbl := List.mem_append_right _ (List.mem_append_right _ (List.mem_append_left _ (List.mem_of_getElem? (i := 170) rfl)))
theorem tz_411 : Jvm.Cond.stringRef "BaselineText$Vocabulary" (26 : Nat) "abstract" ∈ lw_tbl := List.mem_append_right _ (List.mem_append_right _ (List.mem_append_left _ (List.mem_of_getElem? (i := 171) rfl)))
theorem tw_412 : Jvm.Cond.methodLink "BaselineText$Vocabulary" (15 : Nat) ({ cls := "BaselineText$Vocabulary", name := "typeMark", desc := "(I)Ljava/lang/String;" } : Jvm.MethodName) ∈ tg := tg_of (List.mem_append_right _ (List.mem_append_right _ (List.mem_append_left _ (List.mem_of_getElem? (i := 172) rfl)))) rfl
theorem tw_413 : Jvm.Cond.static ({ cls := "BaselineText$Vocabulary", name := "typeMark", desc := "(I)Ljava/lang/String;" } : Jvm.MethodName) ∈ tg := tg_of (List.mem_append_right _ (List.mem_append_right _ (List.mem_append_left _ (List.mem_of_getElem? (i := 173) rfl)))) rfl
theorem tw_414 : Jvm.Cond.code ({ cls := "BaselineText$Vocabulary", name := "typeMark", desc := "(I)Ljava/lang/String;" } : Jvm.MethodName) prog_11_method_6_code (1 : Nat) (Option.some (Jvm.ClassFile.FieldType.object "java/lang/String")) ∈ tg := tg_of (List.mem_append_right _ (List.mem_append_right _ (List.mem_append_left _ (List.mem_of_getElem? (i := 174) rfl)))) rfl
theorem tw_415 : Jvm.Cond.methodLink "BaselineText$Reader" (108 : Nat) ({ cls := "BaselineText$Reader", name := "kindHere", desc := "(Z)I" } : Jvm.MethodName) ∈ tg := tg_of (List.mem_append_right _ (List.mem_append_right _ (List.mem_append_left _ (List.mem_of_getElem? (i := 175) rfl)))) rfl
theorem tz_416 : Jvm.Cond.privateMethod ({ cls := "BaselineText$Reader", name := "kindHere", desc := "(Z)I" } : Jvm.MethodName) ∈ lw_tbl := List.mem_append_right _ (List.mem_append_right _ (List.mem_append_left _ (List.mem_of_getElem? (i := 176) rfl)))
theorem tw_417 : Jvm.Cond.instanceMethod ({ cls := "BaselineText$Reader", name := "kindHere", desc := "(Z)I" } : Jvm.MethodName) ∈ tg := tg_of (List.mem_append_right _ (List.mem_append_right _ (List.mem_append_left _ (List.mem_of_getElem? (i := 177) rfl)))) rfl
theorem tw_418 : Jvm.Cond.code ({ cls := "BaselineText$Reader", name := "kindHere", desc := "(Z)I" } : Jvm.MethodName) prog_7_method_8_code (3 : Nat) (Option.some Jvm.ClassFile.FieldType.int) ∈ tg := tg_of (List.mem_append_right _ (List.mem_append_right _ (List.mem_append_left _ (List.mem_of_getElem? (i := 178) rfl)))) rfl
theorem tw_419 : Jvm.Cond.methodLink "BaselineText$Reader" (157 : Nat) ({ cls := "BaselineText$Vocabulary", name := "kinds", desc := "(Z)I" } : Jvm.MethodName) ∈ tg := tg_of (List.mem_append_right _ (List.mem_append_right _ (List.mem_append_left _ (List.mem_of_getElem? (i := 179) rfl)))) rfl
theorem tw_420 : Jvm.Cond.static ({ cls := "BaselineText$Vocabulary", name := "kinds", desc := "(Z)I" } : Jvm.MethodName) ∈ tg := tg_of (List.mem_append_right _ (List.mem_append_right _ (List.mem_append_left _ (List.mem_of_getElem? (i := 180) rfl)))) rfl
theorem tw_421 : Jvm.Cond.code ({ cls := "BaselineText$Vocabulary", name := "kinds", desc := "(Z)I" } : Jvm.MethodName) prog_11_method_3_code (1 : Nat) (Option.some Jvm.ClassFile.FieldType.int) ∈ tg := tg_of (List.mem_append_right _ (List.mem_append_right _ (List.mem_append_left _ (List.mem_of_getElem? (i := 181) rfl)))) rfl
theorem tw_422 : Jvm.Cond.methodLink "BaselineText$Reader" (160 : Nat) ({ cls := "BaselineText$Vocabulary", name := "kind", desc := "(ZI)Ljava/lang/String;" } : Jvm.MethodName) ∈ tg := tg_of (List.mem_append_right _ (List.mem_append_right _ (List.mem_append_left _ (List.mem_of_getElem? (i := 182) rfl)))) rfl
theorem tw_423 : Jvm.Cond.static ({ cls := "BaselineText$Vocabulary", name := "kind", desc := "(ZI)Ljava/lang/String;" } : Jvm.MethodName) ∈ tg := tg_of (List.mem_append_right _ (List.mem_append_right _ (List.mem_append_left _ (List.mem_of_getElem? (i := 183) rfl)))) rfl
theorem tw_424 : Jvm.Cond.code ({ cls := "BaselineText$Vocabulary", name := "kind", desc := "(ZI)Ljava/lang/String;" } : Jvm.MethodName) prog_11_method_5_code (2 : Nat) (Option.some (Jvm.ClassFile.FieldType.object "java/lang/String")) ∈ tg := tg_of (List.mem_append_right _ (List.mem_append_right _ (List.mem_append_left _ (List.mem_of_getElem? (i := 184) rfl)))) rfl
theorem tw_425 : Jvm.Cond.methodLink "BaselineText$Vocabulary" (18 : Nat) ({ cls := "BaselineText$Vocabulary", name := "memberKind", desc := "(I)Ljava/lang/String;" } : Jvm.MethodName) ∈ tg := tg_of (List.mem_append_right _ (List.mem_append_right _ (List.mem_append_left _ (List.mem_of_getElem? (i := 185) rfl)))) rfl
theorem tw_426 : Jvm.Cond.static ({ cls := "BaselineText$Vocabulary", name := "memberKind", desc := "(I)Ljava/lang/String;" } : Jvm.MethodName) ∈ tg := tg_of (List.mem_append_right _ (List.mem_append_right _ (List.mem_append_left _ (List.mem_of_getElem? (i := 186) rfl)))) rfl
theorem tw_427 : Jvm.Cond.code ({ cls := "BaselineText$Vocabulary", name := "memberKind", desc := "(I)Ljava/lang/String;" } : Jvm.MethodName) prog_11_method_9_code (1 : Nat) (Option.some (Jvm.ClassFile.FieldType.object "java/lang/String")) ∈ tg := tg_of (List.mem_append_right _ (List.mem_append_right _ (List.mem_append_left _ (List.mem_of_getElem? (i := 187) rfl)))) rfl
theorem tz_428 : Jvm.Cond.stringRef "BaselineText$Vocabulary" (42 : Nat) "method" ∈ lw_tbl := List.mem_append_right _ (List.mem_append_right _ (List.mem_append_left _ (List.mem_of_getElem? (i := 188) rfl)))
theorem tz_429 : Jvm.Cond.stringRef "BaselineText$Vocabulary" (44 : Nat) "field" ∈ lw_tbl := List.mem_append_right _ (List.mem_append_right _ (List.mem_append_left _ (List.mem_of_getElem? (i := 189) rfl)))
theorem tw_430 : Jvm.Cond.methodLink "BaselineText$Vocabulary" (21 : Nat) ({ cls := "BaselineText$Vocabulary", name := "typeKind", desc := "(I)Ljava/lang/String;" } : Jvm.MethodName) ∈ tg := tg_of (List.mem_append_right _ (List.mem_append_right _ (List.mem_append_left _ (List.mem_of_getElem? (i := 190) rfl)))) rfl
theorem tw_431 : Jvm.Cond.static ({ cls := "BaselineText$Vocabulary", name := "typeKind", desc := "(I)Ljava/lang/String;" } : Jvm.MethodName) ∈ tg := tg_of (List.mem_append_right _ (List.mem_append_right _ (List.mem_append_left _ (List.mem_of_getElem? (i := 191) rfl)))) rfl
theorem tw_432 : Jvm.Cond.code ({ cls := "BaselineText$Vocabulary", name := "typeKind", desc := "(I)Ljava/lang/String;" } : Jvm.MethodName) prog_11_method_8_code (1 : Nat) (Option.some (Jvm.ClassFile.FieldType.object "java/lang/String")) ∈ tg := tg_of (List.mem_append_right _ (List.mem_append_right _ (List.mem_append_left _ (List.mem_of_getElem? (i := 192) rfl)))) rfl
theorem tz_433 : Jvm.Cond.stringRef "BaselineText$Vocabulary" (34 : Nat) "class" ∈ lw_tbl := List.mem_append_right _ (List.mem_append_right _ (List.mem_append_left _ (List.mem_of_getElem? (i := 193) rfl)))
theorem tz_434 : Jvm.Cond.stringRef "BaselineText$Vocabulary" (36 : Nat) "interface" ∈ lw_tbl := List.mem_append_right _ (List.mem_append_right _ (List.mem_append_left _ (List.mem_of_getElem? (i := 194) rfl)))
theorem tz_435 : Jvm.Cond.stringRef "BaselineText$Vocabulary" (38 : Nat) "enum" ∈ lw_tbl := List.mem_append_right _ (List.mem_append_right _ (List.mem_append_left _ (List.mem_of_getElem? (i := 195) rfl)))
theorem tz_436 : Jvm.Cond.stringRef "BaselineText$Vocabulary" (40 : Nat) "record" ∈ lw_tbl := List.mem_append_right _ (List.mem_append_right _ (List.mem_append_left _ (List.mem_of_getElem? (i := 196) rfl)))
theorem tw_437 : Jvm.Cond.methodLink "BaselineText$Reader" (118 : Nat) ({ cls := "BaselineText$Line", name := "copyName", desc := "(LBaselineText$Row;I)V" } : Jvm.MethodName) ∈ tg := tg_of (List.mem_append_right _ (List.mem_append_right _ (List.mem_append_left _ (List.mem_of_getElem? (i := 197) rfl)))) rfl
theorem tw_438 : Jvm.Cond.instanceMethod ({ cls := "BaselineText$Line", name := "copyName", desc := "(LBaselineText$Row;I)V" } : Jvm.MethodName) ∈ tg := tg_of (List.mem_append_right _ (List.mem_append_right _ (List.mem_append_left _ (List.mem_of_getElem? (i := 198) rfl)))) rfl
theorem tw_439 : Jvm.Cond.selects "BaselineText$Line" ({ cls := "BaselineText$Line", name := "copyName", desc := "(LBaselineText$Row;I)V" } : Jvm.MethodName) ({ cls := "BaselineText$Line", name := "copyName", desc := "(LBaselineText$Row;I)V" } : Jvm.MethodName) ∈ tg := tg_of (List.mem_append_right _ (List.mem_append_right _ (List.mem_append_left _ (List.mem_of_getElem? (i := 199) rfl)))) rfl
theorem tw_440 : Jvm.Cond.code ({ cls := "BaselineText$Line", name := "copyName", desc := "(LBaselineText$Row;I)V" } : Jvm.MethodName) prog_6_method_9_code (8 : Nat) (Option.none : Option Jvm.ClassFile.FieldType) ∈ tg := tg_of (List.mem_append_right _ (List.mem_append_right _ (List.mem_append_left _ (List.mem_of_getElem? (i := 200) rfl)))) rfl
theorem tw_441 : Jvm.Cond.methodLink "BaselineText$Line" (54 : Nat) ({ cls := "BaselineText$Row", name := "empty", desc := "()V" } : Jvm.MethodName) ∈ tg := tg_of (List.mem_append_right _ (List.mem_append_right _ (List.mem_append_left _ (List.mem_of_getElem? (i := 201) rfl)))) rfl
theorem tw_442 : Jvm.Cond.methodLink "BaselineText$Line" (57 : Nat) ({ cls := "BaselineText$Row", name := "add", desc := "(I)V" } : Jvm.MethodName) ∈ tg := tg_of (List.mem_append_right _ (List.mem_append_right _ (List.mem_append_left _ (List.mem_of_getElem? (i := 202) rfl)))) rfl
theorem tw_443 : Jvm.Cond.methodLink "BaselineText$Reader" (122 : Nat) ({ cls := "BaselineText$Grammar", name := "isName", desc := "(LBaselineText$Row;ZI)Z" } : Jvm.MethodName) ∈ tg := tg_of (List.mem_append_right _ (List.mem_append_right _ (List.mem_append_left _ (List.mem_of_getElem? (i := 203) rfl)))) rfl
theorem tw_444 : Jvm.Cond.static ({ cls := "BaselineText$Grammar", name := "isName", desc := "(LBaselineText$Row;ZI)Z" } : Jvm.MethodName) ∈ tg := tg_of (List.mem_append_right _ (List.mem_append_right _ (List.mem_append_left _ (List.mem_of_getElem? (i := 204) rfl)))) rfl
theorem tw_445 : Jvm.Cond.code ({ cls := "BaselineText$Grammar", name := "isName", desc := "(LBaselineText$Row;ZI)Z" } : Jvm.MethodName) prog_5_method_2_code (4 : Nat) (Option.some Jvm.ClassFile.FieldType.boolean) ∈ tg := tg_of (List.mem_append_right _ (List.mem_append_right _ (List.mem_append_left _ (List.mem_of_getElem? (i := 205) rfl)))) rfl
theorem tz_446 : Jvm.Cond.stringRef "BaselineText$Grammar" (9 : Nat) "<init>" ∈ lw_tbl := List.mem_append_right _ (List.mem_append_right _ (List.mem_append_left _ (List.mem_of_getElem? (i := 206) rfl)))
theorem tw_447 : Jvm.Cond.methodLink "BaselineText$Grammar" (10 : Nat) ({ cls := "BaselineText$Row", name := "isWord", desc := "(Ljava/lang/String;)Z" } : Jvm.MethodName) ∈ tg := tg_of (List.mem_append_right _ (List.mem_append_right _ (List.mem_append_left _ (List.mem_of_getElem? (i := 207) rfl)))) rfl
theorem tw_448 : Jvm.Cond.instanceMethod ({ cls := "BaselineText$Row", name := "isWord", desc := "(Ljava/lang/String;)Z" } : Jvm.MethodName) ∈ tg := tg_of (List.mem_append_right _ (List.mem_append_right _ (List.mem_append_left _ (List.mem_of_getElem? (i := 208) rfl)))) rfl
theorem tw_449 : Jvm.Cond.selects "BaselineText$Row" ({ cls := "BaselineText$Row", name := "isWord", desc := "(Ljava/lang/String;)Z" } : Jvm.MethodName) ({ cls := "BaselineText$Row", name := "isWord", desc := "(Ljava/lang/String;)Z" } : Jvm.MethodName) ∈ tg := tg_of (List.mem_append_right _ (List.mem_append_right _ (List.mem_append_left _ (List.mem_of_getElem? (i := 209) rfl)))) rfl
theorem tw_450 : Jvm.Cond.code ({ cls := "BaselineText$Row", name := "isWord", desc := "(Ljava/lang/String;)Z" } : Jvm.MethodName) prog_8_method_11_code (3 : Nat) (Option.some Jvm.ClassFile.FieldType.boolean) ∈ tg := tg_of (List.mem_append_right _ (List.mem_append_right _ (List.mem_append_left _ (List.mem_of_getElem? (i := 210) rfl)))) rfl
theorem tw_451 : Jvm.Cond.methodLink "BaselineText$Row" (23 : Nat) ({ cls := "java/lang/String", name := "length", desc := "()I" } : Jvm.MethodName) ∈ tg := tg_of (List.mem_append_right _ (List.mem_append_right _ (List.mem_append_left _ (List.mem_of_getElem? (i := 211) rfl)))) rfl
theorem tw_452 : Jvm.Cond.methodLink "BaselineText$Row" (28 : Nat) ({ cls := "java/lang/String", name := "charAt", desc := "(I)C" } : Jvm.MethodName) ∈ tg := tg_of (List.mem_append_right _ (List.mem_append_right _ (List.mem_append_left _ (List.mem_of_getElem? (i := 212) rfl)))) rfl
theorem tw_453 : Jvm.Cond.methodLink "BaselineText$Grammar" (18 : Nat) ({ cls := "BaselineText$Row", name := "fits", desc := "()Z" } : Jvm.MethodName) ∈ tg := tg_of (List.mem_append_right _ (List.mem_append_right _ (List.mem_append_left _ (List.mem_of_getElem? (i := 213) rfl)))) rfl
theorem tw_454 : Jvm.Cond.instanceMethod ({ cls := "BaselineText$Row", name := "fits", desc := "()Z" } : Jvm.MethodName) ∈ tg := tg_of (List.mem_append_right _ (List.mem_append_right _ (List.mem_append_left _ (List.mem_of_getElem? (i := 214) rfl)))) rfl
theorem tw_455 : Jvm.Cond.selects "BaselineText$Row" ({ cls := "BaselineText$Row", name := "fits", desc := "()Z" } : Jvm.MethodName) ({ cls := "BaselineText$Row", name := "fits", desc := "()Z" } : Jvm.MethodName) ∈ tg := tg_of (List.mem_append_right _ (List.mem_append_right _ (List.mem_append_left _ (List.mem_of_getElem? (i := 215) rfl)))) rfl
theorem tw_456 : Jvm.Cond.code ({ cls := "BaselineText$Row", name := "fits", desc := "()Z" } : Jvm.MethodName) prog_8_method_3_code (1 : Nat) (Option.some Jvm.ClassFile.FieldType.boolean) ∈ tg := tg_of (List.mem_append_right _ (List.mem_append_right _ (List.mem_append_left _ (List.mem_of_getElem? (i := 216) rfl)))) rfl
theorem tw_457 : Jvm.Cond.methodLink "BaselineText$Grammar" (22 : Nat) ({ cls := "BaselineText$Grammar", name := "nameEnd", desc := "(LBaselineText$Row;IC)I" } : Jvm.MethodName) ∈ tg := tg_of (List.mem_append_right _ (List.mem_append_right _ (List.mem_append_left _ (List.mem_of_getElem? (i := 217) rfl)))) rfl
theorem tw_458 : Jvm.Cond.static ({ cls := "BaselineText$Grammar", name := "nameEnd", desc := "(LBaselineText$Row;IC)I" } : Jvm.MethodName) ∈ tg := tg_of (List.mem_append_right _ (List.mem_append_right _ (List.mem_append_left _ (List.mem_of_getElem? (i := 218) rfl)))) rfl
theorem tw_459 : Jvm.Cond.code ({ cls := "BaselineText$Grammar", name := "nameEnd", desc := "(LBaselineText$Row;IC)I" } : Jvm.MethodName) prog_5_method_6_code (6 : Nat) (Option.some Jvm.ClassFile.FieldType.int) ∈ tg := tg_of (List.mem_append_right _ (List.mem_append_right _ (List.mem_append_left _ (List.mem_of_getElem? (i := 219) rfl)))) rfl
theorem tw_460 : Jvm.Cond.methodLink "BaselineText$Grammar" (26 : Nat) ({ cls := "BaselineText$Row", name := "length", desc := "()I" } : Jvm.MethodName) ∈ tg := tg_of (List.mem_append_right _ (List.mem_append_right _ (List.mem_append_left _ (List.mem_of_getElem? (i := 220) rfl)))) rfl
theorem tw_461 : Jvm.Cond.methodLink "BaselineText$Grammar" (34 : Nat) ({ cls := "BaselineText$Row", name := "at", desc := "(I)I" } : Jvm.MethodName) ∈ tg := tg_of (List.mem_append_right _ (List.mem_append_right _ (List.mem_append_left _ (List.mem_of_getElem? (i := 221) rfl)))) rfl
theorem tw_462 : Jvm.Cond.methodLink "BaselineText$Grammar" (42 : Nat) ({ cls := "BaselineText$Grammar", name := "isLetter", desc := "(I)Z" } : Jvm.MethodName) ∈ tg := tg_of (List.mem_append_right _ (List.mem_append_right _ (List.mem_append_left _ (List.mem_of_getElem? (i := 222) rfl)))) rfl
theorem tw_463 : Jvm.Cond.static ({ cls := "BaselineText$Grammar", name := "isLetter", desc := "(I)Z" } : Jvm.MethodName) ∈ tg := tg_of (List.mem_append_right _ (List.mem_append_right _ (List.mem_append_left _ (List.mem_of_getElem? (i := 223) rfl)))) rfl
theorem tw_464 : Jvm.Cond.code ({ cls := "BaselineText$Grammar", name := "isLetter", desc := "(I)Z" } : Jvm.MethodName) prog_5_method_7_code (1 : Nat) (Option.some Jvm.ClassFile.FieldType.boolean) ∈ tg := tg_of (List.mem_append_right _ (List.mem_append_right _ (List.mem_append_left _ (List.mem_of_getElem? (i := 224) rfl)))) rfl
theorem tw_465 : Jvm.Cond.methodLink "BaselineText$Grammar" (45 : Nat) ({ cls := "BaselineText$Grammar", name := "isDigit", desc := "(I)Z" } : Jvm.MethodName) ∈ tg := tg_of (List.mem_append_right _ (List.mem_append_right _ (List.mem_append_left _ (List.mem_of_getElem? (i := 225) rfl)))) rfl
theorem tw_466 : Jvm.Cond.static ({ cls := "BaselineText$Grammar", name := "isDigit", desc := "(I)Z" } : Jvm.MethodName) ∈ tg := tg_of (List.mem_append_right _ (List.mem_append_right _ (List.mem_append_left _ (List.mem_of_getElem? (i := 226) rfl)))) rfl
theorem tw_467 : Jvm.Cond.code ({ cls := "BaselineText$Grammar", name := "isDigit", desc := "(I)Z" } : Jvm.MethodName) prog_5_method_8_code (1 : Nat) (Option.some Jvm.ClassFile.FieldType.boolean) ∈ tg := tg_of (List.mem_append_right _ (List.mem_append_right _ (List.mem_append_left _ (List.mem_of_getElem? (i := 227) rfl)))) rfl
theorem tw_468 : Jvm.Cond.methodLink "BaselineText$Reader" (131 : Nat) ({ cls := "BaselineText$Row", name := "empty", desc := "()V" } : Jvm.MethodName) ∈ tg := tg_of (List.mem_append_right _ (List.mem_append_right _ (List.mem_append_left _ (List.mem_of_getElem? (i := 228) rfl)))) rfl
theorem tw_469 : Jvm.Cond.methodLink "BaselineText$Reader" (136 : Nat) ({ cls := "BaselineText$Grammar", name := "isMethodDescriptor", desc := "(LBaselineText$Row;)Z" } : Jvm.MethodName) ∈ tg := tg_of (List.mem_append_right _ (List.mem_append_right _ (List.mem_append_left _ (List.mem_of_getElem? (i := 229) rfl)))) rfl
theorem tw_470 : Jvm.Cond.static ({ cls := "BaselineText$Grammar", name := "isMethodDescriptor", desc := "(LBaselineText$Row;)Z" } : Jvm.MethodName) ∈ tg := tg_of (List.mem_append_right _ (List.mem_append_right _ (List.mem_append_left _ (List.mem_of_getElem? (i := 230) rfl)))) rfl
theorem tw_471 : Jvm.Cond.code ({ cls := "BaselineText$Grammar", name := "isMethodDescriptor", desc := "(LBaselineText$Row;)Z" } : Jvm.MethodName) prog_5_method_4_code (3 : Nat) (Option.some Jvm.ClassFile.FieldType.boolean) ∈ tg := tg_of (List.mem_append_right _ (List.mem_append_right _ (List.mem_append_left _ (List.mem_of_getElem? (i := 231) rfl)))) rfl
theorem tw_472 : Jvm.Cond.methodLink "BaselineText$Grammar" (30 : Nat) ({ cls := "BaselineText$Grammar", name := "fieldEnd", desc := "(LBaselineText$Row;I)I" } : Jvm.MethodName) ∈ tg := tg_of (List.mem_append_right _ (List.mem_append_right _ (List.mem_append_left _ (List.mem_of_getElem? (i := 232) rfl)))) rfl
theorem tw_473 : Jvm.Cond.static ({ cls := "BaselineText$Grammar", name := "fieldEnd", desc := "(LBaselineText$Row;I)I" } : Jvm.MethodName) ∈ tg := tg_of (List.mem_append_right _ (List.mem_append_right _ (List.mem_append_left _ (List.mem_of_getElem? (i := 233) rfl)))) rfl
theorem tw_474 : Jvm.Cond.code ({ cls := "BaselineText$Grammar", name := "fieldEnd", desc := "(LBaselineText$Row;I)I" } : Jvm.MethodName) prog_5_method_5_code (4 : Nat) (Option.some Jvm.ClassFile.FieldType.int) ∈ tg := tg_of (List.mem_append_right _ (List.mem_append_right _ (List.mem_append_left _ (List.mem_of_getElem? (i := 234) rfl)))) rfl
theorem tw_475 : Jvm.Cond.methodLink "BaselineText$Grammar" (38 : Nat) ({ cls := "BaselineText$Grammar", name := "isBase", desc := "(I)Z" } : Jvm.MethodName) ∈ tg := tg_of (List.mem_append_right _ (List.mem_append_right _ (List.mem_append_left _ (List.mem_of_getElem? (i := 235) rfl)))) rfl
theorem tw_476 : Jvm.Cond.static ({ cls := "BaselineText$Grammar", name := "isBase", desc := "(I)Z" } : Jvm.MethodName) ∈ tg := tg_of (List.mem_append_right _ (List.mem_append_right _ (List.mem_append_left _ (List.mem_of_getElem? (i := 236) rfl)))) rfl
theorem tw_477 : Jvm.Cond.code ({ cls := "BaselineText$Grammar", name := "isBase", desc := "(I)Z" } : Jvm.MethodName) prog_5_method_9_code (1 : Nat) (Option.some Jvm.ClassFile.FieldType.boolean) ∈ tg := tg_of (List.mem_append_right _ (List.mem_append_right _ (List.mem_append_left _ (List.mem_of_getElem? (i := 237) rfl)))) rfl
theorem tw_478 : Jvm.Cond.methodLink "BaselineText$Reader" (140 : Nat) ({ cls := "BaselineText$Grammar", name := "isFieldDescriptor", desc := "(LBaselineText$Row;)Z" } : Jvm.MethodName) ∈ tg := tg_of (List.mem_append_right _ (List.mem_append_right _ (List.mem_append_left _ (List.mem_of_getElem? (i := 238) rfl)))) rfl
theorem tw_479 : Jvm.Cond.static ({ cls := "BaselineText$Grammar", name := "isFieldDescriptor", desc := "(LBaselineText$Row;)Z" } : Jvm.MethodName) ∈ tg := tg_of (List.mem_append_right _ (List.mem_append_right _ (List.mem_append_left _ (List.mem_of_getElem? (i := 239) rfl)))) rfl
theorem tw_480 : Jvm.Cond.code ({ cls := "BaselineText$Grammar", name := "isFieldDescriptor", desc := "(LBaselineText$Row;)Z" } : Jvm.MethodName) prog_5_method_3_code (1 : Nat) (Option.some Jvm.ClassFile.FieldType.boolean) ∈ tg := tg_of (List.mem_append_right _ (List.mem_append_right _ (List.mem_append_right _ (List.mem_append_left _ (List.mem_of_getElem? (i := 0) rfl))))) rfl
theorem tw_481 : Jvm.Cond.methodLink "BaselineText$Reader" (65 : Nat) ({ cls := "BaselineText$Reader", name := "takeMember", desc := "()I" } : Jvm.MethodName) ∈ tg := tg_of (List.mem_append_right _ (List.mem_append_right _ (List.mem_append_right _ (List.mem_append_left _ (List.mem_of_getElem? (i := 1) rfl))))) rfl
theorem tz_482 : Jvm.Cond.privateMethod ({ cls := "BaselineText$Reader", name := "takeMember", desc := "()I" } : Jvm.MethodName) ∈ lw_tbl := List.mem_append_right _ (List.mem_append_right _ (List.mem_append_right _ (List.mem_append_left _ (List.mem_of_getElem? (i := 2) rfl))))
theorem tw_483 : Jvm.Cond.instanceMethod ({ cls := "BaselineText$Reader", name := "takeMember", desc := "()I" } : Jvm.MethodName) ∈ tg := tg_of (List.mem_append_right _ (List.mem_append_right _ (List.mem_append_right _ (List.mem_append_left _ (List.mem_of_getElem? (i := 3) rfl))))) rfl
theorem tw_484 : Jvm.Cond.code ({ cls := "BaselineText$Reader", name := "takeMember", desc := "()I" } : Jvm.MethodName) prog_7_method_10_code (1 : Nat) (Option.some Jvm.ClassFile.FieldType.int) ∈ tg := tg_of (List.mem_append_right _ (List.mem_append_right _ (List.mem_append_right _ (List.mem_append_left _ (List.mem_of_getElem? (i := 4) rfl))))) rfl
theorem tw_485 : Jvm.Cond.methodLink "BaselineText$Reader" (188 : Nat) ({ cls := "BaselineText$Shelf", name := "alike", desc := "(LBaselineText$Declaration;)LBaselineText$Declaration;" } : Jvm.MethodName) ∈ tg := tg_of (List.mem_append_right _ (List.mem_append_right _ (List.mem_append_right _ (List.mem_append_left _ (List.mem_of_getElem? (i := 5) rfl))))) rfl
theorem tw_486 : Jvm.Cond.instanceMethod ({ cls := "BaselineText$Shelf", name := "alike", desc := "(LBaselineText$Declaration;)LBaselineText$Declaration;" } : Jvm.MethodName) ∈ tg := tg_of (List.mem_append_right _ (List.mem_append_right _ (List.mem_append_right _ (List.mem_append_left _ (List.mem_of_getElem? (i := 6) rfl))))) rfl
theorem tw_487 : Jvm.Cond.selects "BaselineText$Shelf" ({ cls := "BaselineText$Shelf", name := "alike", desc := "(LBaselineText$Declaration;)LBaselineText$Declaration;" } : Jvm.MethodName) ({ cls := "BaselineText$Shelf", name := "alike", desc := "(LBaselineText$Declaration;)LBaselineText$Declaration;" } : Jvm.MethodName) ∈ tg := tg_of (List.mem_append_right _ (List.mem_append_right _ (List.mem_append_right _ (List.mem_append_left _ (List.mem_of_getElem? (i := 7) rfl))))) rfl
theorem tw_488 : Jvm.Cond.code ({ cls := "BaselineText$Shelf", name := "alike", desc := "(LBaselineText$Declaration;)LBaselineText$Declaration;" } : Jvm.MethodName) prog_9_method_8_code (4 : Nat) (Option.some (Jvm.ClassFile.FieldType.object "BaselineText$Declaration")) ∈ tg := tg_of (List.mem_append_right _ (List.mem_append_right _ (List.mem_append_right _ (List.mem_append_left _ (List.mem_of_getElem? (i := 8) rfl))))) rfl
theorem tw_489 : Jvm.Cond.methodLink "BaselineText$Shelf" (36 : Nat) ({ cls := "BaselineText$Shelf", name := "get", desc := "(I)LBaselineText$Declaration;" } : Jvm.MethodName) ∈ tg := tg_of (List.mem_append_right _ (List.mem_append_right _ (List.mem_append_right _ (List.mem_append_left _ (List.mem_of_getElem? (i := 9) rfl))))) rfl
theorem tw_490 : Jvm.Cond.instanceMethod ({ cls := "BaselineText$Shelf", name := "get", desc := "(I)LBaselineText$Declaration;" } : Jvm.MethodName) ∈ tg := tg_of (List.mem_append_right _ (List.mem_append_right _ (List.mem_append_right _ (List.mem_append_left _ (List.mem_of_getElem? (i := 10) rfl))))) rfl
theorem tw_491 : Jvm.Cond.selects "BaselineText$Shelf" ({ cls := "BaselineText$Shelf", name := "get", desc := "(I)LBaselineText$Declaration;" } : Jvm.MethodName) ({ cls := "BaselineText$Shelf", name := "get", desc := "(I)LBaselineText$Declaration;" } : Jvm.MethodName) ∈ tg := tg_of (List.mem_append_right _ (List.mem_append_right _ (List.mem_append_right _ (List.mem_append_left _ (List.mem_of_getElem? (i := 11) rfl))))) rfl
theorem tw_492 : Jvm.Cond.code ({ cls := "BaselineText$Shelf", name := "get", desc := "(I)LBaselineText$Declaration;" } : Jvm.MethodName) prog_9_method_5_code (2 : Nat) (Option.some (Jvm.ClassFile.FieldType.object "BaselineText$Declaration")) ∈ tg := tg_of (List.mem_append_right _ (List.mem_append_right _ (List.mem_append_right _ (List.mem_append_left _ (List.mem_of_getElem? (i := 12) rfl))))) rfl
theorem tw_493 : Jvm.Cond.methodLink "BaselineText$Shelf" (23 : Nat) ({ cls := "java/util/ArrayList", name := "size", desc := "()I" } : Jvm.MethodName) ∈ tg := tg_of (List.mem_append_right _ (List.mem_append_right _ (List.mem_append_right _ (List.mem_append_left _ (List.mem_of_getElem? (i := 13) rfl))))) rfl
theorem tw_494 : Jvm.Cond.instanceMethod ({ cls := "java/util/ArrayList", name := "size", desc := "()I" } : Jvm.MethodName) ∈ tg := tg_of (List.mem_append_right _ (List.mem_append_right _ (List.mem_append_right _ (List.mem_append_left _ (List.mem_of_getElem? (i := 14) rfl))))) rfl
theorem tw_495 : Jvm.Cond.selects "java/util/ArrayList" ({ cls := "java/util/ArrayList", name := "size", desc := "()I" } : Jvm.MethodName) ({ cls := "java/util/ArrayList", name := "size", desc := "()I" } : Jvm.MethodName) ∈ tg := tg_of (List.mem_append_right _ (List.mem_append_right _ (List.mem_append_right _ (List.mem_append_left _ (List.mem_of_getElem? (i := 15) rfl))))) rfl
theorem tw_496 : Jvm.Cond.code ({ cls := "java/util/ArrayList", name := "size", desc := "()I" } : Jvm.MethodName) prog_24_method_8_code (1 : Nat) (Option.some Jvm.ClassFile.FieldType.int) ∈ tg := tg_of (List.mem_append_right _ (List.mem_append_right _ (List.mem_append_right _ (List.mem_append_left _ (List.mem_of_getElem? (i := 16) rfl))))) rfl
theorem tw_497 : Jvm.Cond.methodLink "BaselineText$Shelf" (27 : Nat) ({ cls := "java/util/ArrayList", name := "get", desc := "(I)Ljava/lang/Object;" } : Jvm.MethodName) ∈ tg := tg_of (List.mem_append_right _ (List.mem_append_right _ (List.mem_append_right _ (List.mem_append_left _ (List.mem_of_getElem? (i := 17) rfl))))) rfl
theorem tw_498 : Jvm.Cond.instanceMethod ({ cls := "java/util/ArrayList", name := "get", desc := "(I)Ljava/lang/Object;" } : Jvm.MethodName) ∈ tg := tg_of (List.mem_append_right _ (List.mem_append_right _ (List.mem_append_right _ (List.mem_append_left _ (List.mem_of_getElem? (i := 18) rfl))))) rfl
theorem tw_499 : Jvm.Cond.selects "java/util/ArrayList" ({ cls := "java/util/ArrayList", name := "get", desc := "(I)Ljava/lang/Object;" } : Jvm.MethodName) ({ cls := "java/util/ArrayList", name := "get", desc := "(I)Ljava/lang/Object;" } : Jvm.MethodName) ∈ tg := tg_of (List.mem_append_right _ (List.mem_append_right _ (List.mem_append_right _ (List.mem_append_left _ (List.mem_of_getElem? (i := 19) rfl))))) rfl
theorem tw_500 : Jvm.Cond.code ({ cls := "java/util/ArrayList", name := "get", desc := "(I)Ljava/lang/Object;" } : Jvm.MethodName) prog_24_method_20_code (2 : Nat) (Option.some (Jvm.ClassFile.FieldType.object "java/lang/Object")) ∈ tg := tg_of (List.mem_append_right _ (List.mem_append_right _ (List.mem_append_right _ (List.mem_append_left _ (List.mem_of_getElem? (i := 20) rfl))))) rfl
theorem tw_501 : Jvm.Cond.methodLink "java/util/ArrayList" (118 : Nat) ({ cls := "java/util/Objects", name := "checkIndex", desc := "(II)I" } : Jvm.MethodName) ∈ tg := tg_of (List.mem_append_right _ (List.mem_append_right _ (List.mem_append_right _ (List.mem_append_left _ (List.mem_of_getElem? (i := 21) rfl))))) rfl
theorem tw_502 : Jvm.Cond.static ({ cls := "java/util/Objects", name := "checkIndex", desc := "(II)I" } : Jvm.MethodName) ∈ tg := tg_of (List.mem_append_right _ (List.mem_append_right _ (List.mem_append_right _ (List.mem_append_left _ (List.mem_of_getElem? (i := 22) rfl))))) rfl
theorem tw_503 : Jvm.Cond.code ({ cls := "java/util/Objects", name := "checkIndex", desc := "(II)I" } : Jvm.MethodName) prog_28_method_17_code (2 : Nat) (Option.some Jvm.ClassFile.FieldType.int) ∈ tg := tg_of (List.mem_append_right _ (List.mem_append_right _ (List.mem_append_right _ (List.mem_append_left _ (List.mem_of_getElem? (i := 23) rfl))))) rfl
theorem tw_504 : Jvm.Cond.methodLink "java/util/Objects" (105 : Nat) ({ cls := "jdk/internal/util/Preconditions", name := "checkIndex", desc := "(IILjava/util/function/BiFunction;)I" } : Jvm.MethodName) ∈ tg := tg_of (List.mem_append_right _ (List.mem_append_right _ (List.mem_append_right _ (List.mem_append_left _ (List.mem_of_getElem? (i := 24) rfl))))) rfl
theorem tw_505 : Jvm.Cond.methodLink "java/util/ArrayList" (123 : Nat) ({ cls := "java/util/ArrayList", name := "elementData", desc := "(I)Ljava/lang/Object;" } : Jvm.MethodName) ∈ tg := tg_of (List.mem_append_right _ (List.mem_append_right _ (List.mem_append_right _ (List.mem_append_left _ (List.mem_of_getElem? (i := 25) rfl))))) rfl
theorem tw_506 : Jvm.Cond.instanceMethod ({ cls := "java/util/ArrayList", name := "elementData", desc := "(I)Ljava/lang/Object;" } : Jvm.MethodName) ∈ tg := tg_of (List.mem_append_right _ (List.mem_append_right _ (List.mem_append_right _ (List.mem_append_left _ (List.mem_of_getElem? (i := 26) rfl))))) rfl
theorem tw_507 : Jvm.Cond.selects "java/util/ArrayList" ({ cls := "java/util/ArrayList", name := "elementData", desc := "(I)Ljava/lang/Object;" } : Jvm.MethodName) ({ cls := "java/util/ArrayList", name := "elementData", desc := "(I)Ljava/lang/Object;" } : Jvm.MethodName) ∈ tg := tg_of (List.mem_append_right _ (List.mem_append_right _ (List.mem_append_right _ (List.mem_append_left _ (List.mem_of_getElem? (i := 27) rfl))))) rfl
theorem tw_508 : Jvm.Cond.code ({ cls := "java/util/ArrayList", name := "elementData", desc := "(I)Ljava/lang/Object;" } : Jvm.MethodName) prog_24_method_18_code (2 : Nat) (Option.some (Jvm.ClassFile.FieldType.object "java/lang/Object")) ∈ tg := tg_of (List.mem_append_right _ (List.mem_append_right _ (List.mem_append_right _ (List.mem_append_left _ (List.mem_of_getElem? (i := 28) rfl))))) rfl
theorem tw_509 : Jvm.Cond.classLink "BaselineText$Shelf" (31 : Nat) "BaselineText$Declaration" ∈ tg := tg_of (List.mem_append_right _ (List.mem_append_right _ (List.mem_append_right _ (List.mem_append_left _ (List.mem_of_getElem? (i := 29) rfl))))) rfl
theorem tw_510 : Jvm.Cond.methodLink "BaselineText$Shelf" (39 : Nat) ({ cls := "BaselineText$Declaration", name := "compare", desc := "(LBaselineText$Declaration;)I" } : Jvm.MethodName) ∈ tg := tg_of (List.mem_append_right _ (List.mem_append_right _ (List.mem_append_right _ (List.mem_append_left _ (List.mem_of_getElem? (i := 30) rfl))))) rfl
theorem tw_511 : Jvm.Cond.instanceMethod ({ cls := "BaselineText$Declaration", name := "compare", desc := "(LBaselineText$Declaration;)I" } : Jvm.MethodName) ∈ tg := tg_of (List.mem_append_right _ (List.mem_append_right _ (List.mem_append_right _ (List.mem_append_left _ (List.mem_of_getElem? (i := 31) rfl))))) rfl
theorem tw_512 : Jvm.Cond.selects "BaselineText$Declaration" ({ cls := "BaselineText$Declaration", name := "compare", desc := "(LBaselineText$Declaration;)I" } : Jvm.MethodName) ({ cls := "BaselineText$Declaration", name := "compare", desc := "(LBaselineText$Declaration;)I" } : Jvm.MethodName) ∈ tg := tg_of (List.mem_append_right _ (List.mem_append_right _ (List.mem_append_right _ (List.mem_append_left _ (List.mem_of_getElem? (i := 32) rfl))))) rfl
theorem tw_513 : Jvm.Cond.sameMethod "BaselineText$Declaration" "BaselineText$Declaration" "compare" "(LBaselineText$Declaration;)I" ∈ tg := tg_of (List.mem_append_right _ (List.mem_append_right _ (List.mem_append_right _ (List.mem_append_left _ (List.mem_of_getElem? (i := 33) rfl))))) rfl
theorem tw_514 : Jvm.Cond.selects "BaselineText$Type" ({ cls := "BaselineText$Declaration", name := "compare", desc := "(LBaselineText$Declaration;)I" } : Jvm.MethodName) ({ cls := "BaselineText$Declaration", name := "compare", desc := "(LBaselineText$Declaration;)I" } : Jvm.MethodName) ∈ tg := tg_of (List.mem_append_right _ (List.mem_append_right _ (List.mem_append_right _ (List.mem_append_left _ (List.mem_of_getElem? (i := 34) rfl))))) rfl
theorem tw_515 : Jvm.Cond.code ({ cls := "BaselineText$Declaration", name := "compare", desc := "(LBaselineText$Declaration;)I" } : Jvm.MethodName) prog_3_method_3_code (3 : Nat) (Option.some Jvm.ClassFile.FieldType.int) ∈ tg := tg_of (List.mem_append_right _ (List.mem_append_right _ (List.mem_append_right _ (List.mem_append_left _ (List.mem_of_getElem? (i := 35) rfl))))) rfl
theorem tw_516 : Jvm.Cond.methodLink "BaselineText$Declaration" (34 : Nat) ({ cls := "BaselineText$Row", name := "compare", desc := "(LBaselineText$Row;)I" } : Jvm.MethodName) ∈ tg := tg_of (List.mem_append_right _ (List.mem_append_right _ (List.mem_append_right _ (List.mem_append_left _ (List.mem_of_getElem? (i := 36) rfl))))) rfl
theorem tw_517 : Jvm.Cond.instanceMethod ({ cls := "BaselineText$Row", name := "compare", desc := "(LBaselineText$Row;)I" } : Jvm.MethodName) ∈ tg := tg_of (List.mem_append_right _ (List.mem_append_right _ (List.mem_append_right _ (List.mem_append_left _ (List.mem_of_getElem? (i := 37) rfl))))) rfl
theorem tw_518 : Jvm.Cond.selects "BaselineText$Row" ({ cls := "BaselineText$Row", name := "compare", desc := "(LBaselineText$Row;)I" } : Jvm.MethodName) ({ cls := "BaselineText$Row", name := "compare", desc := "(LBaselineText$Row;)I" } : Jvm.MethodName) ∈ tg := tg_of (List.mem_append_right _ (List.mem_append_right _ (List.mem_append_right _ (List.mem_append_left _ (List.mem_of_getElem? (i := 38) rfl))))) rfl
theorem tw_519 : Jvm.Cond.code ({ cls := "BaselineText$Row", name := "compare", desc := "(LBaselineText$Row;)I" } : Jvm.MethodName) prog_8_method_12_code (3 : Nat) (Option.some Jvm.ClassFile.FieldType.int) ∈ tg := tg_of (List.mem_append_right _ (List.mem_append_right _ (List.mem_append_right _ (List.mem_append_left _ (List.mem_of_getElem? (i := 39) rfl))))) rfl
theorem tw_520 : Jvm.Cond.methodLink "BaselineText$Reader" (170 : Nat) ({ cls := "BaselineText$Shelf", name := "isFull", desc := "()Z" } : Jvm.MethodName) ∈ tg := tg_of (List.mem_append_right _ (List.mem_append_right _ (List.mem_append_right _ (List.mem_append_left _ (List.mem_of_getElem? (i := 40) rfl))))) rfl
theorem tw_521 : Jvm.Cond.instanceMethod ({ cls := "BaselineText$Shelf", name := "isFull", desc := "()Z" } : Jvm.MethodName) ∈ tg := tg_of (List.mem_append_right _ (List.mem_append_right _ (List.mem_append_right _ (List.mem_append_left _ (List.mem_of_getElem? (i := 41) rfl))))) rfl
theorem tw_522 : Jvm.Cond.selects "BaselineText$Shelf" ({ cls := "BaselineText$Shelf", name := "isFull", desc := "()Z" } : Jvm.MethodName) ({ cls := "BaselineText$Shelf", name := "isFull", desc := "()Z" } : Jvm.MethodName) ∈ tg := tg_of (List.mem_append_right _ (List.mem_append_right _ (List.mem_append_right _ (List.mem_append_left _ (List.mem_of_getElem? (i := 42) rfl))))) rfl
theorem tw_523 : Jvm.Cond.code ({ cls := "BaselineText$Shelf", name := "isFull", desc := "()Z" } : Jvm.MethodName) prog_9_method_3_code (1 : Nat) (Option.some Jvm.ClassFile.FieldType.boolean) ∈ tg := tg_of (List.mem_append_right _ (List.mem_append_right _ (List.mem_append_right _ (List.mem_append_left _ (List.mem_of_getElem? (i := 43) rfl))))) rfl
theorem tw_524 : Jvm.Cond.methodLink "BaselineText$Reader" (192 : Nat) ({ cls := "BaselineText$Type", name := "addMember", desc := "(LBaselineText$Declaration;)V" } : Jvm.MethodName) ∈ tg := tg_of (List.mem_append_right _ (List.mem_append_right _ (List.mem_append_right _ (List.mem_append_left _ (List.mem_of_getElem? (i := 44) rfl))))) rfl
theorem tw_525 : Jvm.Cond.instanceMethod ({ cls := "BaselineText$Type", name := "addMember", desc := "(LBaselineText$Declaration;)V" } : Jvm.MethodName) ∈ tg := tg_of (List.mem_append_right _ (List.mem_append_right _ (List.mem_append_right _ (List.mem_append_left _ (List.mem_of_getElem? (i := 45) rfl))))) rfl
theorem tw_526 : Jvm.Cond.selects "BaselineText$Type" ({ cls := "BaselineText$Type", name := "addMember", desc := "(LBaselineText$Declaration;)V" } : Jvm.MethodName) ({ cls := "BaselineText$Type", name := "addMember", desc := "(LBaselineText$Declaration;)V" } : Jvm.MethodName) ∈ tg := tg_of (List.mem_append_right _ (List.mem_append_right _ (List.mem_append_right _ (List.mem_append_left _ (List.mem_of_getElem? (i := 46) rfl))))) rfl
theorem tw_527 : Jvm.Cond.code ({ cls := "BaselineText$Type", name := "addMember", desc := "(LBaselineText$Declaration;)V" } : Jvm.MethodName) prog_10_method_2_code (4 : Nat) (Option.none : Option Jvm.ClassFile.FieldType) ∈ tg := tg_of (List.mem_append_right _ (List.mem_append_right _ (List.mem_append_right _ (List.mem_append_left _ (List.mem_of_getElem? (i := 47) rfl))))) rfl
theorem tw_528 : Jvm.Cond.methodLink "BaselineText$Type" (20 : Nat) ({ cls := "BaselineText$Shelf", name := "takeSpare", desc := "()LBaselineText$Declaration;" } : Jvm.MethodName) ∈ tg := tg_of (List.mem_append_right _ (List.mem_append_right _ (List.mem_append_right _ (List.mem_append_left _ (List.mem_of_getElem? (i := 48) rfl))))) rfl
theorem tw_529 : Jvm.Cond.instanceMethod ({ cls := "BaselineText$Shelf", name := "takeSpare", desc := "()LBaselineText$Declaration;" } : Jvm.MethodName) ∈ tg := tg_of (List.mem_append_right _ (List.mem_append_right _ (List.mem_append_right _ (List.mem_append_left _ (List.mem_of_getElem? (i := 49) rfl))))) rfl
theorem tw_530 : Jvm.Cond.selects "BaselineText$Shelf" ({ cls := "BaselineText$Shelf", name := "takeSpare", desc := "()LBaselineText$Declaration;" } : Jvm.MethodName) ({ cls := "BaselineText$Shelf", name := "takeSpare", desc := "()LBaselineText$Declaration;" } : Jvm.MethodName) ∈ tg := tg_of (List.mem_append_right _ (List.mem_append_right _ (List.mem_append_right _ (List.mem_append_left _ (List.mem_of_getElem? (i := 50) rfl))))) rfl
theorem tw_531 : Jvm.Cond.code ({ cls := "BaselineText$Shelf", name := "takeSpare", desc := "()LBaselineText$Declaration;" } : Jvm.MethodName) prog_9_method_6_code (1 : Nat) (Option.some (Jvm.ClassFile.FieldType.object "BaselineText$Declaration")) ∈ tg := tg_of (List.mem_append_right _ (List.mem_append_right _ (List.mem_append_right _ (List.mem_append_left _ (List.mem_of_getElem? (i := 51) rfl))))) rfl
theorem tw_532 : Jvm.Cond.methodLink "BaselineText$Shelf" (33 : Nat) ({ cls := "java/util/ArrayList", name := "remove", desc := "(I)Ljava/lang/Object;" } : Jvm.MethodName) ∈ tg := tg_of (List.mem_append_right _ (List.mem_append_right _ (List.mem_append_right _ (List.mem_append_left _ (List.mem_of_getElem? (i := 52) rfl))))) rfl
theorem tw_533 : Jvm.Cond.instanceMethod ({ cls := "java/util/ArrayList", name := "remove", desc := "(I)Ljava/lang/Object;" } : Jvm.MethodName) ∈ tg := tg_of (List.mem_append_right _ (List.mem_append_right _ (List.mem_append_right _ (List.mem_append_left _ (List.mem_of_getElem? (i := 53) rfl))))) rfl
theorem tw_534 : Jvm.Cond.selects "java/util/ArrayList" ({ cls := "java/util/ArrayList", name := "remove", desc := "(I)Ljava/lang/Object;" } : Jvm.MethodName) ({ cls := "java/util/ArrayList", name := "remove", desc := "(I)Ljava/lang/Object;" } : Jvm.MethodName) ∈ tg := tg_of (List.mem_append_right _ (List.mem_append_right _ (List.mem_append_right _ (List.mem_append_left _ (List.mem_of_getElem? (i := 54) rfl))))) rfl
theorem tw_535 : Jvm.Cond.code ({ cls := "java/util/ArrayList", name := "remove", desc := "(I)Ljava/lang/Object;" } : Jvm.MethodName) prog_24_method_29_code (4 : Nat) (Option.some (Jvm.ClassFile.FieldType.object "java/lang/Object")) ∈ tg := tg_of (List.mem_append_right _ (List.mem_append_right _ (List.mem_append_right _ (List.mem_append_left _ (List.mem_of_getElem? (i := 55) rfl))))) rfl
theorem tw_536 : Jvm.Cond.methodLink "java/util/ArrayList" (144 : Nat) ({ cls := "java/util/ArrayList", name := "fastRemove", desc := "([Ljava/lang/Object;I)V" } : Jvm.MethodName) ∈ tg := tg_of (List.mem_append_right _ (List.mem_append_right _ (List.mem_append_right _ (List.mem_append_left _ (List.mem_of_getElem? (i := 56) rfl))))) rfl
theorem tz_537 : Jvm.Cond.privateMethod ({ cls := "java/util/ArrayList", name := "fastRemove", desc := "([Ljava/lang/Object;I)V" } : Jvm.MethodName) ∈ lw_tbl := List.mem_append_right _ (List.mem_append_right _ (List.mem_append_right _ (List.mem_append_left _ (List.mem_of_getElem? (i := 57) rfl))))
theorem tw_538 : Jvm.Cond.instanceMethod ({ cls := "java/util/ArrayList", name := "fastRemove", desc := "([Ljava/lang/Object;I)V" } : Jvm.MethodName) ∈ tg := tg_of (List.mem_append_right _ (List.mem_append_right _ (List.mem_append_right _ (List.mem_append_left _ (List.mem_of_getElem? (i := 58) rfl))))) rfl
theorem tw_539 : Jvm.Cond.code ({ cls := "java/util/ArrayList", name := "fastRemove", desc := "([Ljava/lang/Object;I)V" } : Jvm.MethodName) prog_24_method_39_code (4 : Nat) (Option.none : Option Jvm.ClassFile.FieldType) ∈ tg := tg_of (List.mem_append_right _ (List.mem_append_right _ (List.mem_append_right _ (List.mem_append_left _ (List.mem_of_getElem? (i := 59) rfl))))) rfl
theorem tw_540 : Jvm.Cond.methodLink "java/util/ArrayList" (112 : Nat) ({ cls := "java/lang/System", name := "arraycopy", desc := "(Ljava/lang/Object;ILjava/lang/Object;II)V" } : Jvm.MethodName) ∈ tg := tg_of (List.mem_append_right _ (List.mem_append_right _ (List.mem_append_right _ (List.mem_append_left _ (List.mem_of_getElem? (i := 60) rfl))))) rfl
theorem tw_541 : Jvm.Cond.static ({ cls := "java/lang/System", name := "arraycopy", desc := "(Ljava/lang/Object;ILjava/lang/Object;II)V" } : Jvm.MethodName) ∈ tg := tg_of (List.mem_append_right _ (List.mem_append_right _ (List.mem_append_right _ (List.mem_append_left _ (List.mem_of_getElem? (i := 61) rfl))))) rfl
theorem tw_542 : Jvm.Cond.native ({ cls := "java/lang/System", name := "arraycopy", desc := "(Ljava/lang/Object;ILjava/lang/Object;II)V" } : Jvm.MethodName) ∈ tg := tg_of (List.mem_append_right _ (List.mem_append_right _ (List.mem_append_right _ (List.mem_append_left _ (List.mem_of_getElem? (i := 62) rfl))))) rfl
theorem tw_543 : Jvm.Cond.classLink "BaselineText$Type" (4 : Nat) "BaselineText$Declaration" ∈ tg := tg_of (List.mem_append_right _ (List.mem_append_right _ (List.mem_append_right _ (List.mem_append_left _ (List.mem_of_getElem? (i := 63) rfl))))) rfl
theorem tz_544 : Jvm.Cond.methodLinkNest "BaselineText$Type" (3 : Nat) ({ cls := "BaselineText$Declaration", name := "<init>", desc := "()V" } : Jvm.MethodName) "BaselineText" ∈ lw_tbl := List.mem_append_right _ (List.mem_append_right _ (List.mem_append_right _ (List.mem_append_left _ (List.mem_of_getElem? (i := 64) rfl))))
theorem tw_545 : Jvm.Cond.methodLink "BaselineText$Type" (24 : Nat) ({ cls := "BaselineText$Declaration", name := "copy", desc := "(LBaselineText$Declaration;)V" } : Jvm.MethodName) ∈ tg := tg_of (List.mem_append_right _ (List.mem_append_right _ (List.mem_append_right _ (List.mem_append_left _ (List.mem_of_getElem? (i := 65) rfl))))) rfl
theorem tw_546 : Jvm.Cond.instanceMethod ({ cls := "BaselineText$Declaration", name := "copy", desc := "(LBaselineText$Declaration;)V" } : Jvm.MethodName) ∈ tg := tg_of (List.mem_append_right _ (List.mem_append_right _ (List.mem_append_right _ (List.mem_append_left _ (List.mem_of_getElem? (i := 66) rfl))))) rfl
theorem tw_547 : Jvm.Cond.selects "BaselineText$Declaration" ({ cls := "BaselineText$Declaration", name := "copy", desc := "(LBaselineText$Declaration;)V" } : Jvm.MethodName) ({ cls := "BaselineText$Declaration", name := "copy", desc := "(LBaselineText$Declaration;)V" } : Jvm.MethodName) ∈ tg := tg_of (List.mem_append_right _ (List.mem_append_right _ (List.mem_append_right _ (List.mem_append_left _ (List.mem_of_getElem? (i := 67) rfl))))) rfl
theorem tw_548 : Jvm.Cond.sameMethod "BaselineText$Declaration" "BaselineText$Declaration" "copy" "(LBaselineText$Declaration;)V" ∈ tg := tg_of (List.mem_append_right _ (List.mem_append_right _ (List.mem_append_right _ (List.mem_append_left _ (List.mem_of_getElem? (i := 68) rfl))))) rfl
theorem tw_549 : Jvm.Cond.selects "BaselineText$Type" ({ cls := "BaselineText$Declaration", name := "copy", desc := "(LBaselineText$Declaration;)V" } : Jvm.MethodName) ({ cls := "BaselineText$Declaration", name := "copy", desc := "(LBaselineText$Declaration;)V" } : Jvm.MethodName) ∈ tg := tg_of (List.mem_append_right _ (List.mem_append_right _ (List.mem_append_right _ (List.mem_append_left _ (List.mem_of_getElem? (i := 69) rfl))))) rfl
theorem tw_550 : Jvm.Cond.code ({ cls := "BaselineText$Declaration", name := "copy", desc := "(LBaselineText$Declaration;)V" } : Jvm.MethodName) prog_3_method_2_code (2 : Nat) (Option.none : Option Jvm.ClassFile.FieldType) ∈ tg := tg_of (List.mem_append_right _ (List.mem_append_right _ (List.mem_append_right _ (List.mem_append_left _ (List.mem_of_getElem? (i := 70) rfl))))) rfl
theorem tw_551 : Jvm.Cond.methodLink "BaselineText$Declaration" (23 : Nat) ({ cls := "BaselineText$Row", name := "copy", desc := "(LBaselineText$Row;)V" } : Jvm.MethodName) ∈ tg := tg_of (List.mem_append_right _ (List.mem_append_right _ (List.mem_append_right _ (List.mem_append_left _ (List.mem_of_getElem? (i := 71) rfl))))) rfl
theorem tw_552 : Jvm.Cond.instanceMethod ({ cls := "BaselineText$Row", name := "copy", desc := "(LBaselineText$Row;)V" } : Jvm.MethodName) ∈ tg := tg_of (List.mem_append_right _ (List.mem_append_right _ (List.mem_append_right _ (List.mem_append_left _ (List.mem_of_getElem? (i := 72) rfl))))) rfl
theorem tw_553 : Jvm.Cond.selects "BaselineText$Row" ({ cls := "BaselineText$Row", name := "copy", desc := "(LBaselineText$Row;)V" } : Jvm.MethodName) ({ cls := "BaselineText$Row", name := "copy", desc := "(LBaselineText$Row;)V" } : Jvm.MethodName) ∈ tg := tg_of (List.mem_append_right _ (List.mem_append_right _ (List.mem_append_right _ (List.mem_append_left _ (List.mem_of_getElem? (i := 73) rfl))))) rfl
theorem tw_554 : Jvm.Cond.code ({ cls := "BaselineText$Row", name := "copy", desc := "(LBaselineText$Row;)V" } : Jvm.MethodName) prog_8_method_9_code (3 : Nat) (Option.none : Option Jvm.ClassFile.FieldType) ∈ tg := tg_of (List.mem_append_right _ (List.mem_append_right _ (List.mem_append_right _ (List.mem_append_left _ (List.mem_of_getElem? (i := 74) rfl))))) rfl
theorem tw_555 : Jvm.Cond.methodLink "BaselineText$Row" (36 : Nat) ({ cls := "BaselineText$Row", name := "empty", desc := "()V" } : Jvm.MethodName) ∈ tg := tg_of (List.mem_append_right _ (List.mem_append_right _ (List.mem_append_right _ (List.mem_append_left _ (List.mem_of_getElem? (i := 75) rfl))))) rfl
theorem tw_556 : Jvm.Cond.methodLink "BaselineText$Row" (32 : Nat) ({ cls := "BaselineText$Row", name := "add", desc := "(I)V" } : Jvm.MethodName) ∈ tg := tg_of (List.mem_append_right _ (List.mem_append_right _ (List.mem_append_right _ (List.mem_append_left _ (List.mem_of_getElem? (i := 76) rfl))))) rfl
theorem tw_557 : Jvm.Cond.methodLink "BaselineText$Type" (28 : Nat) ({ cls := "BaselineText$Shelf", name := "put", desc := "(LBaselineText$Declaration;)V" } : Jvm.MethodName) ∈ tg := tg_of (List.mem_append_right _ (List.mem_append_right _ (List.mem_append_right _ (List.mem_append_left _ (List.mem_of_getElem? (i := 77) rfl))))) rfl
theorem tw_558 : Jvm.Cond.instanceMethod ({ cls := "BaselineText$Shelf", name := "put", desc := "(LBaselineText$Declaration;)V" } : Jvm.MethodName) ∈ tg := tg_of (List.mem_append_right _ (List.mem_append_right _ (List.mem_append_right _ (List.mem_append_left _ (List.mem_of_getElem? (i := 78) rfl))))) rfl
theorem tw_559 : Jvm.Cond.selects "BaselineText$Shelf" ({ cls := "BaselineText$Shelf", name := "put", desc := "(LBaselineText$Declaration;)V" } : Jvm.MethodName) ({ cls := "BaselineText$Shelf", name := "put", desc := "(LBaselineText$Declaration;)V" } : Jvm.MethodName) ∈ tg := tg_of (List.mem_append_right _ (List.mem_append_right _ (List.mem_append_right _ (List.mem_append_left _ (List.mem_of_getElem? (i := 79) rfl))))) rfl
theorem tw_560 : Jvm.Cond.code ({ cls := "BaselineText$Shelf", name := "put", desc := "(LBaselineText$Declaration;)V" } : Jvm.MethodName) prog_9_method_7_code (5 : Nat) (Option.none : Option Jvm.ClassFile.FieldType) ∈ tg := tg_of (List.mem_append_right _ (List.mem_append_right _ (List.mem_append_right _ (List.mem_append_left _ (List.mem_of_getElem? (i := 80) rfl))))) rfl
theorem tw_561 : Jvm.Cond.methodLink "BaselineText$Shelf" (43 : Nat) ({ cls := "java/util/ArrayList", name := "add", desc := "(ILjava/lang/Object;)V" } : Jvm.MethodName) ∈ tg := tg_of (List.mem_append_right _ (List.mem_append_right _ (List.mem_append_right _ (List.mem_append_left _ (List.mem_of_getElem? (i := 81) rfl))))) rfl
theorem tw_562 : Jvm.Cond.instanceMethod ({ cls := "java/util/ArrayList", name := "add", desc := "(ILjava/lang/Object;)V" } : Jvm.MethodName) ∈ tg := tg_of (List.mem_append_right _ (List.mem_append_right _ (List.mem_append_right _ (List.mem_append_left _ (List.mem_of_getElem? (i := 82) rfl))))) rfl
theorem tw_563 : Jvm.Cond.selects "java/util/ArrayList" ({ cls := "java/util/ArrayList", name := "add", desc := "(ILjava/lang/Object;)V" } : Jvm.MethodName) ({ cls := "java/util/ArrayList", name := "add", desc := "(ILjava/lang/Object;)V" } : Jvm.MethodName) ∈ tg := tg_of (List.mem_append_right _ (List.mem_append_right _ (List.mem_append_right _ (List.mem_append_left _ (List.mem_of_getElem? (i := 83) rfl))))) rfl
theorem tw_564 : Jvm.Cond.code ({ cls := "java/util/ArrayList", name := "add", desc := "(ILjava/lang/Object;)V" } : Jvm.MethodName) prog_24_method_26_code (5 : Nat) (Option.none : Option Jvm.ClassFile.FieldType) ∈ tg := tg_of (List.mem_append_right _ (List.mem_append_right _ (List.mem_append_right _ (List.mem_append_left _ (List.mem_of_getElem? (i := 84) rfl))))) rfl
theorem tw_565 : Jvm.Cond.methodLink "java/util/ArrayList" (135 : Nat) ({ cls := "java/util/ArrayList", name := "rangeCheckForAdd", desc := "(I)V" } : Jvm.MethodName) ∈ tg := tg_of (List.mem_append_right _ (List.mem_append_right _ (List.mem_append_right _ (List.mem_append_left _ (List.mem_of_getElem? (i := 85) rfl))))) rfl
theorem tz_566 : Jvm.Cond.privateMethod ({ cls := "java/util/ArrayList", name := "rangeCheckForAdd", desc := "(I)V" } : Jvm.MethodName) ∈ lw_tbl := List.mem_append_right _ (List.mem_append_right _ (List.mem_append_right _ (List.mem_append_left _ (List.mem_of_getElem? (i := 86) rfl))))
theorem tw_567 : Jvm.Cond.instanceMethod ({ cls := "java/util/ArrayList", name := "rangeCheckForAdd", desc := "(I)V" } : Jvm.MethodName) ∈ tg := tg_of (List.mem_append_right _ (List.mem_append_right _ (List.mem_append_right _ (List.mem_append_left _ (List.mem_of_getElem? (i := 87) rfl))))) rfl
theorem tw_568 : Jvm.Cond.code ({ cls := "java/util/ArrayList", name := "rangeCheckForAdd", desc := "(I)V" } : Jvm.MethodName) prog_24_method_45_code (2 : Nat) (Option.none : Option Jvm.ClassFile.FieldType) ∈ tg := tg_of (List.mem_append_right _ (List.mem_append_right _ (List.mem_append_right _ (List.mem_append_left _ (List.mem_of_getElem? (i := 88) rfl))))) rfl
theorem tw_569 : Jvm.Cond.methodLink "java/util/ArrayList" (129 : Nat) ({ cls := "java/util/ArrayList", name := "grow", desc := "()[Ljava/lang/Object;" } : Jvm.MethodName) ∈ tg := tg_of (List.mem_append_right _ (List.mem_append_right _ (List.mem_append_right _ (List.mem_append_left _ (List.mem_of_getElem? (i := 89) rfl))))) rfl
theorem tz_570 : Jvm.Cond.privateMethod ({ cls := "java/util/ArrayList", name := "grow", desc := "()[Ljava/lang/Object;" } : Jvm.MethodName) ∈ lw_tbl := List.mem_append_right _ (List.mem_append_right _ (List.mem_append_right _ (List.mem_append_left _ (List.mem_of_getElem? (i := 90) rfl))))
theorem tw_571 : Jvm.Cond.instanceMethod ({ cls := "java/util/ArrayList", name := "grow", desc := "()[Ljava/lang/Object;" } : Jvm.MethodName) ∈ tg := tg_of (List.mem_append_right _ (List.mem_append_right _ (List.mem_append_right _ (List.mem_append_left _ (List.mem_of_getElem? (i := 91) rfl))))) rfl
theorem tw_572 : Jvm.Cond.code ({ cls := "java/util/ArrayList", name := "grow", desc := "()[Ljava/lang/Object;" } : Jvm.MethodName) prog_24_method_7_code (1 : Nat) (Option.some (Jvm.ClassFile.FieldType.array (Jvm.ClassFile.FieldType.object "java/lang/Object"))) ∈ tg := tg_of (List.mem_append_right _ (List.mem_append_right _ (List.mem_append_right _ (List.mem_append_left _ (List.mem_of_getElem? (i := 92) rfl))))) rfl
theorem tw_573 : Jvm.Cond.methodLink "java/util/ArrayList" (69 : Nat) ({ cls := "java/util/ArrayList", name := "grow", desc := "(I)[Ljava/lang/Object;" } : Jvm.MethodName) ∈ tg := tg_of (List.mem_append_right _ (List.mem_append_right _ (List.mem_append_right _ (List.mem_append_left _ (List.mem_of_getElem? (i := 93) rfl))))) rfl
theorem tz_574 : Jvm.Cond.privateMethod ({ cls := "java/util/ArrayList", name := "grow", desc := "(I)[Ljava/lang/Object;" } : Jvm.MethodName) ∈ lw_tbl := List.mem_append_right _ (List.mem_append_right _ (List.mem_append_right _ (List.mem_append_left _ (List.mem_of_getElem? (i := 94) rfl))))
theorem tw_575 : Jvm.Cond.instanceMethod ({ cls := "java/util/ArrayList", name := "grow", desc := "(I)[Ljava/lang/Object;" } : Jvm.MethodName) ∈ tg := tg_of (List.mem_append_right _ (List.mem_append_right _ (List.mem_append_right _ (List.mem_append_left _ (List.mem_of_getElem? (i := 95) rfl))))) rfl
theorem tw_576 : Jvm.Cond.code ({ cls := "java/util/ArrayList", name := "grow", desc := "(I)[Ljava/lang/Object;" } : Jvm.MethodName) prog_24_method_6_code (4 : Nat) (Option.some (Jvm.ClassFile.FieldType.array (Jvm.ClassFile.FieldType.object "java/lang/Object"))) ∈ tg := tg_of (List.mem_append_right _ (List.mem_append_right _ (List.mem_append_right _ (List.mem_append_left _ (List.mem_of_getElem? (i := 96) rfl))))) rfl
theorem tw_577 : Jvm.Cond.methodLink "java/util/ArrayList" (73 : Nat) ({ cls := "jdk/internal/util/ArraysSupport", name := "newLength", desc := "(III)I" } : Jvm.MethodName) ∈ tg := tg_of (List.mem_append_right _ (List.mem_append_right _ (List.mem_append_right _ (List.mem_append_left _ (List.mem_of_getElem? (i := 97) rfl))))) rfl
theorem tw_578 : Jvm.Cond.static ({ cls := "jdk/internal/util/ArraysSupport", name := "newLength", desc := "(III)I" } : Jvm.MethodName) ∈ tg := tg_of (List.mem_append_right _ (List.mem_append_right _ (List.mem_append_right _ (List.mem_append_left _ (List.mem_of_getElem? (i := 98) rfl))))) rfl
theorem tw_579 : Jvm.Cond.code ({ cls := "jdk/internal/util/ArraysSupport", name := "newLength", desc := "(III)I" } : Jvm.MethodName) prog_31_method_27_code (4 : Nat) (Option.some Jvm.ClassFile.FieldType.int) ∈ tg := tg_of (List.mem_append_right _ (List.mem_append_right _ (List.mem_append_right _ (List.mem_append_left _ (List.mem_of_getElem? (i := 99) rfl))))) rfl
theorem tw_580 : Jvm.Cond.methodLink "jdk/internal/util/ArraysSupport" (194 : Nat) ({ cls := "java/lang/Math", name := "max", desc := "(II)I" } : Jvm.MethodName) ∈ tg := tg_of (List.mem_append_right _ (List.mem_append_right _ (List.mem_append_right _ (List.mem_append_left _ (List.mem_of_getElem? (i := 100) rfl))))) rfl
theorem tw_581 : Jvm.Cond.static ({ cls := "java/lang/Math", name := "max", desc := "(II)I" } : Jvm.MethodName) ∈ tg := tg_of (List.mem_append_right _ (List.mem_append_right _ (List.mem_append_right _ (List.mem_append_left _ (List.mem_of_getElem? (i := 101) rfl))))) rfl
theorem tw_582 : Jvm.Cond.code ({ cls := "java/lang/Math", name := "max", desc := "(II)I" } : Jvm.MethodName) prog_17_method_65_code (2 : Nat) (Option.some Jvm.ClassFile.FieldType.int) ∈ tg := tg_of (List.mem_append_right _ (List.mem_append_right _ (List.mem_append_right _ (List.mem_append_left _ (List.mem_of_getElem? (i := 102) rfl))))) rfl
theorem tw_583 : Jvm.Cond.constant "jdk/internal/util/ArraysSupport" (200 : Nat) (2147483639 : Int32) ∈ tg := tg_of (List.mem_append_right _ (List.mem_append_right _ (List.mem_append_right _ (List.mem_append_left _ (List.mem_of_getElem? (i := 103) rfl))))) rfl
theorem tw_584 : Jvm.Cond.methodLink "jdk/internal/util/ArraysSupport" (201 : Nat) ({ cls := "jdk/internal/util/ArraysSupport", name := "hugeLength", desc := "(II)I" } : Jvm.MethodName) ∈ tg := tg_of (List.mem_append_right _ (List.mem_append_right _ (List.mem_append_right _ (List.mem_append_left _ (List.mem_of_getElem? (i := 104) rfl))))) rfl
theorem tw_585 : Jvm.Cond.static ({ cls := "jdk/internal/util/ArraysSupport", name := "hugeLength", desc := "(II)I" } : Jvm.MethodName) ∈ tg := tg_of (List.mem_append_right _ (List.mem_append_right _ (List.mem_append_right _ (List.mem_append_left _ (List.mem_of_getElem? (i := 105) rfl))))) rfl
theorem tw_586 : Jvm.Cond.code ({ cls := "jdk/internal/util/ArraysSupport", name := "hugeLength", desc := "(II)I" } : Jvm.MethodName) prog_31_method_28_code (3 : Nat) (Option.some Jvm.ClassFile.FieldType.int) ∈ tg := tg_of (List.mem_append_right _ (List.mem_append_right _ (List.mem_append_right _ (List.mem_append_left _ (List.mem_of_getElem? (i := 106) rfl))))) rfl
theorem tw_587 : Jvm.Cond.methodLink "java/util/ArrayList" (66 : Nat) ({ cls := "java/util/Arrays", name := "copyOf", desc := "([Ljava/lang/Object;I)[Ljava/lang/Object;" } : Jvm.MethodName) ∈ tg := tg_of (List.mem_append_right _ (List.mem_append_right _ (List.mem_append_right _ (List.mem_append_left _ (List.mem_of_getElem? (i := 107) rfl))))) rfl
theorem tw_588 : Jvm.Cond.static ({ cls := "java/util/Arrays", name := "copyOf", desc := "([Ljava/lang/Object;I)[Ljava/lang/Object;" } : Jvm.MethodName) ∈ tg := tg_of (List.mem_append_right _ (List.mem_append_right _ (List.mem_append_right _ (List.mem_append_left _ (List.mem_of_getElem? (i := 108) rfl))))) rfl
theorem tw_589 : Jvm.Cond.code ({ cls := "java/util/Arrays", name := "copyOf", desc := "([Ljava/lang/Object;I)[Ljava/lang/Object;" } : Jvm.MethodName) prog_25_method_119_code (2 : Nat) (Option.some (Jvm.ClassFile.FieldType.array (Jvm.ClassFile.FieldType.object "java/lang/Object"))) ∈ tg := tg_of (List.mem_append_right _ (List.mem_append_right _ (List.mem_append_right _ (List.mem_append_left _ (List.mem_of_getElem? (i := 109) rfl))))) rfl
theorem tw_590 : Jvm.Cond.methodLink "java/util/Arrays" (86 : Nat) ({ cls := "java/lang/Object", name := "getClass", desc := "()Ljava/lang/Class;" } : Jvm.MethodName) ∈ tg := tg_of (List.mem_append_right _ (List.mem_append_right _ (List.mem_append_right _ (List.mem_append_left _ (List.mem_of_getElem? (i := 110) rfl))))) rfl
theorem tw_591 : Jvm.Cond.instanceMethod ({ cls := "java/lang/Object", name := "getClass", desc := "()Ljava/lang/Class;" } : Jvm.MethodName) ∈ tg := tg_of (List.mem_append_right _ (List.mem_append_right _ (List.mem_append_right _ (List.mem_append_left _ (List.mem_of_getElem? (i := 111) rfl))))) rfl
theorem tw_592 : Jvm.Cond.sameMethod "java/lang/Object" "java/lang/Object" "getClass" "()Ljava/lang/Class;" ∈ tg := tg_of (List.mem_append_right _ (List.mem_append_right _ (List.mem_append_right _ (List.mem_append_left _ (List.mem_of_getElem? (i := 112) rfl))))) rfl
theorem tw_593 : Jvm.Cond.selects "BaselineText" ({ cls := "java/lang/Object", name := "getClass", desc := "()Ljava/lang/Class;" } : Jvm.MethodName) ({ cls := "java/lang/Object", name := "getClass", desc := "()Ljava/lang/Class;" } : Jvm.MethodName) ∈ tg := tg_of (List.mem_append_right _ (List.mem_append_right _ (List.mem_append_right _ (List.mem_append_left _ (List.mem_of_getElem? (i := 113) rfl))))) rfl
theorem tw_594 : Jvm.Cond.selects "BaselineText$Baseline" ({ cls := "java/lang/Object", name := "getClass", desc := "()Ljava/lang/Class;" } : Jvm.MethodName) ({ cls := "java/lang/Object", name := "getClass", desc := "()Ljava/lang/Class;" } : Jvm.MethodName) ∈ tg := tg_of (List.mem_append_right _ (List.mem_append_right _ (List.mem_append_right _ (List.mem_append_left _ (List.mem_of_getElem? (i := 114) rfl))))) rfl
theorem tw_595 : Jvm.Cond.selects "BaselineText$Declaration" ({ cls := "java/lang/Object", name := "getClass", desc := "()Ljava/lang/Class;" } : Jvm.MethodName) ({ cls := "java/lang/Object", name := "getClass", desc := "()Ljava/lang/Class;" } : Jvm.MethodName) ∈ tg := tg_of (List.mem_append_right _ (List.mem_append_right _ (List.mem_append_right _ (List.mem_append_left _ (List.mem_of_getElem? (i := 115) rfl))))) rfl
theorem tw_596 : Jvm.Cond.selects "BaselineText$Diagnostics" ({ cls := "java/lang/Object", name := "getClass", desc := "()Ljava/lang/Class;" } : Jvm.MethodName) ({ cls := "java/lang/Object", name := "getClass", desc := "()Ljava/lang/Class;" } : Jvm.MethodName) ∈ tg := tg_of (List.mem_append_right _ (List.mem_append_right _ (List.mem_append_right _ (List.mem_append_left _ (List.mem_of_getElem? (i := 116) rfl))))) rfl
theorem tw_597 : Jvm.Cond.selects "BaselineText$Line" ({ cls := "java/lang/Object", name := "getClass", desc := "()Ljava/lang/Class;" } : Jvm.MethodName) ({ cls := "java/lang/Object", name := "getClass", desc := "()Ljava/lang/Class;" } : Jvm.MethodName) ∈ tg := tg_of (List.mem_append_right _ (List.mem_append_right _ (List.mem_append_right _ (List.mem_append_left _ (List.mem_of_getElem? (i := 117) rfl))))) rfl
theorem tw_598 : Jvm.Cond.selects "BaselineText$Reader" ({ cls := "java/lang/Object", name := "getClass", desc := "()Ljava/lang/Class;" } : Jvm.MethodName) ({ cls := "java/lang/Object", name := "getClass", desc := "()Ljava/lang/Class;" } : Jvm.MethodName) ∈ tg := tg_of (List.mem_append_right _ (List.mem_append_right _ (List.mem_append_right _ (List.mem_append_left _ (List.mem_of_getElem? (i := 118) rfl))))) rfl
theorem tw_599 : Jvm.Cond.selects "BaselineText$Row" ({ cls := "java/lang/Object", name := "getClass", desc := "()Ljava/lang/Class;" } : Jvm.MethodName) ({ cls := "java/lang/Object", name := "getClass", desc := "()Ljava/lang/Class;" } : Jvm.MethodName) ∈ tg := tg_of (List.mem_append_right _ (List.mem_append_right _ (List.mem_append_right _ (List.mem_append_left _ (List.mem_of_getElem? (i := 119) rfl))))) rfl
theorem tw_600 : Jvm.Cond.selects "BaselineText$Shelf" ({ cls := "java/lang/Object", name := "getClass", desc := "()Ljava/lang/Class;" } : Jvm.MethodName) ({ cls := "java/lang/Object", name := "getClass", desc := "()Ljava/lang/Class;" } : Jvm.MethodName) ∈ tg := tg_of (List.mem_append_right _ (List.mem_append_right _ (List.mem_append_right _ (List.mem_append_left _ (List.mem_of_getElem? (i := 120) rfl))))) rfl
theorem tw_601 : Jvm.Cond.selects "BaselineText$Type" ({ cls := "java/lang/Object", name := "getClass", desc := "()Ljava/lang/Class;" } : Jvm.MethodName) ({ cls := "java/lang/Object", name := "getClass", desc := "()Ljava/lang/Class;" } : Jvm.MethodName) ∈ tg := tg_of (List.mem_append_right _ (List.mem_append_right _ (List.mem_append_right _ (List.mem_append_left _ (List.mem_of_getElem? (i := 121) rfl))))) rfl
theorem tw_602 : Jvm.Cond.selects "BaselineTextModel" ({ cls := "java/lang/Object", name := "getClass", desc := "()Ljava/lang/Class;" } : Jvm.MethodName) ({ cls := "java/lang/Object", name := "getClass", desc := "()Ljava/lang/Class;" } : Jvm.MethodName) ∈ tg := tg_of (List.mem_append_right _ (List.mem_append_right _ (List.mem_append_right _ (List.mem_append_left _ (List.mem_of_getElem? (i := 122) rfl))))) rfl
theorem tw_603 : Jvm.Cond.selects "java/util/ArrayList" ({ cls := "java/lang/Object", name := "getClass", desc := "()Ljava/lang/Class;" } : Jvm.MethodName) ({ cls := "java/lang/Object", name := "getClass", desc := "()Ljava/lang/Class;" } : Jvm.MethodName) ∈ tg := tg_of (List.mem_append_right _ (List.mem_append_right _ (List.mem_append_right _ (List.mem_append_left _ (List.mem_of_getElem? (i := 123) rfl))))) rfl
theorem tw_604 : Jvm.Cond.native ({ cls := "java/lang/Object", name := "getClass", desc := "()Ljava/lang/Class;" } : Jvm.MethodName) ∈ tg := tg_of (List.mem_append_right _ (List.mem_append_right _ (List.mem_append_right _ (List.mem_append_left _ (List.mem_of_getElem? (i := 124) rfl))))) rfl
theorem tw_605 : Jvm.Cond.methodLink "java/util/Arrays" (300 : Nat) ({ cls := "java/util/Arrays", name := "copyOf", desc := "([Ljava/lang/Object;ILjava/lang/Class;)[Ljava/lang/Object;" } : Jvm.MethodName) ∈ tg := tg_of (List.mem_append_right _ (List.mem_append_right _ (List.mem_append_right _ (List.mem_append_left _ (List.mem_of_getElem? (i := 125) rfl))))) rfl
theorem tw_606 : Jvm.Cond.static ({ cls := "java/util/Arrays", name := "copyOf", desc := "([Ljava/lang/Object;ILjava/lang/Class;)[Ljava/lang/Object;" } : Jvm.MethodName) ∈ tg := tg_of (List.mem_append_right _ (List.mem_append_right _ (List.mem_append_right _ (List.mem_append_left _ (List.mem_of_getElem? (i := 126) rfl))))) rfl
theorem tw_607 : Jvm.Cond.code ({ cls := "java/util/Arrays", name := "copyOf", desc := "([Ljava/lang/Object;ILjava/lang/Class;)[Ljava/lang/Object;" } : Jvm.MethodName) prog_25_method_120_code (4 : Nat) (Option.some (Jvm.ClassFile.FieldType.array (Jvm.ClassFile.FieldType.object "java/lang/Object"))) ∈ tg := tg_of (List.mem_append_right _ (List.mem_append_right _ (List.mem_append_right _ (List.mem_append_left _ (List.mem_of_getElem? (i := 127) rfl))))) rfl
theorem tw_608 : Jvm.Cond.classLink "java/util/Arrays" (110 : Nat) "[Ljava/lang/Object;" ∈ tg := tg_of (List.mem_append_right _ (List.mem_append_right _ (List.mem_append_right _ (List.mem_append_left _ (List.mem_of_getElem? (i := 128) rfl))))) rfl
theorem tz_609 : Jvm.Cond.arrayOver (Jvm.ClassFile.FieldType.object "java/lang/Object") ∈ lw_tbl := List.mem_append_right _ (List.mem_append_right _ (List.mem_append_right _ (List.mem_append_left _ (List.mem_of_getElem? (i := 129) rfl))))
theorem tw_610 : Jvm.Cond.classLink "java/util/Arrays" (2 : Nat) "java/lang/Object" ∈ tg := tg_of (List.mem_append_right _ (List.mem_append_right _ (List.mem_append_right _ (List.mem_append_left _ (List.mem_of_getElem? (i := 130) rfl))))) rfl
theorem tw_611 : Jvm.Cond.methodLink "java/util/Arrays" (304 : Nat) ({ cls := "java/lang/Math", name := "min", desc := "(II)I" } : Jvm.MethodName) ∈ tg := tg_of (List.mem_append_right _ (List.mem_append_right _ (List.mem_append_right _ (List.mem_append_left _ (List.mem_of_getElem? (i := 131) rfl))))) rfl
theorem tw_612 : Jvm.Cond.static ({ cls := "java/lang/Math", name := "min", desc := "(II)I" } : Jvm.MethodName) ∈ tg := tg_of (List.mem_append_right _ (List.mem_append_right _ (List.mem_append_right _ (List.mem_append_left _ (List.mem_of_getElem? (i := 132) rfl))))) rfl
theorem tw_613 : Jvm.Cond.code ({ cls := "java/lang/Math", name := "min", desc := "(II)I" } : Jvm.MethodName) prog_17_method_69_code (2 : Nat) (Option.some Jvm.ClassFile.FieldType.int) ∈ tg := tg_of (List.mem_append_right _ (List.mem_append_right _ (List.mem_append_right _ (List.mem_append_left _ (List.mem_of_getElem? (i := 133) rfl))))) rfl
theorem tw_614 : Jvm.Cond.methodLink "java/util/Arrays" (150 : Nat) ({ cls := "java/lang/System", name := "arraycopy", desc := "(Ljava/lang/Object;ILjava/lang/Object;II)V" } : Jvm.MethodName) ∈ tg := tg_of (List.mem_append_right _ (List.mem_append_right _ (List.mem_append_right _ (List.mem_append_left _ (List.mem_of_getElem? (i := 134) rfl))))) rfl
theorem tw_615 : Jvm.Cond.methodLink "java/util/ArrayList" (79 : Nat) ({ cls := "java/lang/Math", name := "max", desc := "(II)I" } : Jvm.MethodName) ∈ tg := tg_of (List.mem_append_right _ (List.mem_append_right _ (List.mem_append_right _ (List.mem_append_left _ (List.mem_of_getElem? (i := 135) rfl))))) rfl
theorem tw_616 : Jvm.Cond.classLink "java/util/ArrayList" (7 : Nat) "java/lang/Object" ∈ tg := tg_of (List.mem_append_right _ (List.mem_append_right _ (List.mem_append_right _ (List.mem_append_left _ (List.mem_of_getElem? (i := 136) rfl))))) rfl
theorem tw_617 : Jvm.Cond.methodLink "BaselineText$Reader" (68 : Nat) ({ cls := "BaselineText$Reader", name := "takeType", desc := "()I" } : Jvm.MethodName) ∈ tg := tg_of (List.mem_append_right _ (List.mem_append_right _ (List.mem_append_right _ (List.mem_append_left _ (List.mem_of_getElem? (i := 137) rfl))))) rfl
theorem tz_618 : Jvm.Cond.privateMethod ({ cls := "BaselineText$Reader", name := "takeType", desc := "()I" } : Jvm.MethodName) ∈ lw_tbl := List.mem_append_right _ (List.mem_append_right _ (List.mem_append_right _ (List.mem_append_left _ (List.mem_of_getElem? (i := 138) rfl))))
theorem tw_619 : Jvm.Cond.instanceMethod ({ cls := "BaselineText$Reader", name := "takeType", desc := "()I" } : Jvm.MethodName) ∈ tg := tg_of (List.mem_append_right _ (List.mem_append_right _ (List.mem_append_right _ (List.mem_append_left _ (List.mem_of_getElem? (i := 139) rfl))))) rfl
theorem tw_620 : Jvm.Cond.code ({ cls := "BaselineText$Reader", name := "takeType", desc := "()I" } : Jvm.MethodName) prog_7_method_9_code (1 : Nat) (Option.some Jvm.ClassFile.FieldType.int) ∈ tg := tg_of (List.mem_append_right _ (List.mem_append_right _ (List.mem_append_right _ (List.mem_append_left _ (List.mem_of_getElem? (i := 140) rfl))))) rfl
theorem tw_621 : Jvm.Cond.methodLink "BaselineText$Reader" (162 : Nat) ({ cls := "BaselineText$Baseline", name := "named", desc := "(LBaselineText$Row;)LBaselineText$Type;" } : Jvm.MethodName) ∈ tg := tg_of (List.mem_append_right _ (List.mem_append_right _ (List.mem_append_right _ (List.mem_append_left _ (List.mem_of_getElem? (i := 141) rfl))))) rfl
theorem tw_622 : Jvm.Cond.instanceMethod ({ cls := "BaselineText$Baseline", name := "named", desc := "(LBaselineText$Row;)LBaselineText$Type;" } : Jvm.MethodName) ∈ tg := tg_of (List.mem_append_right _ (List.mem_append_right _ (List.mem_append_right _ (List.mem_append_left _ (List.mem_of_getElem? (i := 142) rfl))))) rfl
theorem tw_623 : Jvm.Cond.selects "BaselineText$Baseline" ({ cls := "BaselineText$Baseline", name := "named", desc := "(LBaselineText$Row;)LBaselineText$Type;" } : Jvm.MethodName) ({ cls := "BaselineText$Baseline", name := "named", desc := "(LBaselineText$Row;)LBaselineText$Type;" } : Jvm.MethodName) ∈ tg := tg_of (List.mem_append_right _ (List.mem_append_right _ (List.mem_append_right _ (List.mem_append_left _ (List.mem_of_getElem? (i := 143) rfl))))) rfl
theorem tw_624 : Jvm.Cond.code ({ cls := "BaselineText$Baseline", name := "named", desc := "(LBaselineText$Row;)LBaselineText$Type;" } : Jvm.MethodName) prog_2_method_3_code (4 : Nat) (Option.some (Jvm.ClassFile.FieldType.object "BaselineText$Type")) ∈ tg := tg_of (List.mem_append_right _ (List.mem_append_right _ (List.mem_append_right _ (List.mem_append_left _ (List.mem_of_getElem? (i := 144) rfl))))) rfl
theorem tw_625 : Jvm.Cond.methodLink "BaselineText$Baseline" (27 : Nat) ({ cls := "BaselineText$Shelf", name := "count", desc := "()I" } : Jvm.MethodName) ∈ tg := tg_of (List.mem_append_right _ (List.mem_append_right _ (List.mem_append_right _ (List.mem_append_left _ (List.mem_of_getElem? (i := 145) rfl))))) rfl
theorem tw_626 : Jvm.Cond.instanceMethod ({ cls := "BaselineText$Shelf", name := "count", desc := "()I" } : Jvm.MethodName) ∈ tg := tg_of (List.mem_append_right _ (List.mem_append_right _ (List.mem_append_right _ (List.mem_append_left _ (List.mem_of_getElem? (i := 146) rfl))))) rfl
theorem tw_627 : Jvm.Cond.selects "BaselineText$Shelf" ({ cls := "BaselineText$Shelf", name := "count", desc := "()I" } : Jvm.MethodName) ({ cls := "BaselineText$Shelf", name := "count", desc := "()I" } : Jvm.MethodName) ∈ tg := tg_of (List.mem_append_right _ (List.mem_append_right _ (List.mem_append_right _ (List.mem_append_left _ (List.mem_of_getElem? (i := 147) rfl))))) rfl
theorem tw_628 : Jvm.Cond.code ({ cls := "BaselineText$Shelf", name := "count", desc := "()I" } : Jvm.MethodName) prog_9_method_2_code (1 : Nat) (Option.some Jvm.ClassFile.FieldType.int) ∈ tg := tg_of (List.mem_append_right _ (List.mem_append_right _ (List.mem_append_right _ (List.mem_append_left _ (List.mem_of_getElem? (i := 148) rfl))))) rfl
theorem tw_629 : Jvm.Cond.methodLink "BaselineText$Baseline" (31 : Nat) ({ cls := "BaselineText$Shelf", name := "get", desc := "(I)LBaselineText$Declaration;" } : Jvm.MethodName) ∈ tg := tg_of (List.mem_append_right _ (List.mem_append_right _ (List.mem_append_right _ (List.mem_append_left _ (List.mem_of_getElem? (i := 149) rfl))))) rfl
theorem tw_630 : Jvm.Cond.classLink "BaselineText$Baseline" (35 : Nat) "BaselineText$Type" ∈ tg := tg_of (List.mem_append_right _ (List.mem_append_right _ (List.mem_append_right _ (List.mem_append_left _ (List.mem_of_getElem? (i := 150) rfl))))) rfl
theorem tw_631 : Jvm.Cond.methodLink "BaselineText$Baseline" (41 : Nat) ({ cls := "BaselineText$Row", name := "compare", desc := "(LBaselineText$Row;)I" } : Jvm.MethodName) ∈ tg := tg_of (List.mem_append_right _ (List.mem_append_right _ (List.mem_append_right _ (List.mem_append_left _ (List.mem_of_getElem? (i := 151) rfl))))) rfl
theorem tw_632 : Jvm.Cond.methodLink "BaselineText$Reader" (175 : Nat) ({ cls := "BaselineText$Baseline", name := "addType", desc := "(LBaselineText$Declaration;)LBaselineText$Type;" } : Jvm.MethodName) ∈ tg := tg_of (List.mem_append_right _ (List.mem_append_right _ (List.mem_append_right _ (List.mem_append_left _ (List.mem_of_getElem? (i := 152) rfl))))) rfl
theorem tw_633 : Jvm.Cond.instanceMethod ({ cls := "BaselineText$Baseline", name := "addType", desc := "(LBaselineText$Declaration;)LBaselineText$Type;" } : Jvm.MethodName) ∈ tg := tg_of (List.mem_append_right _ (List.mem_append_right _ (List.mem_append_right _ (List.mem_append_left _ (List.mem_of_getElem? (i := 153) rfl))))) rfl
theorem tw_634 : Jvm.Cond.selects "BaselineText$Baseline" ({ cls := "BaselineText$Baseline", name := "addType", desc := "(LBaselineText$Declaration;)LBaselineText$Type;" } : Jvm.MethodName) ({ cls := "BaselineText$Baseline", name := "addType", desc := "(LBaselineText$Declaration;)LBaselineText$Type;" } : Jvm.MethodName) ∈ tg := tg_of (List.mem_append_right _ (List.mem_append_right _ (List.mem_append_right _ (List.mem_append_left _ (List.mem_of_getElem? (i := 154) rfl))))) rfl
theorem tw_635 : Jvm.Cond.code ({ cls := "BaselineText$Baseline", name := "addType", desc := "(LBaselineText$Declaration;)LBaselineText$Type;" } : Jvm.MethodName) prog_2_method_4_code (4 : Nat) (Option.some (Jvm.ClassFile.FieldType.object "BaselineText$Type")) ∈ tg := tg_of (List.mem_append_right _ (List.mem_append_right _ (List.mem_append_right _ (List.mem_append_left _ (List.mem_of_getElem? (i := 155) rfl))))) rfl
theorem tw_636 : Jvm.Cond.methodLink "BaselineText$Baseline" (47 : Nat) ({ cls := "BaselineText$Shelf", name := "takeSpare", desc := "()LBaselineText$Declaration;" } : Jvm.MethodName) ∈ tg := tg_of (List.mem_append_right _ (List.mem_append_right _ (List.mem_append_right _ (List.mem_append_left _ (List.mem_of_getElem? (i := 156) rfl))))) rfl
theorem tw_637 : Jvm.Cond.instantiable "BaselineText$Type" (5 : Nat) ∈ tg := tg_of (List.mem_append_right _ (List.mem_append_right _ (List.mem_append_right _ (List.mem_append_left _ (List.mem_of_getElem? (i := 157) rfl))))) rfl
theorem tz_638 : Jvm.Cond.methodLinkNest "BaselineText$Baseline" (51 : Nat) ({ cls := "BaselineText$Type", name := "<init>", desc := "()V" } : Jvm.MethodName) "BaselineText" ∈ lw_tbl := List.mem_append_right _ (List.mem_append_right _ (List.mem_append_right _ (List.mem_append_left _ (List.mem_of_getElem? (i := 158) rfl))))
theorem tw_639 : Jvm.Cond.instanceMethod ({ cls := "BaselineText$Type", name := "<init>", desc := "()V" } : Jvm.MethodName) ∈ tg := tg_of (List.mem_append_right _ (List.mem_append_right _ (List.mem_append_right _ (List.mem_append_left _ (List.mem_of_getElem? (i := 159) rfl))))) rfl
theorem tw_640 : Jvm.Cond.code ({ cls := "BaselineText$Type", name := "<init>", desc := "()V" } : Jvm.MethodName) prog_10_method_1_code (1 : Nat) (Option.none : Option Jvm.ClassFile.FieldType) ∈ tg := tg_of (List.mem_append_right _ (List.mem_append_right _ (List.mem_append_right _ (List.mem_append_left _ (List.mem_of_getElem? (i := 160) rfl))))) rfl
theorem tw_641 : Jvm.Cond.classLink "BaselineText$Type" (9 : Nat) "BaselineText$Shelf" ∈ tg := tg_of (List.mem_append_right _ (List.mem_append_right _ (List.mem_append_right _ (List.mem_append_left _ (List.mem_of_getElem? (i := 161) rfl))))) rfl
theorem tw_642 : Jvm.Cond.methodLink "BaselineText$Type" (11 : Nat) ({ cls := "BaselineText$Shelf", name := "<init>", desc := "(I)V" } : Jvm.MethodName) ∈ tg := tg_of (List.mem_append_right _ (List.mem_append_right _ (List.mem_append_right _ (List.mem_append_left _ (List.mem_of_getElem? (i := 162) rfl))))) rfl
theorem tw_643 : Jvm.Cond.fieldLink "BaselineText$Type" (14 : Nat) "BaselineText$Type" "members" "LBaselineText$Shelf;" ∈ tg := tg_of (List.mem_append_right _ (List.mem_append_right _ (List.mem_append_right _ (List.mem_append_left _ (List.mem_of_getElem? (i := 163) rfl))))) rfl
theorem tw_644 : Jvm.Cond.fieldLink "BaselineText$Baseline" (56 : Nat) "BaselineText$Type" "members" "LBaselineText$Shelf;" ∈ tg := tg_of (List.mem_append_right _ (List.mem_append_right _ (List.mem_append_right _ (List.mem_append_left _ (List.mem_of_getElem? (i := 164) rfl))))) rfl
theorem tw_645 : Jvm.Cond.fieldLink "BaselineText$Reader" (183 : Nat) "BaselineText$Type" "members" "LBaselineText$Shelf;" ∈ tg := tg_of (List.mem_append_right _ (List.mem_append_right _ (List.mem_append_right _ (List.mem_append_left _ (List.mem_of_getElem? (i := 165) rfl))))) rfl
theorem tw_646 : Jvm.Cond.fieldLink "BaselineText" (125 : Nat) "BaselineText$Type" "members" "LBaselineText$Shelf;" ∈ tg := tg_of (List.mem_append_right _ (List.mem_append_right _ (List.mem_append_right _ (List.mem_append_left _ (List.mem_of_getElem? (i := 166) rfl))))) rfl
theorem tw_647 : Jvm.Cond.laysFinal "BaselineText$Type" "BaselineText$Type" "members" "LBaselineText$Shelf;" ∈ tg := tg_of (List.mem_append_right _ (List.mem_append_right _ (List.mem_append_right _ (List.mem_append_left _ (List.mem_of_getElem? (i := 167) rfl))))) rfl
theorem tw_648 : Jvm.Cond.soleField "BaselineText$Type" "members" ∈ tg := tg_of (List.mem_append_right _ (List.mem_append_right _ (List.mem_append_right _ (List.mem_append_left _ (List.mem_of_getElem? (i := 168) rfl))))) rfl
theorem tw_649 : Jvm.Cond.laysFinal "BaselineText$Type" "BaselineText$Declaration" "name" "LBaselineText$Row;" ∈ tg := tg_of (List.mem_append_right _ (List.mem_append_right _ (List.mem_append_right _ (List.mem_append_left _ (List.mem_of_getElem? (i := 169) rfl))))) rfl
theorem tw_650 : Jvm.Cond.laysFinal "BaselineText$Type" "BaselineText$Declaration" "descriptor" "LBaselineText$Row;" ∈ tg := tg_of (List.mem_append_right _ (List.mem_append_right _ (List.mem_append_right _ (List.mem_append_left _ (List.mem_of_getElem? (i := 170) rfl))))) rfl
theorem tw_651 : Jvm.Cond.lays "BaselineText$Type" "BaselineText$Declaration" "kind" "I" ∈ tg := tg_of (List.mem_append_right _ (List.mem_append_right _ (List.mem_append_right _ (List.mem_append_left _ (List.mem_of_getElem? (i := 171) rfl))))) rfl
theorem tw_652 : Jvm.Cond.lays "BaselineText$Type" "BaselineText$Declaration" "marks" "I" ∈ tg := tg_of (List.mem_append_right _ (List.mem_append_right _ (List.mem_append_right _ (List.mem_append_left _ (List.mem_of_getElem? (i := 172) rfl))))) rfl
theorem tw_653 : Jvm.Cond.superclass "BaselineText$Type" "BaselineText$Declaration" ∈ tg := tg_of (List.mem_append_right _ (List.mem_append_right _ (List.mem_append_right _ (List.mem_append_left _ (List.mem_of_getElem? (i := 173) rfl))))) rfl
theorem tw_654 : Jvm.Cond.arrayClass Jvm.ClassFile.FieldType.byte ∈ tg := tg_of (List.mem_append_right _ (List.mem_append_right _ (List.mem_append_right _ (List.mem_append_left _ (List.mem_of_getElem? (i := 174) rfl))))) rfl
theorem tw_655 : Jvm.Cond.methodLink "BaselineText$Baseline" (52 : Nat) ({ cls := "BaselineText$Type", name := "copy", desc := "(LBaselineText$Declaration;)V" } : Jvm.MethodName) ∈ tg := tg_of (List.mem_append_right _ (List.mem_append_right _ (List.mem_append_right _ (List.mem_append_left _ (List.mem_of_getElem? (i := 175) rfl))))) rfl
theorem tw_656 : Jvm.Cond.sameMethod "BaselineText$Type" "BaselineText$Declaration" "copy" "(LBaselineText$Declaration;)V" ∈ tg := tg_of (List.mem_append_right _ (List.mem_append_right _ (List.mem_append_right _ (List.mem_append_left _ (List.mem_of_getElem? (i := 176) rfl))))) rfl
theorem tz_657 : Jvm.Cond.declares ({ cls := "BaselineText$Declaration", name := "copy", desc := "(LBaselineText$Declaration;)V" } : Jvm.MethodName) ∈ lw_tbl := List.mem_append_right _ (List.mem_append_right _ (List.mem_append_right _ (List.mem_append_left _ (List.mem_of_getElem? (i := 177) rfl))))
theorem tw_658 : Jvm.Cond.selects "BaselineText$Type" ({ cls := "BaselineText$Type", name := "copy", desc := "(LBaselineText$Declaration;)V" } : Jvm.MethodName) ({ cls := "BaselineText$Declaration", name := "copy", desc := "(LBaselineText$Declaration;)V" } : Jvm.MethodName) ∈ tg := tg_of (List.mem_append_right _ (List.mem_append_right _ (List.mem_append_right _ (List.mem_append_left _ (List.mem_of_getElem? (i := 178) rfl))))) rfl
theorem tw_659 : Jvm.Cond.methodLink "BaselineText$Baseline" (59 : Nat) ({ cls := "BaselineText$Shelf", name := "put", desc := "(LBaselineText$Declaration;)V" } : Jvm.MethodName) ∈ tg := tg_of (List.mem_append_right _ (List.mem_append_right _ (List.mem_append_right _ (List.mem_append_left _ (List.mem_of_getElem? (i := 179) rfl))))) rfl
theorem tw_660 : Jvm.Cond.methodLink "BaselineText" (75 : Nat) ({ cls := "BaselineText$Diagnostics", name := "count", desc := "()I" } : Jvm.MethodName) ∈ tg := tg_of (List.mem_append_right _ (List.mem_append_right _ (List.mem_append_right _ (List.mem_append_left _ (List.mem_of_getElem? (i := 180) rfl))))) rfl
theorem tw_661 : Jvm.Cond.instanceMethod ({ cls := "BaselineText$Diagnostics", name := "count", desc := "()I" } : Jvm.MethodName) ∈ tg := tg_of (List.mem_append_right _ (List.mem_append_right _ (List.mem_append_right _ (List.mem_append_left _ (List.mem_of_getElem? (i := 181) rfl))))) rfl
theorem tw_662 : Jvm.Cond.selects "BaselineText$Diagnostics" ({ cls := "BaselineText$Diagnostics", name := "count", desc := "()I" } : Jvm.MethodName) ({ cls := "BaselineText$Diagnostics", name := "count", desc := "()I" } : Jvm.MethodName) ∈ tg := tg_of (List.mem_append_right _ (List.mem_append_right _ (List.mem_append_right _ (List.mem_append_left _ (List.mem_of_getElem? (i := 182) rfl))))) rfl
theorem tw_663 : Jvm.Cond.code ({ cls := "BaselineText$Diagnostics", name := "count", desc := "()I" } : Jvm.MethodName) prog_4_method_2_code (1 : Nat) (Option.some Jvm.ClassFile.FieldType.int) ∈ tg := tg_of (List.mem_append_right _ (List.mem_append_right _ (List.mem_append_right _ (List.mem_append_left _ (List.mem_of_getElem? (i := 183) rfl))))) rfl
theorem tw_664 : Jvm.Cond.methodLink "BaselineTextLaw" (30 : Nat) ({ cls := "BaselineText", name := "write", desc := "(I)I" } : Jvm.MethodName) ∈ tg := tg_of (List.mem_append_right _ (List.mem_append_right _ (List.mem_append_right _ (List.mem_append_left _ (List.mem_of_getElem? (i := 184) rfl))))) rfl
theorem tw_665 : Jvm.Cond.instanceMethod ({ cls := "BaselineText", name := "write", desc := "(I)I" } : Jvm.MethodName) ∈ tg := tg_of (List.mem_append_right _ (List.mem_append_right _ (List.mem_append_right _ (List.mem_append_left _ (List.mem_of_getElem? (i := 185) rfl))))) rfl
theorem tw_666 : Jvm.Cond.selects "BaselineText" ({ cls := "BaselineText", name := "write", desc := "(I)I" } : Jvm.MethodName) ({ cls := "BaselineText", name := "write", desc := "(I)I" } : Jvm.MethodName) ∈ tg := tg_of (List.mem_append_right _ (List.mem_append_right _ (List.mem_append_right _ (List.mem_append_left _ (List.mem_of_getElem? (i := 186) rfl))))) rfl
theorem tw_667 : Jvm.Cond.code ({ cls := "BaselineText", name := "write", desc := "(I)I" } : Jvm.MethodName) prog_1_method_5_code (3 : Nat) (Option.some Jvm.ClassFile.FieldType.int) ∈ tg := tg_of (List.mem_append_right _ (List.mem_append_right _ (List.mem_append_right _ (List.mem_append_left _ (List.mem_of_getElem? (i := 187) rfl))))) rfl
theorem tw_668 : Jvm.Cond.methodLink "BaselineText" (78 : Nat) ({ cls := "BaselineText$Baseline", name := "addForm", desc := "(LBaselineText$Row;)V" } : Jvm.MethodName) ∈ tg := tg_of (List.mem_append_right _ (List.mem_append_right _ (List.mem_append_right _ (List.mem_append_left _ (List.mem_of_getElem? (i := 188) rfl))))) rfl
theorem tw_669 : Jvm.Cond.instanceMethod ({ cls := "BaselineText$Baseline", name := "addForm", desc := "(LBaselineText$Row;)V" } : Jvm.MethodName) ∈ tg := tg_of (List.mem_append_right _ (List.mem_append_right _ (List.mem_append_right _ (List.mem_append_left _ (List.mem_of_getElem? (i := 189) rfl))))) rfl
theorem tw_670 : Jvm.Cond.selects "BaselineText$Baseline" ({ cls := "BaselineText$Baseline", name := "addForm", desc := "(LBaselineText$Row;)V" } : Jvm.MethodName) ({ cls := "BaselineText$Baseline", name := "addForm", desc := "(LBaselineText$Row;)V" } : Jvm.MethodName) ∈ tg := tg_of (List.mem_append_right _ (List.mem_append_right _ (List.mem_append_right _ (List.mem_append_left _ (List.mem_of_getElem? (i := 190) rfl))))) rfl
theorem tw_671 : Jvm.Cond.code ({ cls := "BaselineText$Baseline", name := "addForm", desc := "(LBaselineText$Row;)V" } : Jvm.MethodName) prog_2_method_5_code (4 : Nat) (Option.none : Option Jvm.ClassFile.FieldType) ∈ tg := tg_of (List.mem_append_right _ (List.mem_append_right _ (List.mem_append_right _ (List.mem_append_left _ (List.mem_of_getElem? (i := 191) rfl))))) rfl
theorem tz_672 : Jvm.Cond.stringRef "BaselineText$Baseline" (62 : Nat) "#sig " ∈ lw_tbl := List.mem_append_right _ (List.mem_append_right _ (List.mem_append_right _ (List.mem_append_left _ (List.mem_of_getElem? (i := 192) rfl))))
theorem tw_673 : Jvm.Cond.methodLink "BaselineText$Baseline" (64 : Nat) ({ cls := "BaselineText$Row", name := "addWord", desc := "(Ljava/lang/String;)V" } : Jvm.MethodName) ∈ tg := tg_of (List.mem_append_right _ (List.mem_append_right _ (List.mem_append_right _ (List.mem_append_left _ (List.mem_of_getElem? (i := 193) rfl))))) rfl
theorem tw_674 : Jvm.Cond.instanceMethod ({ cls := "BaselineText$Row", name := "addWord", desc := "(Ljava/lang/String;)V" } : Jvm.MethodName) ∈ tg := tg_of (List.mem_append_right _ (List.mem_append_right _ (List.mem_append_right _ (List.mem_append_left _ (List.mem_of_getElem? (i := 194) rfl))))) rfl
theorem tw_675 : Jvm.Cond.selects "BaselineText$Row" ({ cls := "BaselineText$Row", name := "addWord", desc := "(Ljava/lang/String;)V" } : Jvm.MethodName) ({ cls := "BaselineText$Row", name := "addWord", desc := "(Ljava/lang/String;)V" } : Jvm.MethodName) ∈ tg := tg_of (List.mem_append_right _ (List.mem_append_right _ (List.mem_append_right _ (List.mem_append_left _ (List.mem_of_getElem? (i := 195) rfl))))) rfl
theorem tw_676 : Jvm.Cond.code ({ cls := "BaselineText$Row", name := "addWord", desc := "(Ljava/lang/String;)V" } : Jvm.MethodName) prog_8_method_7_code (3 : Nat) (Option.none : Option Jvm.ClassFile.FieldType) ∈ tg := tg_of (List.mem_append_right _ (List.mem_append_right _ (List.mem_append_right _ (List.mem_append_left _ (List.mem_of_getElem? (i := 196) rfl))))) rfl
theorem tw_677 : Jvm.Cond.methodLink "BaselineText$Baseline" (68 : Nat) ({ cls := "BaselineText$Row", name := "add", desc := "(I)V" } : Jvm.MethodName) ∈ tg := tg_of (List.mem_append_right _ (List.mem_append_right _ (List.mem_append_right _ (List.mem_append_left _ (List.mem_of_getElem? (i := 197) rfl))))) rfl
theorem tw_678 : Jvm.Cond.methodLink "BaselineText$Baseline" (71 : Nat) ({ cls := "BaselineText$Type", name := "addLine", desc := "(LBaselineText$Row;ZI)V" } : Jvm.MethodName) ∈ tg := tg_of (List.mem_append_right _ (List.mem_append_right _ (List.mem_append_right _ (List.mem_append_left _ (List.mem_of_getElem? (i := 198) rfl))))) rfl
theorem tw_679 : Jvm.Cond.sameMethod "BaselineText$Type" "BaselineText$Declaration" "addLine" "(LBaselineText$Row;ZI)V" ∈ tg := tg_of (List.mem_append_right _ (List.mem_append_right _ (List.mem_append_right _ (List.mem_append_left _ (List.mem_of_getElem? (i := 199) rfl))))) rfl
theorem tz_680 : Jvm.Cond.declares ({ cls := "BaselineText$Declaration", name := "addLine", desc := "(LBaselineText$Row;ZI)V" } : Jvm.MethodName) ∈ lw_tbl := List.mem_append_right _ (List.mem_append_right _ (List.mem_append_right _ (List.mem_append_left _ (List.mem_of_getElem? (i := 200) rfl))))
theorem tw_681 : Jvm.Cond.selects "BaselineText$Type" ({ cls := "BaselineText$Type", name := "addLine", desc := "(LBaselineText$Row;ZI)V" } : Jvm.MethodName) ({ cls := "BaselineText$Declaration", name := "addLine", desc := "(LBaselineText$Row;ZI)V" } : Jvm.MethodName) ∈ tg := tg_of (List.mem_append_right _ (List.mem_append_right _ (List.mem_append_right _ (List.mem_append_left _ (List.mem_of_getElem? (i := 201) rfl))))) rfl
theorem tw_682 : Jvm.Cond.instanceMethod ({ cls := "BaselineText$Declaration", name := "addLine", desc := "(LBaselineText$Row;ZI)V" } : Jvm.MethodName) ∈ tg := tg_of (List.mem_append_right _ (List.mem_append_right _ (List.mem_append_right _ (List.mem_append_left _ (List.mem_of_getElem? (i := 202) rfl))))) rfl
theorem tw_683 : Jvm.Cond.code ({ cls := "BaselineText$Declaration", name := "addLine", desc := "(LBaselineText$Row;ZI)V" } : Jvm.MethodName) prog_3_method_6_code (5 : Nat) (Option.none : Option Jvm.ClassFile.FieldType) ∈ tg := tg_of (List.mem_append_right _ (List.mem_append_right _ (List.mem_append_right _ (List.mem_append_left _ (List.mem_of_getElem? (i := 203) rfl))))) rfl
theorem tz_684 : Jvm.Cond.stringRef "BaselineText$Declaration" (45 : Nat) "  " ∈ lw_tbl := List.mem_append_right _ (List.mem_append_right _ (List.mem_append_right _ (List.mem_append_left _ (List.mem_of_getElem? (i := 204) rfl))))
theorem tw_685 : Jvm.Cond.methodLink "BaselineText$Declaration" (47 : Nat) ({ cls := "BaselineText$Row", name := "addWord", desc := "(Ljava/lang/String;)V" } : Jvm.MethodName) ∈ tg := tg_of (List.mem_append_right _ (List.mem_append_right _ (List.mem_append_right _ (List.mem_append_left _ (List.mem_of_getElem? (i := 205) rfl))))) rfl
theorem tw_686 : Jvm.Cond.methodLink "BaselineText$Declaration" (51 : Nat) ({ cls := "BaselineText$Vocabulary", name := "marks", desc := "(Z)I" } : Jvm.MethodName) ∈ tg := tg_of (List.mem_append_right _ (List.mem_append_right _ (List.mem_append_right _ (List.mem_append_left _ (List.mem_of_getElem? (i := 206) rfl))))) rfl
theorem tw_687 : Jvm.Cond.methodLink "BaselineText$Declaration" (56 : Nat) ({ cls := "BaselineText$Vocabulary", name := "mark", desc := "(ZI)Ljava/lang/String;" } : Jvm.MethodName) ∈ tg := tg_of (List.mem_append_right _ (List.mem_append_right _ (List.mem_append_right _ (List.mem_append_left _ (List.mem_of_getElem? (i := 207) rfl))))) rfl
theorem tw_688 : Jvm.Cond.methodLink "BaselineText$Declaration" (60 : Nat) ({ cls := "BaselineText$Row", name := "add", desc := "(I)V" } : Jvm.MethodName) ∈ tg := tg_of (List.mem_append_right _ (List.mem_append_right _ (List.mem_append_right _ (List.mem_append_left _ (List.mem_of_getElem? (i := 208) rfl))))) rfl
theorem tw_689 : Jvm.Cond.methodLink "BaselineText$Declaration" (63 : Nat) ({ cls := "BaselineText$Vocabulary", name := "kind", desc := "(ZI)Ljava/lang/String;" } : Jvm.MethodName) ∈ tg := tg_of (List.mem_append_right _ (List.mem_append_right _ (List.mem_append_right _ (List.mem_append_left _ (List.mem_of_getElem? (i := 209) rfl))))) rfl
theorem tw_690 : Jvm.Cond.methodLink "BaselineText$Declaration" (65 : Nat) ({ cls := "BaselineText$Row", name := "addName", desc := "(LBaselineText$Row;I)V" } : Jvm.MethodName) ∈ tg := tg_of (List.mem_append_right _ (List.mem_append_right _ (List.mem_append_right _ (List.mem_append_left _ (List.mem_of_getElem? (i := 210) rfl))))) rfl
theorem tw_691 : Jvm.Cond.instanceMethod ({ cls := "BaselineText$Row", name := "addName", desc := "(LBaselineText$Row;I)V" } : Jvm.MethodName) ∈ tg := tg_of (List.mem_append_right _ (List.mem_append_right _ (List.mem_append_right _ (List.mem_append_left _ (List.mem_of_getElem? (i := 211) rfl))))) rfl
theorem tw_692 : Jvm.Cond.selects "BaselineText$Row" ({ cls := "BaselineText$Row", name := "addName", desc := "(LBaselineText$Row;I)V" } : Jvm.MethodName) ({ cls := "BaselineText$Row", name := "addName", desc := "(LBaselineText$Row;I)V" } : Jvm.MethodName) ∈ tg := tg_of (List.mem_append_right _ (List.mem_append_right _ (List.mem_append_right _ (List.mem_append_left _ (List.mem_of_getElem? (i := 212) rfl))))) rfl
theorem tw_693 : Jvm.Cond.code ({ cls := "BaselineText$Row", name := "addName", desc := "(LBaselineText$Row;I)V" } : Jvm.MethodName) prog_8_method_8_code (4 : Nat) (Option.none : Option Jvm.ClassFile.FieldType) ∈ tg := tg_of (List.mem_append_right _ (List.mem_append_right _ (List.mem_append_right _ (List.mem_append_left _ (List.mem_of_getElem? (i := 213) rfl))))) rfl
theorem tw_694 : Jvm.Cond.methodLink "BaselineText$Baseline" (75 : Nat) ({ cls := "BaselineText$Baseline", name := "addMemberLines", desc := "(LBaselineText$Row;LBaselineText$Shelf;)V" } : Jvm.MethodName) ∈ tg := tg_of (List.mem_append_right _ (List.mem_append_right _ (List.mem_append_right _ (List.mem_append_left _ (List.mem_of_getElem? (i := 214) rfl))))) rfl
theorem tz_695 : Jvm.Cond.privateMethod ({ cls := "BaselineText$Baseline", name := "addMemberLines", desc := "(LBaselineText$Row;LBaselineText$Shelf;)V" } : Jvm.MethodName) ∈ lw_tbl := List.mem_append_right _ (List.mem_append_right _ (List.mem_append_right _ (List.mem_append_left _ (List.mem_of_getElem? (i := 215) rfl))))
theorem tw_696 : Jvm.Cond.instanceMethod ({ cls := "BaselineText$Baseline", name := "addMemberLines", desc := "(LBaselineText$Row;LBaselineText$Shelf;)V" } : Jvm.MethodName) ∈ tg := tg_of (List.mem_append_right _ (List.mem_append_right _ (List.mem_append_right _ (List.mem_append_left _ (List.mem_of_getElem? (i := 216) rfl))))) rfl
theorem tw_697 : Jvm.Cond.code ({ cls := "BaselineText$Baseline", name := "addMemberLines", desc := "(LBaselineText$Row;LBaselineText$Shelf;)V" } : Jvm.MethodName) prog_2_method_6_code (5 : Nat) (Option.none : Option Jvm.ClassFile.FieldType) ∈ tg := tg_of (List.mem_append_right _ (List.mem_append_right _ (List.mem_append_right _ (List.mem_append_left _ (List.mem_of_getElem? (i := 217) rfl))))) rfl
theorem tw_698 : Jvm.Cond.methodLink "BaselineText$Baseline" (79 : Nat) ({ cls := "BaselineText$Declaration", name := "addLine", desc := "(LBaselineText$Row;ZI)V" } : Jvm.MethodName) ∈ tg := tg_of (List.mem_append_right _ (List.mem_append_right _ (List.mem_append_right _ (List.mem_append_left _ (List.mem_of_getElem? (i := 218) rfl))))) rfl
theorem tw_699 : Jvm.Cond.methodLink "BaselineText" (82 : Nat) ({ cls := "BaselineText$Row", name := "fits", desc := "()Z" } : Jvm.MethodName) ∈ tg := tg_of (List.mem_append_right _ (List.mem_append_right _ (List.mem_append_right _ (List.mem_append_left _ (List.mem_of_getElem? (i := 219) rfl))))) rfl
theorem tw_700 : Jvm.Cond.methodLink "BaselineText" (86 : Nat) ({ cls := "BaselineText$Row", name := "copy", desc := "(LBaselineText$Row;)V" } : Jvm.MethodName) ∈ tg := tg_of (List.mem_append_right _ (List.mem_append_right _ (List.mem_append_right _ (List.mem_append_left _ (List.mem_of_getElem? (i := 220) rfl))))) rfl
theorem tw_701 : Jvm.Cond.methodLink "BaselineTextLaw" (34 : Nat) ({ cls := "BaselineText", name := "format", desc := "(II)I" } : Jvm.MethodName) ∈ tg := tg_of (List.mem_append_right _ (List.mem_append_right _ (List.mem_append_right _ (List.mem_append_left _ (List.mem_of_getElem? (i := 221) rfl))))) rfl
theorem tw_702 : Jvm.Cond.instanceMethod ({ cls := "BaselineText", name := "format", desc := "(II)I" } : Jvm.MethodName) ∈ tg := tg_of (List.mem_append_right _ (List.mem_append_right _ (List.mem_append_right _ (List.mem_append_left _ (List.mem_of_getElem? (i := 222) rfl))))) rfl
theorem tw_703 : Jvm.Cond.selects "BaselineText" ({ cls := "BaselineText", name := "format", desc := "(II)I" } : Jvm.MethodName) ({ cls := "BaselineText", name := "format", desc := "(II)I" } : Jvm.MethodName) ∈ tg := tg_of (List.mem_append_right _ (List.mem_append_right _ (List.mem_append_right _ (List.mem_append_left _ (List.mem_of_getElem? (i := 223) rfl))))) rfl
theorem tw_704 : Jvm.Cond.code ({ cls := "BaselineText", name := "format", desc := "(II)I" } : Jvm.MethodName) prog_1_method_6_code (5 : Nat) (Option.some Jvm.ClassFile.FieldType.int) ∈ tg := tg_of (List.mem_append_right _ (List.mem_append_right _ (List.mem_append_right _ (List.mem_append_left _ (List.mem_of_getElem? (i := 224) rfl))))) rfl
theorem tw_705 : Jvm.Cond.methodLink "BaselineTextLaw" (39 : Nat) ({ cls := "BaselineText", name := "text", desc := "(I)I" } : Jvm.MethodName) ∈ tg := tg_of (List.mem_append_right _ (List.mem_append_right _ (List.mem_append_right _ (List.mem_append_left _ (List.mem_of_getElem? (i := 225) rfl))))) rfl
theorem tw_706 : Jvm.Cond.instanceMethod ({ cls := "BaselineText", name := "text", desc := "(I)I" } : Jvm.MethodName) ∈ tg := tg_of (List.mem_append_right _ (List.mem_append_right _ (List.mem_append_right _ (List.mem_append_left _ (List.mem_of_getElem? (i := 226) rfl))))) rfl
theorem tw_707 : Jvm.Cond.selects "BaselineText" ({ cls := "BaselineText", name := "text", desc := "(I)I" } : Jvm.MethodName) ({ cls := "BaselineText", name := "text", desc := "(I)I" } : Jvm.MethodName) ∈ tg := tg_of (List.mem_append_right _ (List.mem_append_right _ (List.mem_append_right _ (List.mem_append_left _ (List.mem_of_getElem? (i := 227) rfl))))) rfl
theorem tw_708 : Jvm.Cond.code ({ cls := "BaselineText", name := "text", desc := "(I)I" } : Jvm.MethodName) prog_1_method_7_code (2 : Nat) (Option.some Jvm.ClassFile.FieldType.int) ∈ tg := tg_of (List.mem_append_right _ (List.mem_append_right _ (List.mem_append_right _ (List.mem_append_left _ (List.mem_of_getElem? (i := 228) rfl))))) rfl
theorem tw_709 : Jvm.Cond.methodLink "BaselineTextLaw" (43 : Nat) ({ cls := "BaselineText", name := "diagnostic", desc := "(II)I" } : Jvm.MethodName) ∈ tg := tg_of (List.mem_append_right _ (List.mem_append_right _ (List.mem_append_right _ (List.mem_append_left _ (List.mem_of_getElem? (i := 229) rfl))))) rfl
theorem tw_710 : Jvm.Cond.instanceMethod ({ cls := "BaselineText", name := "diagnostic", desc := "(II)I" } : Jvm.MethodName) ∈ tg := tg_of (List.mem_append_right _ (List.mem_append_right _ (List.mem_append_right _ (List.mem_append_left _ (List.mem_of_getElem? (i := 230) rfl))))) rfl
theorem tw_711 : Jvm.Cond.selects "BaselineText" ({ cls := "BaselineText", name := "diagnostic", desc := "(II)I" } : Jvm.MethodName) ({ cls := "BaselineText", name := "diagnostic", desc := "(II)I" } : Jvm.MethodName) ∈ tg := tg_of (List.mem_append_right _ (List.mem_append_right _ (List.mem_append_right _ (List.mem_append_left _ (List.mem_of_getElem? (i := 231) rfl))))) rfl
theorem tw_712 : Jvm.Cond.code ({ cls := "BaselineText", name := "diagnostic", desc := "(II)I" } : Jvm.MethodName) prog_1_method_8_code (3 : Nat) (Option.some Jvm.ClassFile.FieldType.int) ∈ tg := tg_of (List.mem_append_right _ (List.mem_append_right _ (List.mem_append_right _ (List.mem_append_left _ (List.mem_of_getElem? (i := 232) rfl))))) rfl
theorem tw_713 : Jvm.Cond.methodLink "BaselineText" (93 : Nat) ({ cls := "BaselineText$Diagnostics", name := "kept", desc := "()I" } : Jvm.MethodName) ∈ tg := tg_of (List.mem_append_right _ (List.mem_append_right _ (List.mem_append_right _ (List.mem_append_left _ (List.mem_of_getElem? (i := 233) rfl))))) rfl
theorem tw_714 : Jvm.Cond.instanceMethod ({ cls := "BaselineText$Diagnostics", name := "kept", desc := "()I" } : Jvm.MethodName) ∈ tg := tg_of (List.mem_append_right _ (List.mem_append_right _ (List.mem_append_right _ (List.mem_append_left _ (List.mem_of_getElem? (i := 234) rfl))))) rfl
theorem tw_715 : Jvm.Cond.selects "BaselineText$Diagnostics" ({ cls := "BaselineText$Diagnostics", name := "kept", desc := "()I" } : Jvm.MethodName) ({ cls := "BaselineText$Diagnostics", name := "kept", desc := "()I" } : Jvm.MethodName) ∈ tg := tg_of (List.mem_append_right _ (List.mem_append_right _ (List.mem_append_right _ (List.mem_append_left _ (List.mem_of_getElem? (i := 235) rfl))))) rfl
theorem tw_716 : Jvm.Cond.code ({ cls := "BaselineText$Diagnostics", name := "kept", desc := "()I" } : Jvm.MethodName) prog_4_method_3_code (1 : Nat) (Option.some Jvm.ClassFile.FieldType.int) ∈ tg := tg_of (List.mem_append_right _ (List.mem_append_right _ (List.mem_append_right _ (List.mem_append_left _ (List.mem_of_getElem? (i := 236) rfl))))) rfl
theorem tw_717 : Jvm.Cond.methodLink "BaselineText$Diagnostics" (25 : Nat) ({ cls := "java/lang/Math", name := "min", desc := "(II)I" } : Jvm.MethodName) ∈ tg := tg_of (List.mem_append_right _ (List.mem_append_right _ (List.mem_append_right _ (List.mem_append_left _ (List.mem_of_getElem? (i := 237) rfl))))) rfl
theorem tw_718 : Jvm.Cond.methodLink "BaselineTextLaw" (47 : Nat) ({ cls := "BaselineText", name := "types", desc := "(I)I" } : Jvm.MethodName) ∈ tg := tg_of (List.mem_append_right _ (List.mem_append_right _ (List.mem_append_right _ (List.mem_append_left _ (List.mem_of_getElem? (i := 238) rfl))))) rfl
theorem tw_719 : Jvm.Cond.instanceMethod ({ cls := "BaselineText", name := "types", desc := "(I)I" } : Jvm.MethodName) ∈ tg := tg_of (List.mem_append_right _ (List.mem_append_right _ (List.mem_append_right _ (List.mem_append_left _ (List.mem_of_getElem? (i := 239) rfl))))) rfl
theorem tw_720 : Jvm.Cond.selects "BaselineText" ({ cls := "BaselineText", name := "types", desc := "(I)I" } : Jvm.MethodName) ({ cls := "BaselineText", name := "types", desc := "(I)I" } : Jvm.MethodName) ∈ tg := tg_of (List.mem_append_right _ (List.mem_append_right _ (List.mem_append_right _ (List.mem_append_right _ (List.mem_append_left _ (List.mem_of_getElem? (i := 0) rfl)))))) rfl
theorem tw_721 : Jvm.Cond.code ({ cls := "BaselineText", name := "types", desc := "(I)I" } : Jvm.MethodName) prog_1_method_9_code (3 : Nat) (Option.some Jvm.ClassFile.FieldType.int) ∈ tg := tg_of (List.mem_append_right _ (List.mem_append_right _ (List.mem_append_right _ (List.mem_append_right _ (List.mem_append_left _ (List.mem_of_getElem? (i := 1) rfl)))))) rfl
theorem tw_722 : Jvm.Cond.methodLink "BaselineText" (110 : Nat) ({ cls := "BaselineText$Shelf", name := "count", desc := "()I" } : Jvm.MethodName) ∈ tg := tg_of (List.mem_append_right _ (List.mem_append_right _ (List.mem_append_right _ (List.mem_append_right _ (List.mem_append_left _ (List.mem_of_getElem? (i := 2) rfl)))))) rfl
theorem tw_723 : Jvm.Cond.methodLink "BaselineTextLaw" (51 : Nat) ({ cls := "BaselineText", name := "about", desc := "(III)I" } : Jvm.MethodName) ∈ tg := tg_of (List.mem_append_right _ (List.mem_append_right _ (List.mem_append_right _ (List.mem_append_right _ (List.mem_append_left _ (List.mem_of_getElem? (i := 3) rfl)))))) rfl
theorem tw_724 : Jvm.Cond.instanceMethod ({ cls := "BaselineText", name := "about", desc := "(III)I" } : Jvm.MethodName) ∈ tg := tg_of (List.mem_append_right _ (List.mem_append_right _ (List.mem_append_right _ (List.mem_append_right _ (List.mem_append_left _ (List.mem_of_getElem? (i := 4) rfl)))))) rfl
theorem tw_725 : Jvm.Cond.selects "BaselineText" ({ cls := "BaselineText", name := "about", desc := "(III)I" } : Jvm.MethodName) ({ cls := "BaselineText", name := "about", desc := "(III)I" } : Jvm.MethodName) ∈ tg := tg_of (List.mem_append_right _ (List.mem_append_right _ (List.mem_append_right _ (List.mem_append_right _ (List.mem_append_left _ (List.mem_of_getElem? (i := 5) rfl)))))) rfl
theorem tw_726 : Jvm.Cond.code ({ cls := "BaselineText", name := "about", desc := "(III)I" } : Jvm.MethodName) prog_1_method_10_code (5 : Nat) (Option.some Jvm.ClassFile.FieldType.int) ∈ tg := tg_of (List.mem_append_right _ (List.mem_append_right _ (List.mem_append_right _ (List.mem_append_right _ (List.mem_append_left _ (List.mem_of_getElem? (i := 6) rfl)))))) rfl
theorem tw_727 : Jvm.Cond.methodLink "BaselineText" (113 : Nat) ({ cls := "BaselineText", name := "typeAt", desc := "(II)LBaselineText$Type;" } : Jvm.MethodName) ∈ tg := tg_of (List.mem_append_right _ (List.mem_append_right _ (List.mem_append_right _ (List.mem_append_right _ (List.mem_append_left _ (List.mem_of_getElem? (i := 7) rfl)))))) rfl
theorem tz_728 : Jvm.Cond.privateMethod ({ cls := "BaselineText", name := "typeAt", desc := "(II)LBaselineText$Type;" } : Jvm.MethodName) ∈ lw_tbl := List.mem_append_right _ (List.mem_append_right _ (List.mem_append_right _ (List.mem_append_right _ (List.mem_append_left _ (List.mem_of_getElem? (i := 8) rfl)))))
theorem tw_729 : Jvm.Cond.instanceMethod ({ cls := "BaselineText", name := "typeAt", desc := "(II)LBaselineText$Type;" } : Jvm.MethodName) ∈ tg := tg_of (List.mem_append_right _ (List.mem_append_right _ (List.mem_append_right _ (List.mem_append_right _ (List.mem_append_left _ (List.mem_of_getElem? (i := 9) rfl)))))) rfl
theorem tw_730 : Jvm.Cond.code ({ cls := "BaselineText", name := "typeAt", desc := "(II)LBaselineText$Type;" } : Jvm.MethodName) prog_1_method_19_code (4 : Nat) (Option.some (Jvm.ClassFile.FieldType.object "BaselineText$Type")) ∈ tg := tg_of (List.mem_append_right _ (List.mem_append_right _ (List.mem_append_right _ (List.mem_append_right _ (List.mem_append_left _ (List.mem_of_getElem? (i := 10) rfl)))))) rfl
theorem tw_731 : Jvm.Cond.methodLink "BaselineText" (150 : Nat) ({ cls := "BaselineText$Shelf", name := "get", desc := "(I)LBaselineText$Declaration;" } : Jvm.MethodName) ∈ tg := tg_of (List.mem_append_right _ (List.mem_append_right _ (List.mem_append_right _ (List.mem_append_right _ (List.mem_append_left _ (List.mem_of_getElem? (i := 11) rfl)))))) rfl
theorem tw_732 : Jvm.Cond.classLink "BaselineText" (118 : Nat) "BaselineText$Type" ∈ tg := tg_of (List.mem_append_right _ (List.mem_append_right _ (List.mem_append_right _ (List.mem_append_right _ (List.mem_append_left _ (List.mem_of_getElem? (i := 12) rfl)))))) rfl
theorem tw_733 : Jvm.Cond.methodLink "BaselineTextLaw" (56 : Nat) ({ cls := "BaselineText", name := "member", desc := "(IIII)I" } : Jvm.MethodName) ∈ tg := tg_of (List.mem_append_right _ (List.mem_append_right _ (List.mem_append_right _ (List.mem_append_right _ (List.mem_append_left _ (List.mem_of_getElem? (i := 13) rfl)))))) rfl
theorem tw_734 : Jvm.Cond.instanceMethod ({ cls := "BaselineText", name := "member", desc := "(IIII)I" } : Jvm.MethodName) ∈ tg := tg_of (List.mem_append_right _ (List.mem_append_right _ (List.mem_append_right _ (List.mem_append_right _ (List.mem_append_left _ (List.mem_of_getElem? (i := 14) rfl)))))) rfl
theorem tw_735 : Jvm.Cond.selects "BaselineText" ({ cls := "BaselineText", name := "member", desc := "(IIII)I" } : Jvm.MethodName) ({ cls := "BaselineText", name := "member", desc := "(IIII)I" } : Jvm.MethodName) ∈ tg := tg_of (List.mem_append_right _ (List.mem_append_right _ (List.mem_append_right _ (List.mem_append_right _ (List.mem_append_left _ (List.mem_of_getElem? (i := 15) rfl)))))) rfl
theorem tw_736 : Jvm.Cond.code ({ cls := "BaselineText", name := "member", desc := "(IIII)I" } : Jvm.MethodName) prog_1_method_11_code (6 : Nat) (Option.some Jvm.ClassFile.FieldType.int) ∈ tg := tg_of (List.mem_append_right _ (List.mem_append_right _ (List.mem_append_right _ (List.mem_append_right _ (List.mem_append_left _ (List.mem_of_getElem? (i := 16) rfl)))))) rfl
theorem tw_737 : Jvm.Cond.methodLink "BaselineText" (131 : Nat) ({ cls := "BaselineText", name := "memberAt", desc := "(III)LBaselineText$Declaration;" } : Jvm.MethodName) ∈ tg := tg_of (List.mem_append_right _ (List.mem_append_right _ (List.mem_append_right _ (List.mem_append_right _ (List.mem_append_left _ (List.mem_of_getElem? (i := 17) rfl)))))) rfl
theorem tz_738 : Jvm.Cond.privateMethod ({ cls := "BaselineText", name := "memberAt", desc := "(III)LBaselineText$Declaration;" } : Jvm.MethodName) ∈ lw_tbl := List.mem_append_right _ (List.mem_append_right _ (List.mem_append_right _ (List.mem_append_right _ (List.mem_append_left _ (List.mem_of_getElem? (i := 18) rfl)))))
theorem tw_739 : Jvm.Cond.instanceMethod ({ cls := "BaselineText", name := "memberAt", desc := "(III)LBaselineText$Declaration;" } : Jvm.MethodName) ∈ tg := tg_of (List.mem_append_right _ (List.mem_append_right _ (List.mem_append_right _ (List.mem_append_right _ (List.mem_append_left _ (List.mem_of_getElem? (i := 19) rfl)))))) rfl
theorem tw_740 : Jvm.Cond.code ({ cls := "BaselineText", name := "memberAt", desc := "(III)LBaselineText$Declaration;" } : Jvm.MethodName) prog_1_method_20_code (5 : Nat) (Option.some (Jvm.ClassFile.FieldType.object "BaselineText$Declaration")) ∈ tg := tg_of (List.mem_append_right _ (List.mem_append_right _ (List.mem_append_right _ (List.mem_append_right _ (List.mem_append_left _ (List.mem_of_getElem? (i := 20) rfl)))))) rfl
theorem tw_741 : Jvm.Cond.methodLink "BaselineTextLaw" (61 : Nat) ({ cls := "BaselineText", name := "character", desc := "(IIIII)I" } : Jvm.MethodName) ∈ tg := tg_of (List.mem_append_right _ (List.mem_append_right _ (List.mem_append_right _ (List.mem_append_right _ (List.mem_append_left _ (List.mem_of_getElem? (i := 21) rfl)))))) rfl
theorem tw_742 : Jvm.Cond.instanceMethod ({ cls := "BaselineText", name := "character", desc := "(IIIII)I" } : Jvm.MethodName) ∈ tg := tg_of (List.mem_append_right _ (List.mem_append_right _ (List.mem_append_right _ (List.mem_append_right _ (List.mem_append_left _ (List.mem_of_getElem? (i := 22) rfl)))))) rfl
theorem tw_743 : Jvm.Cond.selects "BaselineText" ({ cls := "BaselineText", name := "character", desc := "(IIIII)I" } : Jvm.MethodName) ({ cls := "BaselineText", name := "character", desc := "(IIIII)I" } : Jvm.MethodName) ∈ tg := tg_of (List.mem_append_right _ (List.mem_append_right _ (List.mem_append_right _ (List.mem_append_right _ (List.mem_append_left _ (List.mem_of_getElem? (i := 23) rfl)))))) rfl
theorem tw_744 : Jvm.Cond.code ({ cls := "BaselineText", name := "character", desc := "(IIIII)I" } : Jvm.MethodName) prog_1_method_12_code (7 : Nat) (Option.some Jvm.ClassFile.FieldType.int) ∈ tg := tg_of (List.mem_append_right _ (List.mem_append_right _ (List.mem_append_right _ (List.mem_append_right _ (List.mem_append_left _ (List.mem_of_getElem? (i := 24) rfl)))))) rfl
theorem tw_745 : Jvm.Cond.methodLink "BaselineTextLaw" (66 : Nat) ({ cls := "BaselineText", name := "differ", desc := "()I" } : Jvm.MethodName) ∈ tg := tg_of (List.mem_append_right _ (List.mem_append_right _ (List.mem_append_right _ (List.mem_append_right _ (List.mem_append_left _ (List.mem_of_getElem? (i := 25) rfl)))))) rfl
theorem tw_746 : Jvm.Cond.instanceMethod ({ cls := "BaselineText", name := "differ", desc := "()I" } : Jvm.MethodName) ∈ tg := tg_of (List.mem_append_right _ (List.mem_append_right _ (List.mem_append_right _ (List.mem_append_right _ (List.mem_append_left _ (List.mem_of_getElem? (i := 26) rfl)))))) rfl
theorem tw_747 : Jvm.Cond.selects "BaselineText" ({ cls := "BaselineText", name := "differ", desc := "()I" } : Jvm.MethodName) ({ cls := "BaselineText", name := "differ", desc := "()I" } : Jvm.MethodName) ∈ tg := tg_of (List.mem_append_right _ (List.mem_append_right _ (List.mem_append_right _ (List.mem_append_right _ (List.mem_append_left _ (List.mem_of_getElem? (i := 27) rfl)))))) rfl
theorem tw_748 : Jvm.Cond.code ({ cls := "BaselineText", name := "differ", desc := "()I" } : Jvm.MethodName) prog_1_method_13_code (1 : Nat) (Option.some Jvm.ClassFile.FieldType.int) ∈ tg := tg_of (List.mem_append_right _ (List.mem_append_right _ (List.mem_append_right _ (List.mem_append_right _ (List.mem_append_left _ (List.mem_of_getElem? (i := 28) rfl)))))) rfl
theorem tw_749 : Jvm.Cond.methodLink "BaselineText" (143 : Nat) ({ cls := "BaselineText$Baseline", name := "firstDifference", desc := "(LBaselineText$Baseline;)I" } : Jvm.MethodName) ∈ tg := tg_of (List.mem_append_right _ (List.mem_append_right _ (List.mem_append_right _ (List.mem_append_right _ (List.mem_append_left _ (List.mem_of_getElem? (i := 29) rfl)))))) rfl
theorem tw_750 : Jvm.Cond.instanceMethod ({ cls := "BaselineText$Baseline", name := "firstDifference", desc := "(LBaselineText$Baseline;)I" } : Jvm.MethodName) ∈ tg := tg_of (List.mem_append_right _ (List.mem_append_right _ (List.mem_append_right _ (List.mem_append_right _ (List.mem_append_left _ (List.mem_of_getElem? (i := 30) rfl)))))) rfl
theorem tw_751 : Jvm.Cond.selects "BaselineText$Baseline" ({ cls := "BaselineText$Baseline", name := "firstDifference", desc := "(LBaselineText$Baseline;)I" } : Jvm.MethodName) ({ cls := "BaselineText$Baseline", name := "firstDifference", desc := "(LBaselineText$Baseline;)I" } : Jvm.MethodName) ∈ tg := tg_of (List.mem_append_right _ (List.mem_append_right _ (List.mem_append_right _ (List.mem_append_right _ (List.mem_append_left _ (List.mem_of_getElem? (i := 31) rfl)))))) rfl
theorem tw_752 : Jvm.Cond.code ({ cls := "BaselineText$Baseline", name := "firstDifference", desc := "(LBaselineText$Baseline;)I" } : Jvm.MethodName) prog_2_method_7_code (7 : Nat) (Option.some Jvm.ClassFile.FieldType.int) ∈ tg := tg_of (List.mem_append_right _ (List.mem_append_right _ (List.mem_append_right _ (List.mem_append_right _ (List.mem_append_left _ (List.mem_of_getElem? (i := 32) rfl)))))) rfl
theorem tw_753 : Jvm.Cond.methodLink "BaselineText$Baseline" (82 : Nat) ({ cls := "BaselineText$Type", name := "isSame", desc := "(LBaselineText$Declaration;)Z" } : Jvm.MethodName) ∈ tg := tg_of (List.mem_append_right _ (List.mem_append_right _ (List.mem_append_right _ (List.mem_append_right _ (List.mem_append_left _ (List.mem_of_getElem? (i := 33) rfl)))))) rfl
theorem tw_754 : Jvm.Cond.sameMethod "BaselineText$Type" "BaselineText$Declaration" "isSame" "(LBaselineText$Declaration;)Z" ∈ tg := tg_of (List.mem_append_right _ (List.mem_append_right _ (List.mem_append_right _ (List.mem_append_right _ (List.mem_append_left _ (List.mem_of_getElem? (i := 34) rfl)))))) rfl
theorem tz_755 : Jvm.Cond.declares ({ cls := "BaselineText$Declaration", name := "isSame", desc := "(LBaselineText$Declaration;)Z" } : Jvm.MethodName) ∈ lw_tbl := List.mem_append_right _ (List.mem_append_right _ (List.mem_append_right _ (List.mem_append_right _ (List.mem_append_left _ (List.mem_of_getElem? (i := 35) rfl)))))
theorem tw_756 : Jvm.Cond.selects "BaselineText$Type" ({ cls := "BaselineText$Type", name := "isSame", desc := "(LBaselineText$Declaration;)Z" } : Jvm.MethodName) ({ cls := "BaselineText$Declaration", name := "isSame", desc := "(LBaselineText$Declaration;)Z" } : Jvm.MethodName) ∈ tg := tg_of (List.mem_append_right _ (List.mem_append_right _ (List.mem_append_right _ (List.mem_append_right _ (List.mem_append_left _ (List.mem_of_getElem? (i := 36) rfl)))))) rfl
theorem tw_757 : Jvm.Cond.instanceMethod ({ cls := "BaselineText$Declaration", name := "isSame", desc := "(LBaselineText$Declaration;)Z" } : Jvm.MethodName) ∈ tg := tg_of (List.mem_append_right _ (List.mem_append_right _ (List.mem_append_right _ (List.mem_append_right _ (List.mem_append_left _ (List.mem_of_getElem? (i := 37) rfl)))))) rfl
theorem tw_758 : Jvm.Cond.code ({ cls := "BaselineText$Declaration", name := "isSame", desc := "(LBaselineText$Declaration;)Z" } : Jvm.MethodName) prog_3_method_4_code (2 : Nat) (Option.some Jvm.ClassFile.FieldType.boolean) ∈ tg := tg_of (List.mem_append_right _ (List.mem_append_right _ (List.mem_append_right _ (List.mem_append_right _ (List.mem_append_left _ (List.mem_of_getElem? (i := 38) rfl)))))) rfl
theorem tw_759 : Jvm.Cond.methodLink "BaselineText$Declaration" (38 : Nat) ({ cls := "BaselineText$Declaration", name := "compare", desc := "(LBaselineText$Declaration;)I" } : Jvm.MethodName) ∈ tg := tg_of (List.mem_append_right _ (List.mem_append_right _ (List.mem_append_right _ (List.mem_append_right _ (List.mem_append_left _ (List.mem_of_getElem? (i := 39) rfl)))))) rfl
theorem tw_760 : Jvm.Cond.methodLink "BaselineText$Baseline" (86 : Nat) ({ cls := "BaselineText$Baseline", name := "sameMembers", desc := "(LBaselineText$Shelf;LBaselineText$Shelf;)I" } : Jvm.MethodName) ∈ tg := tg_of (List.mem_append_right _ (List.mem_append_right _ (List.mem_append_right _ (List.mem_append_right _ (List.mem_append_left _ (List.mem_of_getElem? (i := 40) rfl)))))) rfl
theorem tw_761 : Jvm.Cond.static ({ cls := "BaselineText$Baseline", name := "sameMembers", desc := "(LBaselineText$Shelf;LBaselineText$Shelf;)I" } : Jvm.MethodName) ∈ tg := tg_of (List.mem_append_right _ (List.mem_append_right _ (List.mem_append_right _ (List.mem_append_right _ (List.mem_append_left _ (List.mem_of_getElem? (i := 41) rfl)))))) rfl
theorem tw_762 : Jvm.Cond.code ({ cls := "BaselineText$Baseline", name := "sameMembers", desc := "(LBaselineText$Shelf;LBaselineText$Shelf;)I" } : Jvm.MethodName) prog_2_method_8_code (6 : Nat) (Option.some Jvm.ClassFile.FieldType.int) ∈ tg := tg_of (List.mem_append_right _ (List.mem_append_right _ (List.mem_append_right _ (List.mem_append_right _ (List.mem_append_left _ (List.mem_of_getElem? (i := 42) rfl)))))) rfl
theorem tw_763 : Jvm.Cond.methodLink "BaselineText$Baseline" (96 : Nat) ({ cls := "java/lang/Math", name := "min", desc := "(II)I" } : Jvm.MethodName) ∈ tg := tg_of (List.mem_append_right _ (List.mem_append_right _ (List.mem_append_right _ (List.mem_append_right _ (List.mem_append_left _ (List.mem_of_getElem? (i := 43) rfl)))))) rfl
theorem tw_764 : Jvm.Cond.methodLink "BaselineText$Baseline" (99 : Nat) ({ cls := "BaselineText$Declaration", name := "isSame", desc := "(LBaselineText$Declaration;)Z" } : Jvm.MethodName) ∈ tg := tg_of (List.mem_append_right _ (List.mem_append_right _ (List.mem_append_right _ (List.mem_append_right _ (List.mem_append_left _ (List.mem_of_getElem? (i := 44) rfl)))))) rfl
theorem tw_765 : Jvm.Cond.methodLink "BaselineText$Baseline" (90 : Nat) ({ cls := "java/lang/Math", name := "max", desc := "(II)I" } : Jvm.MethodName) ∈ tg := tg_of (List.mem_append_right _ (List.mem_append_right _ (List.mem_append_right _ (List.mem_append_right _ (List.mem_append_left _ (List.mem_of_getElem? (i := 45) rfl)))))) rfl
theorem tw_766 : Jvm.Cond.methodLink "BaselineTextLaw" (70 : Nat) ({ cls := "BaselineText", name := "lost", desc := "(I)I" } : Jvm.MethodName) ∈ tg := tg_of (List.mem_append_right _ (List.mem_append_right _ (List.mem_append_right _ (List.mem_append_right _ (List.mem_append_left _ (List.mem_of_getElem? (i := 46) rfl)))))) rfl
theorem tw_767 : Jvm.Cond.instanceMethod ({ cls := "BaselineText", name := "lost", desc := "(I)I" } : Jvm.MethodName) ∈ tg := tg_of (List.mem_append_right _ (List.mem_append_right _ (List.mem_append_right _ (List.mem_append_right _ (List.mem_append_left _ (List.mem_of_getElem? (i := 47) rfl)))))) rfl
theorem tw_768 : Jvm.Cond.selects "BaselineText" ({ cls := "BaselineText", name := "lost", desc := "(I)I" } : Jvm.MethodName) ({ cls := "BaselineText", name := "lost", desc := "(I)I" } : Jvm.MethodName) ∈ tg := tg_of (List.mem_append_right _ (List.mem_append_right _ (List.mem_append_right _ (List.mem_append_right _ (List.mem_append_left _ (List.mem_of_getElem? (i := 48) rfl)))))) rfl
theorem tw_769 : Jvm.Cond.code ({ cls := "BaselineText", name := "lost", desc := "(I)I" } : Jvm.MethodName) prog_1_method_14_code (2 : Nat) (Option.some Jvm.ClassFile.FieldType.int) ∈ tg := tg_of (List.mem_append_right _ (List.mem_append_right _ (List.mem_append_right _ (List.mem_append_right _ (List.mem_append_left _ (List.mem_of_getElem? (i := 49) rfl)))))) rfl
theorem tw_770 : Jvm.Cond.methodLink "BaselineText" (147 : Nat) ({ cls := "BaselineText$Baseline", name := "linesMissingIn", desc := "(LBaselineText$Baseline;)I" } : Jvm.MethodName) ∈ tg := tg_of (List.mem_append_right _ (List.mem_append_right _ (List.mem_append_right _ (List.mem_append_right _ (List.mem_append_left _ (List.mem_of_getElem? (i := 50) rfl)))))) rfl
theorem tw_771 : Jvm.Cond.instanceMethod ({ cls := "BaselineText$Baseline", name := "linesMissingIn", desc := "(LBaselineText$Baseline;)I" } : Jvm.MethodName) ∈ tg := tg_of (List.mem_append_right _ (List.mem_append_right _ (List.mem_append_right _ (List.mem_append_right _ (List.mem_append_left _ (List.mem_of_getElem? (i := 51) rfl)))))) rfl
theorem tw_772 : Jvm.Cond.selects "BaselineText$Baseline" ({ cls := "BaselineText$Baseline", name := "linesMissingIn", desc := "(LBaselineText$Baseline;)I" } : Jvm.MethodName) ({ cls := "BaselineText$Baseline", name := "linesMissingIn", desc := "(LBaselineText$Baseline;)I" } : Jvm.MethodName) ∈ tg := tg_of (List.mem_append_right _ (List.mem_append_right _ (List.mem_append_right _ (List.mem_append_right _ (List.mem_append_left _ (List.mem_of_getElem? (i := 52) rfl)))))) rfl
theorem tw_773 : Jvm.Cond.code ({ cls := "BaselineText$Baseline", name := "linesMissingIn", desc := "(LBaselineText$Baseline;)I" } : Jvm.MethodName) prog_2_method_9_code (7 : Nat) (Option.some Jvm.ClassFile.FieldType.int) ∈ tg := tg_of (List.mem_append_right _ (List.mem_append_right _ (List.mem_append_right _ (List.mem_append_right _ (List.mem_append_left _ (List.mem_of_getElem? (i := 53) rfl)))))) rfl
theorem tw_774 : Jvm.Cond.methodLink "BaselineText$Baseline" (100 : Nat) ({ cls := "BaselineText$Baseline", name := "named", desc := "(LBaselineText$Row;)LBaselineText$Type;" } : Jvm.MethodName) ∈ tg := tg_of (List.mem_append_right _ (List.mem_append_right _ (List.mem_append_right _ (List.mem_append_right _ (List.mem_append_left _ (List.mem_of_getElem? (i := 54) rfl)))))) rfl
theorem tw_775 : Jvm.Cond.methodLink "BaselineText$Baseline" (104 : Nat) ({ cls := "BaselineText$Baseline", name := "isSameLine", desc := "(LBaselineText$Declaration;LBaselineText$Declaration;Z)Z" } : Jvm.MethodName) ∈ tg := tg_of (List.mem_append_right _ (List.mem_append_right _ (List.mem_append_right _ (List.mem_append_right _ (List.mem_append_left _ (List.mem_of_getElem? (i := 55) rfl)))))) rfl
theorem tw_776 : Jvm.Cond.static ({ cls := "BaselineText$Baseline", name := "isSameLine", desc := "(LBaselineText$Declaration;LBaselineText$Declaration;Z)Z" } : Jvm.MethodName) ∈ tg := tg_of (List.mem_append_right _ (List.mem_append_right _ (List.mem_append_right _ (List.mem_append_right _ (List.mem_append_left _ (List.mem_of_getElem? (i := 56) rfl)))))) rfl
theorem tw_777 : Jvm.Cond.code ({ cls := "BaselineText$Baseline", name := "isSameLine", desc := "(LBaselineText$Declaration;LBaselineText$Declaration;Z)Z" } : Jvm.MethodName) prog_2_method_11_code (3 : Nat) (Option.some Jvm.ClassFile.FieldType.boolean) ∈ tg := tg_of (List.mem_append_right _ (List.mem_append_right _ (List.mem_append_right _ (List.mem_append_right _ (List.mem_append_left _ (List.mem_of_getElem? (i := 57) rfl)))))) rfl
theorem tw_778 : Jvm.Cond.methodLink "BaselineText$Baseline" (116 : Nat) ({ cls := "BaselineText$Declaration", name := "isFormatFree", desc := "()Z" } : Jvm.MethodName) ∈ tg := tg_of (List.mem_append_right _ (List.mem_append_right _ (List.mem_append_right _ (List.mem_append_right _ (List.mem_append_left _ (List.mem_of_getElem? (i := 58) rfl)))))) rfl
theorem tw_779 : Jvm.Cond.instanceMethod ({ cls := "BaselineText$Declaration", name := "isFormatFree", desc := "()Z" } : Jvm.MethodName) ∈ tg := tg_of (List.mem_append_right _ (List.mem_append_right _ (List.mem_append_right _ (List.mem_append_right _ (List.mem_append_left _ (List.mem_of_getElem? (i := 59) rfl)))))) rfl
theorem tw_780 : Jvm.Cond.selects "BaselineText$Declaration" ({ cls := "BaselineText$Declaration", name := "isFormatFree", desc := "()Z" } : Jvm.MethodName) ({ cls := "BaselineText$Declaration", name := "isFormatFree", desc := "()Z" } : Jvm.MethodName) ∈ tg := tg_of (List.mem_append_right _ (List.mem_append_right _ (List.mem_append_right _ (List.mem_append_right _ (List.mem_append_left _ (List.mem_of_getElem? (i := 60) rfl)))))) rfl
theorem tw_781 : Jvm.Cond.sameMethod "BaselineText$Declaration" "BaselineText$Declaration" "isFormatFree" "()Z" ∈ tg := tg_of (List.mem_append_right _ (List.mem_append_right _ (List.mem_append_right _ (List.mem_append_right _ (List.mem_append_left _ (List.mem_of_getElem? (i := 61) rfl)))))) rfl
theorem tw_782 : Jvm.Cond.selects "BaselineText$Type" ({ cls := "BaselineText$Declaration", name := "isFormatFree", desc := "()Z" } : Jvm.MethodName) ({ cls := "BaselineText$Declaration", name := "isFormatFree", desc := "()Z" } : Jvm.MethodName) ∈ tg := tg_of (List.mem_append_right _ (List.mem_append_right _ (List.mem_append_right _ (List.mem_append_right _ (List.mem_append_left _ (List.mem_of_getElem? (i := 62) rfl)))))) rfl
theorem tw_783 : Jvm.Cond.code ({ cls := "BaselineText$Declaration", name := "isFormatFree", desc := "()Z" } : Jvm.MethodName) prog_3_method_5_code (1 : Nat) (Option.some Jvm.ClassFile.FieldType.boolean) ∈ tg := tg_of (List.mem_append_right _ (List.mem_append_right _ (List.mem_append_right _ (List.mem_append_right _ (List.mem_append_left _ (List.mem_of_getElem? (i := 63) rfl)))))) rfl
theorem tw_784 : Jvm.Cond.methodLink "BaselineText$Declaration" (41 : Nat) ({ cls := "BaselineText$Row", name := "contains", desc := "(C)Z" } : Jvm.MethodName) ∈ tg := tg_of (List.mem_append_right _ (List.mem_append_right _ (List.mem_append_right _ (List.mem_append_right _ (List.mem_append_left _ (List.mem_of_getElem? (i := 64) rfl)))))) rfl
theorem tw_785 : Jvm.Cond.instanceMethod ({ cls := "BaselineText$Row", name := "contains", desc := "(C)Z" } : Jvm.MethodName) ∈ tg := tg_of (List.mem_append_right _ (List.mem_append_right _ (List.mem_append_right _ (List.mem_append_right _ (List.mem_append_left _ (List.mem_of_getElem? (i := 65) rfl)))))) rfl
theorem tw_786 : Jvm.Cond.selects "BaselineText$Row" ({ cls := "BaselineText$Row", name := "contains", desc := "(C)Z" } : Jvm.MethodName) ({ cls := "BaselineText$Row", name := "contains", desc := "(C)Z" } : Jvm.MethodName) ∈ tg := tg_of (List.mem_append_right _ (List.mem_append_right _ (List.mem_append_right _ (List.mem_append_right _ (List.mem_append_left _ (List.mem_of_getElem? (i := 66) rfl)))))) rfl
theorem tw_787 : Jvm.Cond.code ({ cls := "BaselineText$Row", name := "contains", desc := "(C)Z" } : Jvm.MethodName) prog_8_method_10_code (3 : Nat) (Option.some Jvm.ClassFile.FieldType.boolean) ∈ tg := tg_of (List.mem_append_right _ (List.mem_append_right _ (List.mem_append_right _ (List.mem_append_right _ (List.mem_append_left _ (List.mem_of_getElem? (i := 67) rfl)))))) rfl
theorem tw_788 : Jvm.Cond.methodLink "BaselineText$Baseline" (108 : Nat) ({ cls := "BaselineText$Baseline", name := "membersMissingIn", desc := "(LBaselineText$Type;LBaselineText$Shelf;Z)I" } : Jvm.MethodName) ∈ tg := tg_of (List.mem_append_right _ (List.mem_append_right _ (List.mem_append_right _ (List.mem_append_right _ (List.mem_append_left _ (List.mem_of_getElem? (i := 68) rfl)))))) rfl
theorem tw_789 : Jvm.Cond.static ({ cls := "BaselineText$Baseline", name := "membersMissingIn", desc := "(LBaselineText$Type;LBaselineText$Shelf;Z)I" } : Jvm.MethodName) ∈ tg := tg_of (List.mem_append_right _ (List.mem_append_right _ (List.mem_append_right _ (List.mem_append_right _ (List.mem_append_left _ (List.mem_of_getElem? (i := 69) rfl)))))) rfl
theorem tw_790 : Jvm.Cond.code ({ cls := "BaselineText$Baseline", name := "membersMissingIn", desc := "(LBaselineText$Type;LBaselineText$Shelf;Z)I" } : Jvm.MethodName) prog_2_method_10_code (6 : Nat) (Option.some Jvm.ClassFile.FieldType.int) ∈ tg := tg_of (List.mem_append_right _ (List.mem_append_right _ (List.mem_append_right _ (List.mem_append_right _ (List.mem_append_left _ (List.mem_of_getElem? (i := 70) rfl)))))) rfl
theorem tw_791 : Jvm.Cond.methodLink "BaselineText$Baseline" (112 : Nat) ({ cls := "BaselineText$Shelf", name := "alike", desc := "(LBaselineText$Declaration;)LBaselineText$Declaration;" } : Jvm.MethodName) ∈ tg := tg_of (List.mem_append_right _ (List.mem_append_right _ (List.mem_append_right _ (List.mem_append_right _ (List.mem_append_left _ (List.mem_of_getElem? (i := 71) rfl)))))) rfl
theorem tw_792 : Jvm.Cond.methodLink "BaselineTextLaw" (74 : Nat) ({ cls := "BaselineText", name := "swap", desc := "()V" } : Jvm.MethodName) ∈ tg := tg_of (List.mem_append_right _ (List.mem_append_right _ (List.mem_append_right _ (List.mem_append_right _ (List.mem_append_left _ (List.mem_of_getElem? (i := 72) rfl)))))) rfl
theorem tw_793 : Jvm.Cond.instanceMethod ({ cls := "BaselineText", name := "swap", desc := "()V" } : Jvm.MethodName) ∈ tg := tg_of (List.mem_append_right _ (List.mem_append_right _ (List.mem_append_right _ (List.mem_append_right _ (List.mem_append_left _ (List.mem_of_getElem? (i := 73) rfl)))))) rfl
theorem tw_794 : Jvm.Cond.selects "BaselineText" ({ cls := "BaselineText", name := "swap", desc := "()V" } : Jvm.MethodName) ({ cls := "BaselineText", name := "swap", desc := "()V" } : Jvm.MethodName) ∈ tg := tg_of (List.mem_append_right _ (List.mem_append_right _ (List.mem_append_right _ (List.mem_append_right _ (List.mem_append_left _ (List.mem_of_getElem? (i := 74) rfl)))))) rfl
theorem tw_795 : Jvm.Cond.code ({ cls := "BaselineText", name := "swap", desc := "()V" } : Jvm.MethodName) prog_1_method_15_code (2 : Nat) (Option.none : Option Jvm.ClassFile.FieldType) ∈ tg := tg_of (List.mem_append_right _ (List.mem_append_right _ (List.mem_append_right _ (List.mem_append_right _ (List.mem_append_left _ (List.mem_of_getElem? (i := 75) rfl)))))) rfl
theorem tw_796 : Jvm.Cond.classLink "BaselineTextLaw" (10 : Nat) "BaselineTextModel" ∈ tg := tg_of (List.mem_append_right _ (List.mem_append_right _ (List.mem_append_right _ (List.mem_append_right _ (List.mem_append_left _ (List.mem_of_getElem? (i := 76) rfl)))))) rfl
theorem tw_797 : Jvm.Cond.instantiable "BaselineTextModel" (26 : Nat) ∈ tg := tg_of (List.mem_append_right _ (List.mem_append_right _ (List.mem_append_right _ (List.mem_append_right _ (List.mem_append_left _ (List.mem_of_getElem? (i := 77) rfl)))))) rfl
theorem tw_798 : Jvm.Cond.methodLink "BaselineTextLaw" (12 : Nat) ({ cls := "BaselineTextModel", name := "<init>", desc := "()V" } : Jvm.MethodName) ∈ tg := tg_of (List.mem_append_right _ (List.mem_append_right _ (List.mem_append_right _ (List.mem_append_right _ (List.mem_append_left _ (List.mem_of_getElem? (i := 78) rfl)))))) rfl
theorem tw_799 : Jvm.Cond.instanceMethod ({ cls := "BaselineTextModel", name := "<init>", desc := "()V" } : Jvm.MethodName) ∈ tg := tg_of (List.mem_append_right _ (List.mem_append_right _ (List.mem_append_right _ (List.mem_append_right _ (List.mem_append_left _ (List.mem_of_getElem? (i := 79) rfl)))))) rfl
theorem tw_800 : Jvm.Cond.code ({ cls := "BaselineTextModel", name := "<init>", desc := "()V" } : Jvm.MethodName) prog_13_method_1_code (1 : Nat) (Option.none : Option Jvm.ClassFile.FieldType) ∈ tg := tg_of (List.mem_append_right _ (List.mem_append_right _ (List.mem_append_right _ (List.mem_append_right _ (List.mem_append_left _ (List.mem_of_getElem? (i := 80) rfl)))))) rfl
theorem tw_801 : Jvm.Cond.methodLink "BaselineTextModel" (1 : Nat) ({ cls := "java/lang/Object", name := "<init>", desc := "()V" } : Jvm.MethodName) ∈ tg := tg_of (List.mem_append_right _ (List.mem_append_right _ (List.mem_append_right _ (List.mem_append_right _ (List.mem_append_left _ (List.mem_of_getElem? (i := 81) rfl)))))) rfl
theorem tw_802 : Jvm.Cond.fieldLink "BaselineTextModel" (7 : Nat) "BaselineTextModel" "text" "[I" ∈ tg := tg_of (List.mem_append_right _ (List.mem_append_right _ (List.mem_append_right _ (List.mem_append_right _ (List.mem_append_left _ (List.mem_of_getElem? (i := 82) rfl)))))) rfl
theorem tw_803 : Jvm.Cond.fieldLink "BaselineTextModel" (52 : Nat) "BaselineTextModel" "size" "I" ∈ tg := tg_of (List.mem_append_right _ (List.mem_append_right _ (List.mem_append_right _ (List.mem_append_right _ (List.mem_append_left _ (List.mem_of_getElem? (i := 83) rfl)))))) rfl
theorem tw_804 : Jvm.Cond.fieldLink "BaselineTextModel" (13 : Nat) "BaselineTextModel" "diags" "[I" ∈ tg := tg_of (List.mem_append_right _ (List.mem_append_right _ (List.mem_append_right _ (List.mem_append_right _ (List.mem_append_left _ (List.mem_of_getElem? (i := 84) rfl)))))) rfl
theorem tw_805 : Jvm.Cond.fieldLink "BaselineTextModel" (113 : Nat) "BaselineTextModel" "found" "I" ∈ tg := tg_of (List.mem_append_right _ (List.mem_append_right _ (List.mem_append_right _ (List.mem_append_right _ (List.mem_append_left _ (List.mem_of_getElem? (i := 85) rfl)))))) rfl
theorem tw_806 : Jvm.Cond.fieldLink "BaselineTextModel" (58 : Nat) "BaselineTextModel" "crossed" "Z" ∈ tg := tg_of (List.mem_append_right _ (List.mem_append_right _ (List.mem_append_right _ (List.mem_append_right _ (List.mem_append_left _ (List.mem_of_getElem? (i := 86) rfl)))))) rfl
theorem tw_807 : Jvm.Cond.fieldLink "BaselineTextModel" (16 : Nat) "BaselineTextModel" "types" "[I" ∈ tg := tg_of (List.mem_append_right _ (List.mem_append_right _ (List.mem_append_right _ (List.mem_append_right _ (List.mem_append_left _ (List.mem_of_getElem? (i := 87) rfl)))))) rfl
theorem tw_808 : Jvm.Cond.fieldLink "BaselineTextModel" (19 : Nat) "BaselineTextModel" "formats" "[I" ∈ tg := tg_of (List.mem_append_right _ (List.mem_append_right _ (List.mem_append_right _ (List.mem_append_right _ (List.mem_append_left _ (List.mem_of_getElem? (i := 88) rfl)))))) rfl
theorem tw_809 : Jvm.Cond.fieldLink "BaselineTextModel" (22 : Nat) "BaselineTextModel" "name" "[I" ∈ tg := tg_of (List.mem_append_right _ (List.mem_append_right _ (List.mem_append_right _ (List.mem_append_right _ (List.mem_append_left _ (List.mem_of_getElem? (i := 89) rfl)))))) rfl
theorem tw_810 : Jvm.Cond.fieldLink "BaselineTextModel" (25 : Nat) "BaselineTextModel" "desc" "[I" ∈ tg := tg_of (List.mem_append_right _ (List.mem_append_right _ (List.mem_append_right _ (List.mem_append_right _ (List.mem_append_left _ (List.mem_of_getElem? (i := 90) rfl)))))) rfl
theorem tw_811 : Jvm.Cond.fieldLink "BaselineTextModel" (28 : Nat) "BaselineTextModel" "nameSize" "[I" ∈ tg := tg_of (List.mem_append_right _ (List.mem_append_right _ (List.mem_append_right _ (List.mem_append_right _ (List.mem_append_left _ (List.mem_of_getElem? (i := 91) rfl)))))) rfl
theorem tw_812 : Jvm.Cond.fieldLink "BaselineTextModel" (31 : Nat) "BaselineTextModel" "descSize" "[I" ∈ tg := tg_of (List.mem_append_right _ (List.mem_append_right _ (List.mem_append_right _ (List.mem_append_right _ (List.mem_append_left _ (List.mem_of_getElem? (i := 92) rfl)))))) rfl
theorem tw_813 : Jvm.Cond.fieldLink "BaselineTextModel" (34 : Nat) "BaselineTextModel" "kind" "[I" ∈ tg := tg_of (List.mem_append_right _ (List.mem_append_right _ (List.mem_append_right _ (List.mem_append_right _ (List.mem_append_left _ (List.mem_of_getElem? (i := 93) rfl)))))) rfl
theorem tw_814 : Jvm.Cond.fieldLink "BaselineTextModel" (37 : Nat) "BaselineTextModel" "marks" "[I" ∈ tg := tg_of (List.mem_append_right _ (List.mem_append_right _ (List.mem_append_right _ (List.mem_append_right _ (List.mem_append_left _ (List.mem_of_getElem? (i := 94) rfl)))))) rfl
theorem tw_815 : Jvm.Cond.fieldLink "BaselineTextModel" (40 : Nat) "BaselineTextModel" "members" "[I" ∈ tg := tg_of (List.mem_append_right _ (List.mem_append_right _ (List.mem_append_right _ (List.mem_append_right _ (List.mem_append_left _ (List.mem_of_getElem? (i := 95) rfl)))))) rfl
theorem tw_816 : Jvm.Cond.fieldLink "BaselineTextModel" (119 : Nat) "BaselineTextModel" "from" "I" ∈ tg := tg_of (List.mem_append_right _ (List.mem_append_right _ (List.mem_append_right _ (List.mem_append_right _ (List.mem_append_left _ (List.mem_of_getElem? (i := 96) rfl)))))) rfl
theorem tw_817 : Jvm.Cond.fieldLink "BaselineTextModel" (65 : Nat) "BaselineTextModel" "end" "I" ∈ tg := tg_of (List.mem_append_right _ (List.mem_append_right _ (List.mem_append_right _ (List.mem_append_right _ (List.mem_append_left _ (List.mem_of_getElem? (i := 97) rfl)))))) rfl
theorem tw_818 : Jvm.Cond.fieldLink "BaselineTextModel" (68 : Nat) "BaselineTextModel" "wordFrom" "I" ∈ tg := tg_of (List.mem_append_right _ (List.mem_append_right _ (List.mem_append_right _ (List.mem_append_right _ (List.mem_append_left _ (List.mem_of_getElem? (i := 98) rfl)))))) rfl
theorem tw_819 : Jvm.Cond.fieldLink "BaselineTextModel" (62 : Nat) "BaselineTextModel" "wordEnd" "I" ∈ tg := tg_of (List.mem_append_right _ (List.mem_append_right _ (List.mem_append_right _ (List.mem_append_right _ (List.mem_append_left _ (List.mem_of_getElem? (i := 99) rfl)))))) rfl
theorem tw_820 : Jvm.Cond.fieldLink "BaselineTextModel" (98 : Nat) "BaselineTextModel" "format" "I" ∈ tg := tg_of (List.mem_append_right _ (List.mem_append_right _ (List.mem_append_right _ (List.mem_append_right _ (List.mem_append_left _ (List.mem_of_getElem? (i := 100) rfl)))))) rfl
theorem tw_821 : Jvm.Cond.fieldLink "BaselineTextModel" (43 : Nat) "BaselineTextModel" "part" "[I" ∈ tg := tg_of (List.mem_append_right _ (List.mem_append_right _ (List.mem_append_right _ (List.mem_append_right _ (List.mem_append_left _ (List.mem_of_getElem? (i := 101) rfl)))))) rfl
theorem tw_822 : Jvm.Cond.fieldLink "BaselineTextModel" (95 : Nat) "BaselineTextModel" "partSize" "I" ∈ tg := tg_of (List.mem_append_right _ (List.mem_append_right _ (List.mem_append_right _ (List.mem_append_right _ (List.mem_append_left _ (List.mem_of_getElem? (i := 102) rfl)))))) rfl
theorem tw_823 : Jvm.Cond.fieldLink "BaselineTextModel" (116 : Nat) "BaselineTextModel" "code" "I" ∈ tg := tg_of (List.mem_append_right _ (List.mem_append_right _ (List.mem_append_right _ (List.mem_append_right _ (List.mem_append_left _ (List.mem_of_getElem? (i := 103) rfl)))))) rfl
theorem tw_824 : Jvm.Cond.fieldLink "BaselineTextModel" (122 : Nat) "BaselineTextModel" "place" "I" ∈ tg := tg_of (List.mem_append_right _ (List.mem_append_right _ (List.mem_append_right _ (List.mem_append_right _ (List.mem_append_left _ (List.mem_of_getElem? (i := 104) rfl)))))) rfl
theorem tw_825 : Jvm.Cond.fieldLink "BaselineTextModel" (46 : Nat) "BaselineTextModel" "out" "[I" ∈ tg := tg_of (List.mem_append_right _ (List.mem_append_right _ (List.mem_append_right _ (List.mem_append_right _ (List.mem_append_left _ (List.mem_of_getElem? (i := 105) rfl)))))) rfl
theorem tw_826 : Jvm.Cond.fieldLink "BaselineTextModel" (195 : Nat) "BaselineTextModel" "written" "I" ∈ tg := tg_of (List.mem_append_right _ (List.mem_append_right _ (List.mem_append_right _ (List.mem_append_right _ (List.mem_append_left _ (List.mem_of_getElem? (i := 106) rfl)))))) rfl
theorem tw_827 : Jvm.Cond.fieldLink "BaselineTextModel" (49 : Nat) "BaselineTextModel" "other" "[I" ∈ tg := tg_of (List.mem_append_right _ (List.mem_append_right _ (List.mem_append_right _ (List.mem_append_right _ (List.mem_append_left _ (List.mem_of_getElem? (i := 107) rfl)))))) rfl
theorem tw_828 : Jvm.Cond.laysFinal "BaselineTextModel" "BaselineTextModel" "text" "[I" ∈ tg := tg_of (List.mem_append_right _ (List.mem_append_right _ (List.mem_append_right _ (List.mem_append_right _ (List.mem_append_left _ (List.mem_of_getElem? (i := 108) rfl)))))) rfl
theorem tw_829 : Jvm.Cond.soleField "BaselineTextModel" "text" ∈ tg := tg_of (List.mem_append_right _ (List.mem_append_right _ (List.mem_append_right _ (List.mem_append_right _ (List.mem_append_left _ (List.mem_of_getElem? (i := 109) rfl)))))) rfl
theorem tw_830 : Jvm.Cond.lays "BaselineTextModel" "BaselineTextModel" "size" "I" ∈ tg := tg_of (List.mem_append_right _ (List.mem_append_right _ (List.mem_append_right _ (List.mem_append_right _ (List.mem_append_left _ (List.mem_of_getElem? (i := 110) rfl)))))) rfl
theorem tw_831 : Jvm.Cond.soleField "BaselineTextModel" "size" ∈ tg := tg_of (List.mem_append_right _ (List.mem_append_right _ (List.mem_append_right _ (List.mem_append_right _ (List.mem_append_left _ (List.mem_of_getElem? (i := 111) rfl)))))) rfl
theorem tw_832 : Jvm.Cond.laysFinal "BaselineTextModel" "BaselineTextModel" "diags" "[I" ∈ tg := tg_of (List.mem_append_right _ (List.mem_append_right _ (List.mem_append_right _ (List.mem_append_right _ (List.mem_append_left _ (List.mem_of_getElem? (i := 112) rfl)))))) rfl
theorem tw_833 : Jvm.Cond.soleField "BaselineTextModel" "diags" ∈ tg := tg_of (List.mem_append_right _ (List.mem_append_right _ (List.mem_append_right _ (List.mem_append_right _ (List.mem_append_left _ (List.mem_of_getElem? (i := 113) rfl)))))) rfl
theorem tw_834 : Jvm.Cond.lays "BaselineTextModel" "BaselineTextModel" "found" "I" ∈ tg := tg_of (List.mem_append_right _ (List.mem_append_right _ (List.mem_append_right _ (List.mem_append_right _ (List.mem_append_left _ (List.mem_of_getElem? (i := 114) rfl)))))) rfl
theorem tw_835 : Jvm.Cond.soleField "BaselineTextModel" "found" ∈ tg := tg_of (List.mem_append_right _ (List.mem_append_right _ (List.mem_append_right _ (List.mem_append_right _ (List.mem_append_left _ (List.mem_of_getElem? (i := 115) rfl)))))) rfl
theorem tw_836 : Jvm.Cond.lays "BaselineTextModel" "BaselineTextModel" "crossed" "Z" ∈ tg := tg_of (List.mem_append_right _ (List.mem_append_right _ (List.mem_append_right _ (List.mem_append_right _ (List.mem_append_left _ (List.mem_of_getElem? (i := 116) rfl)))))) rfl
theorem tw_837 : Jvm.Cond.soleField "BaselineTextModel" "crossed" ∈ tg := tg_of (List.mem_append_right _ (List.mem_append_right _ (List.mem_append_right _ (List.mem_append_right _ (List.mem_append_left _ (List.mem_of_getElem? (i := 117) rfl)))))) rfl
theorem tw_838 : Jvm.Cond.laysFinal "BaselineTextModel" "BaselineTextModel" "types" "[I" ∈ tg := tg_of (List.mem_append_right _ (List.mem_append_right _ (List.mem_append_right _ (List.mem_append_right _ (List.mem_append_left _ (List.mem_of_getElem? (i := 118) rfl)))))) rfl
theorem tw_839 : Jvm.Cond.soleField "BaselineTextModel" "types" ∈ tg := tg_of (List.mem_append_right _ (List.mem_append_right _ (List.mem_append_right _ (List.mem_append_right _ (List.mem_append_left _ (List.mem_of_getElem? (i := 119) rfl)))))) rfl
theorem tw_840 : Jvm.Cond.laysFinal "BaselineTextModel" "BaselineTextModel" "formats" "[I" ∈ tg := tg_of (List.mem_append_right _ (List.mem_append_right _ (List.mem_append_right _ (List.mem_append_right _ (List.mem_append_left _ (List.mem_of_getElem? (i := 120) rfl)))))) rfl
theorem tw_841 : Jvm.Cond.soleField "BaselineTextModel" "formats" ∈ tg := tg_of (List.mem_append_right _ (List.mem_append_right _ (List.mem_append_right _ (List.mem_append_right _ (List.mem_append_left _ (List.mem_of_getElem? (i := 121) rfl)))))) rfl
theorem tw_842 : Jvm.Cond.laysFinal "BaselineTextModel" "BaselineTextModel" "name" "[I" ∈ tg := tg_of (List.mem_append_right _ (List.mem_append_right _ (List.mem_append_right _ (List.mem_append_right _ (List.mem_append_left _ (List.mem_of_getElem? (i := 122) rfl)))))) rfl
theorem tw_843 : Jvm.Cond.soleField "BaselineTextModel" "name" ∈ tg := tg_of (List.mem_append_right _ (List.mem_append_right _ (List.mem_append_right _ (List.mem_append_right _ (List.mem_append_left _ (List.mem_of_getElem? (i := 123) rfl)))))) rfl
theorem tw_844 : Jvm.Cond.laysFinal "BaselineTextModel" "BaselineTextModel" "desc" "[I" ∈ tg := tg_of (List.mem_append_right _ (List.mem_append_right _ (List.mem_append_right _ (List.mem_append_right _ (List.mem_append_left _ (List.mem_of_getElem? (i := 124) rfl)))))) rfl
theorem tw_845 : Jvm.Cond.soleField "BaselineTextModel" "desc" ∈ tg := tg_of (List.mem_append_right _ (List.mem_append_right _ (List.mem_append_right _ (List.mem_append_right _ (List.mem_append_left _ (List.mem_of_getElem? (i := 125) rfl)))))) rfl
theorem tw_846 : Jvm.Cond.laysFinal "BaselineTextModel" "BaselineTextModel" "nameSize" "[I" ∈ tg := tg_of (List.mem_append_right _ (List.mem_append_right _ (List.mem_append_right _ (List.mem_append_right _ (List.mem_append_left _ (List.mem_of_getElem? (i := 126) rfl)))))) rfl
theorem tw_847 : Jvm.Cond.soleField "BaselineTextModel" "nameSize" ∈ tg := tg_of (List.mem_append_right _ (List.mem_append_right _ (List.mem_append_right _ (List.mem_append_right _ (List.mem_append_left _ (List.mem_of_getElem? (i := 127) rfl)))))) rfl
theorem tw_848 : Jvm.Cond.laysFinal "BaselineTextModel" "BaselineTextModel" "descSize" "[I" ∈ tg := tg_of (List.mem_append_right _ (List.mem_append_right _ (List.mem_append_right _ (List.mem_append_right _ (List.mem_append_left _ (List.mem_of_getElem? (i := 128) rfl)))))) rfl
theorem tw_849 : Jvm.Cond.soleField "BaselineTextModel" "descSize" ∈ tg := tg_of (List.mem_append_right _ (List.mem_append_right _ (List.mem_append_right _ (List.mem_append_right _ (List.mem_append_left _ (List.mem_of_getElem? (i := 129) rfl)))))) rfl
theorem tw_850 : Jvm.Cond.laysFinal "BaselineTextModel" "BaselineTextModel" "kind" "[I" ∈ tg := tg_of (List.mem_append_right _ (List.mem_append_right _ (List.mem_append_right _ (List.mem_append_right _ (List.mem_append_left _ (List.mem_of_getElem? (i := 130) rfl)))))) rfl
theorem tw_851 : Jvm.Cond.soleField "BaselineTextModel" "kind" ∈ tg := tg_of (List.mem_append_right _ (List.mem_append_right _ (List.mem_append_right _ (List.mem_append_right _ (List.mem_append_left _ (List.mem_of_getElem? (i := 131) rfl)))))) rfl
theorem tw_852 : Jvm.Cond.laysFinal "BaselineTextModel" "BaselineTextModel" "marks" "[I" ∈ tg := tg_of (List.mem_append_right _ (List.mem_append_right _ (List.mem_append_right _ (List.mem_append_right _ (List.mem_append_left _ (List.mem_of_getElem? (i := 132) rfl)))))) rfl
theorem tw_853 : Jvm.Cond.soleField "BaselineTextModel" "marks" ∈ tg := tg_of (List.mem_append_right _ (List.mem_append_right _ (List.mem_append_right _ (List.mem_append_right _ (List.mem_append_left _ (List.mem_of_getElem? (i := 133) rfl)))))) rfl
theorem tw_854 : Jvm.Cond.laysFinal "BaselineTextModel" "BaselineTextModel" "members" "[I" ∈ tg := tg_of (List.mem_append_right _ (List.mem_append_right _ (List.mem_append_right _ (List.mem_append_right _ (List.mem_append_left _ (List.mem_of_getElem? (i := 134) rfl)))))) rfl
theorem tw_855 : Jvm.Cond.soleField "BaselineTextModel" "members" ∈ tg := tg_of (List.mem_append_right _ (List.mem_append_right _ (List.mem_append_right _ (List.mem_append_right _ (List.mem_append_left _ (List.mem_of_getElem? (i := 135) rfl)))))) rfl
theorem tw_856 : Jvm.Cond.lays "BaselineTextModel" "BaselineTextModel" "from" "I" ∈ tg := tg_of (List.mem_append_right _ (List.mem_append_right _ (List.mem_append_right _ (List.mem_append_right _ (List.mem_append_left _ (List.mem_of_getElem? (i := 136) rfl)))))) rfl
theorem tw_857 : Jvm.Cond.soleField "BaselineTextModel" "from" ∈ tg := tg_of (List.mem_append_right _ (List.mem_append_right _ (List.mem_append_right _ (List.mem_append_right _ (List.mem_append_left _ (List.mem_of_getElem? (i := 137) rfl)))))) rfl
theorem tw_858 : Jvm.Cond.lays "BaselineTextModel" "BaselineTextModel" "end" "I" ∈ tg := tg_of (List.mem_append_right _ (List.mem_append_right _ (List.mem_append_right _ (List.mem_append_right _ (List.mem_append_left _ (List.mem_of_getElem? (i := 138) rfl)))))) rfl
theorem tw_859 : Jvm.Cond.soleField "BaselineTextModel" "end" ∈ tg := tg_of (List.mem_append_right _ (List.mem_append_right _ (List.mem_append_right _ (List.mem_append_right _ (List.mem_append_left _ (List.mem_of_getElem? (i := 139) rfl)))))) rfl
theorem tw_860 : Jvm.Cond.lays "BaselineTextModel" "BaselineTextModel" "wordFrom" "I" ∈ tg := tg_of (List.mem_append_right _ (List.mem_append_right _ (List.mem_append_right _ (List.mem_append_right _ (List.mem_append_left _ (List.mem_of_getElem? (i := 140) rfl)))))) rfl
theorem tw_861 : Jvm.Cond.soleField "BaselineTextModel" "wordFrom" ∈ tg := tg_of (List.mem_append_right _ (List.mem_append_right _ (List.mem_append_right _ (List.mem_append_right _ (List.mem_append_left _ (List.mem_of_getElem? (i := 141) rfl)))))) rfl
theorem tw_862 : Jvm.Cond.lays "BaselineTextModel" "BaselineTextModel" "wordEnd" "I" ∈ tg := tg_of (List.mem_append_right _ (List.mem_append_right _ (List.mem_append_right _ (List.mem_append_right _ (List.mem_append_left _ (List.mem_of_getElem? (i := 142) rfl)))))) rfl
theorem tw_863 : Jvm.Cond.soleField "BaselineTextModel" "wordEnd" ∈ tg := tg_of (List.mem_append_right _ (List.mem_append_right _ (List.mem_append_right _ (List.mem_append_right _ (List.mem_append_left _ (List.mem_of_getElem? (i := 143) rfl)))))) rfl
theorem tw_864 : Jvm.Cond.lays "BaselineTextModel" "BaselineTextModel" "format" "I" ∈ tg := tg_of (List.mem_append_right _ (List.mem_append_right _ (List.mem_append_right _ (List.mem_append_right _ (List.mem_append_left _ (List.mem_of_getElem? (i := 144) rfl)))))) rfl
theorem tw_865 : Jvm.Cond.soleField "BaselineTextModel" "format" ∈ tg := tg_of (List.mem_append_right _ (List.mem_append_right _ (List.mem_append_right _ (List.mem_append_right _ (List.mem_append_left _ (List.mem_of_getElem? (i := 145) rfl)))))) rfl
theorem tw_866 : Jvm.Cond.laysFinal "BaselineTextModel" "BaselineTextModel" "part" "[I" ∈ tg := tg_of (List.mem_append_right _ (List.mem_append_right _ (List.mem_append_right _ (List.mem_append_right _ (List.mem_append_left _ (List.mem_of_getElem? (i := 146) rfl)))))) rfl
theorem tw_867 : Jvm.Cond.soleField "BaselineTextModel" "part" ∈ tg := tg_of (List.mem_append_right _ (List.mem_append_right _ (List.mem_append_right _ (List.mem_append_right _ (List.mem_append_left _ (List.mem_of_getElem? (i := 147) rfl)))))) rfl
theorem tw_868 : Jvm.Cond.lays "BaselineTextModel" "BaselineTextModel" "partSize" "I" ∈ tg := tg_of (List.mem_append_right _ (List.mem_append_right _ (List.mem_append_right _ (List.mem_append_right _ (List.mem_append_left _ (List.mem_of_getElem? (i := 148) rfl)))))) rfl
theorem tw_869 : Jvm.Cond.soleField "BaselineTextModel" "partSize" ∈ tg := tg_of (List.mem_append_right _ (List.mem_append_right _ (List.mem_append_right _ (List.mem_append_right _ (List.mem_append_left _ (List.mem_of_getElem? (i := 149) rfl)))))) rfl
theorem tw_870 : Jvm.Cond.lays "BaselineTextModel" "BaselineTextModel" "code" "I" ∈ tg := tg_of (List.mem_append_right _ (List.mem_append_right _ (List.mem_append_right _ (List.mem_append_right _ (List.mem_append_left _ (List.mem_of_getElem? (i := 150) rfl)))))) rfl
theorem tw_871 : Jvm.Cond.soleField "BaselineTextModel" "code" ∈ tg := tg_of (List.mem_append_right _ (List.mem_append_right _ (List.mem_append_right _ (List.mem_append_right _ (List.mem_append_left _ (List.mem_of_getElem? (i := 151) rfl)))))) rfl
theorem tw_872 : Jvm.Cond.lays "BaselineTextModel" "BaselineTextModel" "place" "I" ∈ tg := tg_of (List.mem_append_right _ (List.mem_append_right _ (List.mem_append_right _ (List.mem_append_right _ (List.mem_append_left _ (List.mem_of_getElem? (i := 152) rfl)))))) rfl
theorem tw_873 : Jvm.Cond.soleField "BaselineTextModel" "place" ∈ tg := tg_of (List.mem_append_right _ (List.mem_append_right _ (List.mem_append_right _ (List.mem_append_right _ (List.mem_append_left _ (List.mem_of_getElem? (i := 153) rfl)))))) rfl
theorem tw_874 : Jvm.Cond.laysFinal "BaselineTextModel" "BaselineTextModel" "out" "[I" ∈ tg := tg_of (List.mem_append_right _ (List.mem_append_right _ (List.mem_append_right _ (List.mem_append_right _ (List.mem_append_left _ (List.mem_of_getElem? (i := 154) rfl)))))) rfl
theorem tw_875 : Jvm.Cond.soleField "BaselineTextModel" "out" ∈ tg := tg_of (List.mem_append_right _ (List.mem_append_right _ (List.mem_append_right _ (List.mem_append_right _ (List.mem_append_left _ (List.mem_of_getElem? (i := 155) rfl)))))) rfl
theorem tw_876 : Jvm.Cond.lays "BaselineTextModel" "BaselineTextModel" "written" "I" ∈ tg := tg_of (List.mem_append_right _ (List.mem_append_right _ (List.mem_append_right _ (List.mem_append_right _ (List.mem_append_left _ (List.mem_of_getElem? (i := 156) rfl)))))) rfl
theorem tw_877 : Jvm.Cond.soleField "BaselineTextModel" "written" ∈ tg := tg_of (List.mem_append_right _ (List.mem_append_right _ (List.mem_append_right _ (List.mem_append_right _ (List.mem_append_left _ (List.mem_of_getElem? (i := 157) rfl)))))) rfl
theorem tw_878 : Jvm.Cond.laysFinal "BaselineTextModel" "BaselineTextModel" "other" "[I" ∈ tg := tg_of (List.mem_append_right _ (List.mem_append_right _ (List.mem_append_right _ (List.mem_append_right _ (List.mem_append_left _ (List.mem_of_getElem? (i := 158) rfl)))))) rfl
theorem tw_879 : Jvm.Cond.soleField "BaselineTextModel" "other" ∈ tg := tg_of (List.mem_append_right _ (List.mem_append_right _ (List.mem_append_right _ (List.mem_append_right _ (List.mem_append_left _ (List.mem_of_getElem? (i := 159) rfl)))))) rfl
theorem tw_880 : Jvm.Cond.superclass "BaselineTextModel" "java/lang/Object" ∈ tg := tg_of (List.mem_append_right _ (List.mem_append_right _ (List.mem_append_right _ (List.mem_append_right _ (List.mem_append_left _ (List.mem_of_getElem? (i := 160) rfl)))))) rfl
theorem tw_881 : Jvm.Cond.methodLink "BaselineTextLaw" (19 : Nat) ({ cls := "BaselineTextModel", name := "type", desc := "(JI)I" } : Jvm.MethodName) ∈ tg := tg_of (List.mem_append_right _ (List.mem_append_right _ (List.mem_append_right _ (List.mem_append_right _ (List.mem_append_left _ (List.mem_of_getElem? (i := 161) rfl)))))) rfl
theorem tw_882 : Jvm.Cond.instanceMethod ({ cls := "BaselineTextModel", name := "type", desc := "(JI)I" } : Jvm.MethodName) ∈ tg := tg_of (List.mem_append_right _ (List.mem_append_right _ (List.mem_append_right _ (List.mem_append_right _ (List.mem_append_left _ (List.mem_of_getElem? (i := 162) rfl)))))) rfl
theorem tw_883 : Jvm.Cond.selects "BaselineTextModel" ({ cls := "BaselineTextModel", name := "type", desc := "(JI)I" } : Jvm.MethodName) ({ cls := "BaselineTextModel", name := "type", desc := "(JI)I" } : Jvm.MethodName) ∈ tg := tg_of (List.mem_append_right _ (List.mem_append_right _ (List.mem_append_right _ (List.mem_append_right _ (List.mem_append_left _ (List.mem_of_getElem? (i := 163) rfl)))))) rfl
theorem tw_884 : Jvm.Cond.code ({ cls := "BaselineTextModel", name := "type", desc := "(JI)I" } : Jvm.MethodName) prog_13_method_2_code (6 : Nat) (Option.some Jvm.ClassFile.FieldType.int) ∈ tg := tg_of (List.mem_append_right _ (List.mem_append_right _ (List.mem_append_right _ (List.mem_append_right _ (List.mem_append_left _ (List.mem_of_getElem? (i := 164) rfl)))))) rfl
theorem tw_885 : Jvm.Cond.constantLong "BaselineTextModel" (56 : Nat) (255 : Int64) ∈ tg := tg_of (List.mem_append_right _ (List.mem_append_right _ (List.mem_append_right _ (List.mem_append_right _ (List.mem_append_left _ (List.mem_of_getElem? (i := 165) rfl)))))) rfl
theorem tw_886 : Jvm.Cond.methodLink "BaselineTextLaw" (24 : Nat) ({ cls := "BaselineTextModel", name := "clear", desc := "()I" } : Jvm.MethodName) ∈ tg := tg_of (List.mem_append_right _ (List.mem_append_right _ (List.mem_append_right _ (List.mem_append_right _ (List.mem_append_left _ (List.mem_of_getElem? (i := 166) rfl)))))) rfl
theorem tw_887 : Jvm.Cond.instanceMethod ({ cls := "BaselineTextModel", name := "clear", desc := "()I" } : Jvm.MethodName) ∈ tg := tg_of (List.mem_append_right _ (List.mem_append_right _ (List.mem_append_right _ (List.mem_append_right _ (List.mem_append_left _ (List.mem_of_getElem? (i := 167) rfl)))))) rfl
theorem tw_888 : Jvm.Cond.selects "BaselineTextModel" ({ cls := "BaselineTextModel", name := "clear", desc := "()I" } : Jvm.MethodName) ({ cls := "BaselineTextModel", name := "clear", desc := "()I" } : Jvm.MethodName) ∈ tg := tg_of (List.mem_append_right _ (List.mem_append_right _ (List.mem_append_right _ (List.mem_append_right _ (List.mem_append_left _ (List.mem_of_getElem? (i := 168) rfl)))))) rfl
theorem tw_889 : Jvm.Cond.code ({ cls := "BaselineTextModel", name := "clear", desc := "()I" } : Jvm.MethodName) prog_13_method_3_code (2 : Nat) (Option.some Jvm.ClassFile.FieldType.int) ∈ tg := tg_of (List.mem_append_right _ (List.mem_append_right _ (List.mem_append_right _ (List.mem_append_right _ (List.mem_append_left _ (List.mem_of_getElem? (i := 169) rfl)))))) rfl
theorem tw_890 : Jvm.Cond.methodLink "BaselineTextLaw" (29 : Nat) ({ cls := "BaselineTextModel", name := "read", desc := "(I)I" } : Jvm.MethodName) ∈ tg := tg_of (List.mem_append_right _ (List.mem_append_right _ (List.mem_append_right _ (List.mem_append_right _ (List.mem_append_left _ (List.mem_of_getElem? (i := 170) rfl)))))) rfl
theorem tw_891 : Jvm.Cond.instanceMethod ({ cls := "BaselineTextModel", name := "read", desc := "(I)I" } : Jvm.MethodName) ∈ tg := tg_of (List.mem_append_right _ (List.mem_append_right _ (List.mem_append_right _ (List.mem_append_right _ (List.mem_append_left _ (List.mem_of_getElem? (i := 171) rfl)))))) rfl
theorem tw_892 : Jvm.Cond.selects "BaselineTextModel" ({ cls := "BaselineTextModel", name := "read", desc := "(I)I" } : Jvm.MethodName) ({ cls := "BaselineTextModel", name := "read", desc := "(I)I" } : Jvm.MethodName) ∈ tg := tg_of (List.mem_append_right _ (List.mem_append_right _ (List.mem_append_right _ (List.mem_append_right _ (List.mem_append_left _ (List.mem_of_getElem? (i := 172) rfl)))))) rfl
theorem tw_893 : Jvm.Cond.code ({ cls := "BaselineTextModel", name := "read", desc := "(I)I" } : Jvm.MethodName) prog_13_method_25_code (9 : Nat) (Option.some Jvm.ClassFile.FieldType.int) ∈ tg := tg_of (List.mem_append_right _ (List.mem_append_right _ (List.mem_append_right _ (List.mem_append_right _ (List.mem_append_left _ (List.mem_of_getElem? (i := 173) rfl)))))) rfl
theorem tw_894 : Jvm.Cond.methodLink "BaselineTextModel" (173 : Nat) ({ cls := "BaselineTextModel", name := "none", desc := "(I)Z" } : Jvm.MethodName) ∈ tg := tg_of (List.mem_append_right _ (List.mem_append_right _ (List.mem_append_right _ (List.mem_append_right _ (List.mem_append_left _ (List.mem_of_getElem? (i := 174) rfl)))))) rfl
theorem tw_895 : Jvm.Cond.static ({ cls := "BaselineTextModel", name := "none", desc := "(I)Z" } : Jvm.MethodName) ∈ tg := tg_of (List.mem_append_right _ (List.mem_append_right _ (List.mem_append_right _ (List.mem_append_right _ (List.mem_append_left _ (List.mem_of_getElem? (i := 175) rfl)))))) rfl
theorem tw_896 : Jvm.Cond.code ({ cls := "BaselineTextModel", name := "none", desc := "(I)Z" } : Jvm.MethodName) prog_13_method_4_code (1 : Nat) (Option.some Jvm.ClassFile.FieldType.boolean) ∈ tg := tg_of (List.mem_append_right _ (List.mem_append_right _ (List.mem_append_right _ (List.mem_append_right _ (List.mem_append_left _ (List.mem_of_getElem? (i := 176) rfl)))))) rfl
theorem tw_897 : Jvm.Cond.methodLink "BaselineTextModel" (176 : Nat) ({ cls := "BaselineTextModel", name := "side", desc := "(I)I" } : Jvm.MethodName) ∈ tg := tg_of (List.mem_append_right _ (List.mem_append_right _ (List.mem_append_right _ (List.mem_append_right _ (List.mem_append_left _ (List.mem_of_getElem? (i := 177) rfl)))))) rfl
theorem tz_898 : Jvm.Cond.privateMethod ({ cls := "BaselineTextModel", name := "side", desc := "(I)I" } : Jvm.MethodName) ∈ lw_tbl := List.mem_append_right _ (List.mem_append_right _ (List.mem_append_right _ (List.mem_append_right _ (List.mem_append_left _ (List.mem_of_getElem? (i := 178) rfl)))))
theorem tw_899 : Jvm.Cond.instanceMethod ({ cls := "BaselineTextModel", name := "side", desc := "(I)I" } : Jvm.MethodName) ∈ tg := tg_of (List.mem_append_right _ (List.mem_append_right _ (List.mem_append_right _ (List.mem_append_right _ (List.mem_append_left _ (List.mem_of_getElem? (i := 179) rfl)))))) rfl
theorem tw_900 : Jvm.Cond.code ({ cls := "BaselineTextModel", name := "side", desc := "(I)I" } : Jvm.MethodName) prog_13_method_5_code (2 : Nat) (Option.some Jvm.ClassFile.FieldType.int) ∈ tg := tg_of (List.mem_append_right _ (List.mem_append_right _ (List.mem_append_right _ (List.mem_append_right _ (List.mem_append_left _ (List.mem_of_getElem? (i := 180) rfl)))))) rfl
theorem tw_901 : Jvm.Cond.methodLink "BaselineTextModel" (125 : Nat) ({ cls := "BaselineTextModel", name := "next", desc := "()Z" } : Jvm.MethodName) ∈ tg := tg_of (List.mem_append_right _ (List.mem_append_right _ (List.mem_append_right _ (List.mem_append_right _ (List.mem_append_left _ (List.mem_of_getElem? (i := 181) rfl)))))) rfl
theorem tz_902 : Jvm.Cond.privateMethod ({ cls := "BaselineTextModel", name := "next", desc := "()Z" } : Jvm.MethodName) ∈ lw_tbl := List.mem_append_right _ (List.mem_append_right _ (List.mem_append_right _ (List.mem_append_right _ (List.mem_append_left _ (List.mem_of_getElem? (i := 182) rfl)))))
theorem tw_903 : Jvm.Cond.instanceMethod ({ cls := "BaselineTextModel", name := "next", desc := "()Z" } : Jvm.MethodName) ∈ tg := tg_of (List.mem_append_right _ (List.mem_append_right _ (List.mem_append_right _ (List.mem_append_right _ (List.mem_append_left _ (List.mem_of_getElem? (i := 183) rfl)))))) rfl
theorem tw_904 : Jvm.Cond.code ({ cls := "BaselineTextModel", name := "next", desc := "()Z" } : Jvm.MethodName) prog_13_method_6_code (2 : Nat) (Option.some Jvm.ClassFile.FieldType.boolean) ∈ tg := tg_of (List.mem_append_right _ (List.mem_append_right _ (List.mem_append_right _ (List.mem_append_right _ (List.mem_append_left _ (List.mem_of_getElem? (i := 184) rfl)))))) rfl
theorem tw_905 : Jvm.Cond.methodLink "BaselineTextModel" (179 : Nat) ({ cls := "BaselineTextModel", name := "first", desc := "(II)I" } : Jvm.MethodName) ∈ tg := tg_of (List.mem_append_right _ (List.mem_append_right _ (List.mem_append_right _ (List.mem_append_right _ (List.mem_append_left _ (List.mem_of_getElem? (i := 185) rfl)))))) rfl
theorem tz_906 : Jvm.Cond.privateMethod ({ cls := "BaselineTextModel", name := "first", desc := "(II)I" } : Jvm.MethodName) ∈ lw_tbl := List.mem_append_right _ (List.mem_append_right _ (List.mem_append_right _ (List.mem_append_right _ (List.mem_append_left _ (List.mem_of_getElem? (i := 186) rfl)))))
theorem tw_907 : Jvm.Cond.instanceMethod ({ cls := "BaselineTextModel", name := "first", desc := "(II)I" } : Jvm.MethodName) ∈ tg := tg_of (List.mem_append_right _ (List.mem_append_right _ (List.mem_append_right _ (List.mem_append_right _ (List.mem_append_left _ (List.mem_of_getElem? (i := 187) rfl)))))) rfl
theorem tw_908 : Jvm.Cond.code ({ cls := "BaselineTextModel", name := "first", desc := "(II)I" } : Jvm.MethodName) prog_13_method_24_code (7 : Nat) (Option.some Jvm.ClassFile.FieldType.int) ∈ tg := tg_of (List.mem_append_right _ (List.mem_append_right _ (List.mem_append_right _ (List.mem_append_right _ (List.mem_append_left _ (List.mem_of_getElem? (i := 188) rfl)))))) rfl
theorem tw_909 : Jvm.Cond.methodLink "BaselineTextModel" (129 : Nat) ({ cls := "BaselineTextModel", name := "word", desc := "()J" } : Jvm.MethodName) ∈ tg := tg_of (List.mem_append_right _ (List.mem_append_right _ (List.mem_append_right _ (List.mem_append_right _ (List.mem_append_left _ (List.mem_of_getElem? (i := 189) rfl)))))) rfl
theorem tz_910 : Jvm.Cond.privateMethod ({ cls := "BaselineTextModel", name := "word", desc := "()J" } : Jvm.MethodName) ∈ lw_tbl := List.mem_append_right _ (List.mem_append_right _ (List.mem_append_right _ (List.mem_append_right _ (List.mem_append_left _ (List.mem_of_getElem? (i := 190) rfl)))))
theorem tw_911 : Jvm.Cond.instanceMethod ({ cls := "BaselineTextModel", name := "word", desc := "()J" } : Jvm.MethodName) ∈ tg := tg_of (List.mem_append_right _ (List.mem_append_right _ (List.mem_append_right _ (List.mem_append_right _ (List.mem_append_left _ (List.mem_of_getElem? (i := 191) rfl)))))) rfl
theorem tw_912 : Jvm.Cond.code ({ cls := "BaselineTextModel", name := "word", desc := "()J" } : Jvm.MethodName) prog_13_method_7_code (4 : Nat) (Option.some Jvm.ClassFile.FieldType.long) ∈ tg := tg_of (List.mem_append_right _ (List.mem_append_right _ (List.mem_append_right _ (List.mem_append_right _ (List.mem_append_left _ (List.mem_of_getElem? (i := 192) rfl)))))) rfl
theorem tw_913 : Jvm.Cond.constantLong "BaselineTextModel" (71 : Nat) (128 : Int64) ∈ tg := tg_of (List.mem_append_right _ (List.mem_append_right _ (List.mem_append_right _ (List.mem_append_right _ (List.mem_append_left _ (List.mem_of_getElem? (i := 193) rfl)))))) rfl
theorem tw_914 : Jvm.Cond.constantLong "BaselineTextModel" (167 : Nat) (75298023 : Int64) ∈ tg := tg_of (List.mem_append_right _ (List.mem_append_right _ (List.mem_append_right _ (List.mem_append_right _ (List.mem_append_left _ (List.mem_of_getElem? (i := 194) rfl)))))) rfl
theorem tw_915 : Jvm.Cond.methodLink "BaselineTextModel" (169 : Nat) ({ cls := "BaselineTextModel", name := "tell", desc := "(III)V" } : Jvm.MethodName) ∈ tg := tg_of (List.mem_append_right _ (List.mem_append_right _ (List.mem_append_right _ (List.mem_append_right _ (List.mem_append_left _ (List.mem_of_getElem? (i := 195) rfl)))))) rfl
theorem tz_916 : Jvm.Cond.privateMethod ({ cls := "BaselineTextModel", name := "tell", desc := "(III)V" } : Jvm.MethodName) ∈ lw_tbl := List.mem_append_right _ (List.mem_append_right _ (List.mem_append_right _ (List.mem_append_right _ (List.mem_append_left _ (List.mem_of_getElem? (i := 196) rfl)))))
theorem tw_917 : Jvm.Cond.instanceMethod ({ cls := "BaselineTextModel", name := "tell", desc := "(III)V" } : Jvm.MethodName) ∈ tg := tg_of (List.mem_append_right _ (List.mem_append_right _ (List.mem_append_right _ (List.mem_append_right _ (List.mem_append_left _ (List.mem_of_getElem? (i := 197) rfl)))))) rfl
theorem tw_918 : Jvm.Cond.code ({ cls := "BaselineTextModel", name := "tell", desc := "(III)V" } : Jvm.MethodName) prog_13_method_16_code (4 : Nat) (Option.none : Option Jvm.ClassFile.FieldType) ∈ tg := tg_of (List.mem_append_right _ (List.mem_append_right _ (List.mem_append_right _ (List.mem_append_right _ (List.mem_append_left _ (List.mem_of_getElem? (i := 198) rfl)))))) rfl
theorem tw_919 : Jvm.Cond.methodLink "BaselineTextModel" (182 : Nat) ({ cls := "BaselineTextModel", name := "body", desc := "(III)I" } : Jvm.MethodName) ∈ tg := tg_of (List.mem_append_right _ (List.mem_append_right _ (List.mem_append_right _ (List.mem_append_right _ (List.mem_append_left _ (List.mem_of_getElem? (i := 199) rfl)))))) rfl
theorem tz_920 : Jvm.Cond.privateMethod ({ cls := "BaselineTextModel", name := "body", desc := "(III)I" } : Jvm.MethodName) ∈ lw_tbl := List.mem_append_right _ (List.mem_append_right _ (List.mem_append_right _ (List.mem_append_right _ (List.mem_append_left _ (List.mem_of_getElem? (i := 200) rfl)))))
theorem tw_921 : Jvm.Cond.instanceMethod ({ cls := "BaselineTextModel", name := "body", desc := "(III)I" } : Jvm.MethodName) ∈ tg := tg_of (List.mem_append_right _ (List.mem_append_right _ (List.mem_append_right _ (List.mem_append_right _ (List.mem_append_left _ (List.mem_of_getElem? (i := 201) rfl)))))) rfl
theorem tw_922 : Jvm.Cond.code ({ cls := "BaselineTextModel", name := "body", desc := "(III)I" } : Jvm.MethodName) prog_13_method_26_code (8 : Nat) (Option.some Jvm.ClassFile.FieldType.int) ∈ tg := tg_of (List.mem_append_right _ (List.mem_append_right _ (List.mem_append_right _ (List.mem_append_right _ (List.mem_append_left _ (List.mem_of_getElem? (i := 202) rfl)))))) rfl
theorem tw_923 : Jvm.Cond.methodLink "BaselineTextModel" (186 : Nat) ({ cls := "BaselineTextModel", name := "memberLine", desc := "(II)V" } : Jvm.MethodName) ∈ tg := tg_of (List.mem_append_right _ (List.mem_append_right _ (List.mem_append_right _ (List.mem_append_right _ (List.mem_append_left _ (List.mem_of_getElem? (i := 203) rfl)))))) rfl
theorem tz_924 : Jvm.Cond.privateMethod ({ cls := "BaselineTextModel", name := "memberLine", desc := "(II)V" } : Jvm.MethodName) ∈ lw_tbl := List.mem_append_right _ (List.mem_append_right _ (List.mem_append_right _ (List.mem_append_right _ (List.mem_append_left _ (List.mem_of_getElem? (i := 204) rfl)))))
theorem tw_925 : Jvm.Cond.instanceMethod ({ cls := "BaselineTextModel", name := "memberLine", desc := "(II)V" } : Jvm.MethodName) ∈ tg := tg_of (List.mem_append_right _ (List.mem_append_right _ (List.mem_append_right _ (List.mem_append_right _ (List.mem_append_left _ (List.mem_of_getElem? (i := 205) rfl)))))) rfl
theorem tw_926 : Jvm.Cond.code ({ cls := "BaselineTextModel", name := "memberLine", desc := "(II)V" } : Jvm.MethodName) prog_13_method_23_code (5 : Nat) (Option.none : Option Jvm.ClassFile.FieldType) ∈ tg := tg_of (List.mem_append_right _ (List.mem_append_right _ (List.mem_append_right _ (List.mem_append_right _ (List.mem_append_left _ (List.mem_of_getElem? (i := 206) rfl)))))) rfl
theorem tw_927 : Jvm.Cond.methodLink "BaselineTextModel" (156 : Nat) ({ cls := "BaselineTextModel", name := "words", desc := "(ZI)Z" } : Jvm.MethodName) ∈ tg := tg_of (List.mem_append_right _ (List.mem_append_right _ (List.mem_append_right _ (List.mem_append_right _ (List.mem_append_left _ (List.mem_of_getElem? (i := 207) rfl)))))) rfl
theorem tz_928 : Jvm.Cond.privateMethod ({ cls := "BaselineTextModel", name := "words", desc := "(ZI)Z" } : Jvm.MethodName) ∈ lw_tbl := List.mem_append_right _ (List.mem_append_right _ (List.mem_append_right _ (List.mem_append_right _ (List.mem_append_left _ (List.mem_of_getElem? (i := 208) rfl)))))
theorem tw_929 : Jvm.Cond.instanceMethod ({ cls := "BaselineTextModel", name := "words", desc := "(ZI)Z" } : Jvm.MethodName) ∈ tg := tg_of (List.mem_append_right _ (List.mem_append_right _ (List.mem_append_right _ (List.mem_append_right _ (List.mem_append_left _ (List.mem_of_getElem? (i := 209) rfl)))))) rfl
theorem tw_930 : Jvm.Cond.code ({ cls := "BaselineTextModel", name := "words", desc := "(ZI)Z" } : Jvm.MethodName) prog_13_method_18_code (8 : Nat) (Option.some Jvm.ClassFile.FieldType.boolean) ∈ tg := tg_of (List.mem_append_right _ (List.mem_append_right _ (List.mem_append_right _ (List.mem_append_right _ (List.mem_append_left _ (List.mem_of_getElem? (i := 210) rfl)))))) rfl
theorem tw_931 : Jvm.Cond.methodLink "BaselineTextModel" (133 : Nat) ({ cls := "BaselineTextModel", name := "mark", desc := "(ZJ)I" } : Jvm.MethodName) ∈ tg := tg_of (List.mem_append_right _ (List.mem_append_right _ (List.mem_append_right _ (List.mem_append_right _ (List.mem_append_left _ (List.mem_of_getElem? (i := 211) rfl)))))) rfl
theorem tw_932 : Jvm.Cond.static ({ cls := "BaselineTextModel", name := "mark", desc := "(ZJ)I" } : Jvm.MethodName) ∈ tg := tg_of (List.mem_append_right _ (List.mem_append_right _ (List.mem_append_right _ (List.mem_append_right _ (List.mem_append_left _ (List.mem_of_getElem? (i := 212) rfl)))))) rfl
theorem tw_933 : Jvm.Cond.code ({ cls := "BaselineTextModel", name := "mark", desc := "(ZJ)I" } : Jvm.MethodName) prog_13_method_8_code (3 : Nat) (Option.some Jvm.ClassFile.FieldType.int) ∈ tg := tg_of (List.mem_append_right _ (List.mem_append_right _ (List.mem_append_right _ (List.mem_append_right _ (List.mem_append_left _ (List.mem_of_getElem? (i := 213) rfl)))))) rfl
theorem tw_934 : Jvm.Cond.constantLong "BaselineTextModel" (73 : Nat) (3879904949475 : Int64) ∈ tg := tg_of (List.mem_append_right _ (List.mem_append_right _ (List.mem_append_right _ (List.mem_append_right _ (List.mem_append_left _ (List.mem_of_getElem? (i := 214) rfl)))))) rfl
theorem tw_935 : Jvm.Cond.constantLong "BaselineTextModel" (75 : Nat) (27602432236 : Int64) ∈ tg := tg_of (List.mem_append_right _ (List.mem_append_right _ (List.mem_append_right _ (List.mem_append_right _ (List.mem_append_left _ (List.mem_of_getElem? (i := 215) rfl)))))) rfl
theorem tw_936 : Jvm.Cond.constantLong "BaselineTextModel" (77 : Nat) (55041136789058036 : Int64) ∈ tg := tg_of (List.mem_append_right _ (List.mem_append_right _ (List.mem_append_right _ (List.mem_append_right _ (List.mem_append_left _ (List.mem_of_getElem? (i := 216) rfl)))))) rfl
theorem tw_937 : Jvm.Cond.constantLong "BaselineTextModel" (79 : Nat) (8135119023151854308 : Int64) ∈ tg := tg_of (List.mem_append_right _ (List.mem_append_right _ (List.mem_append_right _ (List.mem_append_right _ (List.mem_append_left _ (List.mem_of_getElem? (i := 217) rfl)))))) rfl
theorem tw_938 : Jvm.Cond.constantLong "BaselineTextModel" (81 : Nat) (3982713763043 : Int64) ∈ tg := tg_of (List.mem_append_right _ (List.mem_append_right _ (List.mem_append_right _ (List.mem_append_right _ (List.mem_append_left _ (List.mem_of_getElem? (i := 218) rfl)))))) rfl
theorem tw_939 : Jvm.Cond.methodLink "BaselineTextModel" (137 : Nat) ({ cls := "BaselineTextModel", name := "fail", desc := "(I)Z" } : Jvm.MethodName) ∈ tg := tg_of (List.mem_append_right _ (List.mem_append_right _ (List.mem_append_right _ (List.mem_append_right _ (List.mem_append_left _ (List.mem_of_getElem? (i := 219) rfl)))))) rfl
theorem tz_940 : Jvm.Cond.privateMethod ({ cls := "BaselineTextModel", name := "fail", desc := "(I)Z" } : Jvm.MethodName) ∈ lw_tbl := List.mem_append_right _ (List.mem_append_right _ (List.mem_append_right _ (List.mem_append_right _ (List.mem_append_left _ (List.mem_of_getElem? (i := 220) rfl)))))
theorem tw_941 : Jvm.Cond.instanceMethod ({ cls := "BaselineTextModel", name := "fail", desc := "(I)Z" } : Jvm.MethodName) ∈ tg := tg_of (List.mem_append_right _ (List.mem_append_right _ (List.mem_append_right _ (List.mem_append_right _ (List.mem_append_left _ (List.mem_of_getElem? (i := 221) rfl)))))) rfl
theorem tw_942 : Jvm.Cond.code ({ cls := "BaselineTextModel", name := "fail", desc := "(I)Z" } : Jvm.MethodName) prog_13_method_17_code (2 : Nat) (Option.some Jvm.ClassFile.FieldType.boolean) ∈ tg := tg_of (List.mem_append_right _ (List.mem_append_right _ (List.mem_append_right _ (List.mem_append_right _ (List.mem_append_left _ (List.mem_of_getElem? (i := 222) rfl)))))) rfl
theorem tw_943 : Jvm.Cond.methodLink "BaselineTextModel" (140 : Nat) ({ cls := "BaselineTextModel", name := "kindOf", desc := "(ZJ)I" } : Jvm.MethodName) ∈ tg := tg_of (List.mem_append_right _ (List.mem_append_right _ (List.mem_append_right _ (List.mem_append_right _ (List.mem_append_left _ (List.mem_of_getElem? (i := 223) rfl)))))) rfl
theorem tw_944 : Jvm.Cond.static ({ cls := "BaselineTextModel", name := "kindOf", desc := "(ZJ)I" } : Jvm.MethodName) ∈ tg := tg_of (List.mem_append_right _ (List.mem_append_right _ (List.mem_append_right _ (List.mem_append_right _ (List.mem_append_left _ (List.mem_of_getElem? (i := 224) rfl)))))) rfl
theorem tw_945 : Jvm.Cond.code ({ cls := "BaselineTextModel", name := "kindOf", desc := "(ZJ)I" } : Jvm.MethodName) prog_13_method_9_code (3 : Nat) (Option.some Jvm.ClassFile.FieldType.int) ∈ tg := tg_of (List.mem_append_right _ (List.mem_append_right _ (List.mem_append_right _ (List.mem_append_right _ (List.mem_append_left _ (List.mem_of_getElem? (i := 225) rfl)))))) rfl
theorem tw_946 : Jvm.Cond.constantLong "BaselineTextModel" (83 : Nat) (27602286180 : Int64) ∈ tg := tg_of (List.mem_append_right _ (List.mem_append_right _ (List.mem_append_right _ (List.mem_append_right _ (List.mem_append_left _ (List.mem_of_getElem? (i := 226) rfl)))))) rfl
theorem tw_947 : Jvm.Cond.constantLong "BaselineTextModel" (85 : Nat) (3772568451044 : Int64) ∈ tg := tg_of (List.mem_append_right _ (List.mem_append_right _ (List.mem_append_right _ (List.mem_append_right _ (List.mem_append_left _ (List.mem_of_getElem? (i := 227) rfl)))))) rfl
theorem tw_948 : Jvm.Cond.constantLong "BaselineTextModel" (87 : Nat) (26803206643 : Int64) ∈ tg := tg_of (List.mem_append_right _ (List.mem_append_right _ (List.mem_append_right _ (List.mem_append_right _ (List.mem_append_left _ (List.mem_of_getElem? (i := 228) rfl)))))) rfl
theorem tw_949 : Jvm.Cond.constantLong "BaselineTextModel" (89 : Nat) (7628485543404794341 : Int64) ∈ tg := tg_of (List.mem_append_right _ (List.mem_append_right _ (List.mem_append_right _ (List.mem_append_right _ (List.mem_append_left _ (List.mem_of_getElem? (i := 229) rfl)))))) rfl
theorem tw_950 : Jvm.Cond.constantLong "BaselineTextModel" (91 : Nat) (213629677 : Int64) ∈ tg := tg_of (List.mem_append_right _ (List.mem_append_right _ (List.mem_append_right _ (List.mem_append_right _ (List.mem_append_left _ (List.mem_of_getElem? (i := 230) rfl)))))) rfl
theorem tw_951 : Jvm.Cond.constantLong "BaselineTextModel" (93 : Nat) (3944331606372 : Int64) ∈ tg := tg_of (List.mem_append_right _ (List.mem_append_right _ (List.mem_append_right _ (List.mem_append_right _ (List.mem_append_left _ (List.mem_of_getElem? (i := 231) rfl)))))) rfl
theorem tw_952 : Jvm.Cond.methodLink "BaselineTextModel" (143 : Nat) ({ cls := "BaselineTextModel", name := "take", desc := "()Z" } : Jvm.MethodName) ∈ tg := tg_of (List.mem_append_right _ (List.mem_append_right _ (List.mem_append_right _ (List.mem_append_right _ (List.mem_append_left _ (List.mem_of_getElem? (i := 232) rfl)))))) rfl
theorem tz_953 : Jvm.Cond.privateMethod ({ cls := "BaselineTextModel", name := "take", desc := "()Z" } : Jvm.MethodName) ∈ lw_tbl := List.mem_append_right _ (List.mem_append_right _ (List.mem_append_right _ (List.mem_append_right _ (List.mem_append_left _ (List.mem_of_getElem? (i := 233) rfl)))))
theorem tw_954 : Jvm.Cond.instanceMethod ({ cls := "BaselineTextModel", name := "take", desc := "()Z" } : Jvm.MethodName) ∈ tg := tg_of (List.mem_append_right _ (List.mem_append_right _ (List.mem_append_right _ (List.mem_append_right _ (List.mem_append_left _ (List.mem_of_getElem? (i := 234) rfl)))))) rfl
theorem tw_955 : Jvm.Cond.code ({ cls := "BaselineTextModel", name := "take", desc := "()Z" } : Jvm.MethodName) prog_13_method_10_code (3 : Nat) (Option.some Jvm.ClassFile.FieldType.boolean) ∈ tg := tg_of (List.mem_append_right _ (List.mem_append_right _ (List.mem_append_right _ (List.mem_append_right _ (List.mem_append_left _ (List.mem_of_getElem? (i := 235) rfl)))))) rfl
theorem tw_956 : Jvm.Cond.methodLink "BaselineTextModel" (105 : Nat) ({ cls := "BaselineTextModel", name := "dotted", desc := "(III)Z" } : Jvm.MethodName) ∈ tg := tg_of (List.mem_append_right _ (List.mem_append_right _ (List.mem_append_right _ (List.mem_append_right _ (List.mem_append_left _ (List.mem_of_getElem? (i := 236) rfl)))))) rfl
theorem tz_957 : Jvm.Cond.privateMethod ({ cls := "BaselineTextModel", name := "dotted", desc := "(III)Z" } : Jvm.MethodName) ∈ lw_tbl := List.mem_append_right _ (List.mem_append_right _ (List.mem_append_right _ (List.mem_append_right _ (List.mem_append_left _ (List.mem_of_getElem? (i := 237) rfl)))))
theorem tw_958 : Jvm.Cond.instanceMethod ({ cls := "BaselineTextModel", name := "dotted", desc := "(III)Z" } : Jvm.MethodName) ∈ tg := tg_of (List.mem_append_right _ (List.mem_append_right _ (List.mem_append_right _ (List.mem_append_right _ (List.mem_append_left _ (List.mem_of_getElem? (i := 238) rfl)))))) rfl
theorem tw_959 : Jvm.Cond.code ({ cls := "BaselineTextModel", name := "dotted", desc := "(III)Z" } : Jvm.MethodName) prog_13_method_12_code (7 : Nat) (Option.some Jvm.ClassFile.FieldType.boolean) ∈ tg := tg_of (List.mem_append_right _ (List.mem_append_right _ (List.mem_append_right _ (List.mem_append_right _ (List.mem_append_left _ (List.mem_of_getElem? (i := 239) rfl)))))) rfl
theorem tw_960 : Jvm.Cond.methodLink "BaselineTextModel" (101 : Nat) ({ cls := "BaselineTextModel", name := "begins", desc := "(I)Z" } : Jvm.MethodName) ∈ tg := tg_of (List.mem_append_right _ (List.mem_append_right _ (List.mem_append_right _ (List.mem_append_right _ (List.mem_append_right _ (List.mem_of_getElem? (i := 0) rfl)))))) rfl
theorem tw_961 : Jvm.Cond.static ({ cls := "BaselineTextModel", name := "begins", desc := "(I)Z" } : Jvm.MethodName) ∈ tg := tg_of (List.mem_append_right _ (List.mem_append_right _ (List.mem_append_right _ (List.mem_append_right _ (List.mem_append_right _ (List.mem_of_getElem? (i := 1) rfl)))))) rfl
theorem tw_962 : Jvm.Cond.code ({ cls := "BaselineTextModel", name := "begins", desc := "(I)Z" } : Jvm.MethodName) prog_13_method_11_code (1 : Nat) (Option.some Jvm.ClassFile.FieldType.boolean) ∈ tg := tg_of (List.mem_append_right _ (List.mem_append_right _ (List.mem_append_right _ (List.mem_append_right _ (List.mem_append_right _ (List.mem_of_getElem? (i := 2) rfl)))))) rfl
theorem tw_963 : Jvm.Cond.methodLink "BaselineTextModel" (146 : Nat) ({ cls := "BaselineTextModel", name := "init", desc := "()Z" } : Jvm.MethodName) ∈ tg := tg_of (List.mem_append_right _ (List.mem_append_right _ (List.mem_append_right _ (List.mem_append_right _ (List.mem_append_right _ (List.mem_of_getElem? (i := 3) rfl)))))) rfl
theorem tz_964 : Jvm.Cond.privateMethod ({ cls := "BaselineTextModel", name := "init", desc := "()Z" } : Jvm.MethodName) ∈ lw_tbl := List.mem_append_right _ (List.mem_append_right _ (List.mem_append_right _ (List.mem_append_right _ (List.mem_append_right _ (List.mem_of_getElem? (i := 4) rfl)))))
theorem tw_965 : Jvm.Cond.instanceMethod ({ cls := "BaselineTextModel", name := "init", desc := "()Z" } : Jvm.MethodName) ∈ tg := tg_of (List.mem_append_right _ (List.mem_append_right _ (List.mem_append_right _ (List.mem_append_right _ (List.mem_append_right _ (List.mem_of_getElem? (i := 5) rfl)))))) rfl
theorem tw_966 : Jvm.Cond.code ({ cls := "BaselineTextModel", name := "init", desc := "()Z" } : Jvm.MethodName) prog_13_method_13_code (1 : Nat) (Option.some Jvm.ClassFile.FieldType.boolean) ∈ tg := tg_of (List.mem_append_right _ (List.mem_append_right _ (List.mem_append_right _ (List.mem_append_right _ (List.mem_append_right _ (List.mem_of_getElem? (i := 6) rfl)))))) rfl
theorem tw_967 : Jvm.Cond.methodLink "BaselineTextModel" (149 : Nat) ({ cls := "BaselineTextModel", name := "method", desc := "()Z" } : Jvm.MethodName) ∈ tg := tg_of (List.mem_append_right _ (List.mem_append_right _ (List.mem_append_right _ (List.mem_append_right _ (List.mem_append_right _ (List.mem_of_getElem? (i := 7) rfl)))))) rfl
theorem tz_968 : Jvm.Cond.privateMethod ({ cls := "BaselineTextModel", name := "method", desc := "()Z" } : Jvm.MethodName) ∈ lw_tbl := List.mem_append_right _ (List.mem_append_right _ (List.mem_append_right _ (List.mem_append_right _ (List.mem_append_right _ (List.mem_of_getElem? (i := 8) rfl)))))
theorem tw_969 : Jvm.Cond.instanceMethod ({ cls := "BaselineTextModel", name := "method", desc := "()Z" } : Jvm.MethodName) ∈ tg := tg_of (List.mem_append_right _ (List.mem_append_right _ (List.mem_append_right _ (List.mem_append_right _ (List.mem_append_right _ (List.mem_of_getElem? (i := 9) rfl)))))) rfl
theorem tw_970 : Jvm.Cond.code ({ cls := "BaselineTextModel", name := "method", desc := "()Z" } : Jvm.MethodName) prog_13_method_15_code (2 : Nat) (Option.some Jvm.ClassFile.FieldType.boolean) ∈ tg := tg_of (List.mem_append_right _ (List.mem_append_right _ (List.mem_append_right _ (List.mem_append_right _ (List.mem_append_right _ (List.mem_of_getElem? (i := 10) rfl)))))) rfl
theorem tw_971 : Jvm.Cond.methodLink "BaselineTextModel" (109 : Nat) ({ cls := "BaselineTextModel", name := "field", desc := "(I)I" } : Jvm.MethodName) ∈ tg := tg_of (List.mem_append_right _ (List.mem_append_right _ (List.mem_append_right _ (List.mem_append_right _ (List.mem_append_right _ (List.mem_of_getElem? (i := 11) rfl)))))) rfl
theorem tz_972 : Jvm.Cond.privateMethod ({ cls := "BaselineTextModel", name := "field", desc := "(I)I" } : Jvm.MethodName) ∈ lw_tbl := List.mem_append_right _ (List.mem_append_right _ (List.mem_append_right _ (List.mem_append_right _ (List.mem_append_right _ (List.mem_of_getElem? (i := 12) rfl)))))
theorem tw_973 : Jvm.Cond.instanceMethod ({ cls := "BaselineTextModel", name := "field", desc := "(I)I" } : Jvm.MethodName) ∈ tg := tg_of (List.mem_append_right _ (List.mem_append_right _ (List.mem_append_right _ (List.mem_append_right _ (List.mem_append_right _ (List.mem_of_getElem? (i := 13) rfl)))))) rfl
theorem tw_974 : Jvm.Cond.code ({ cls := "BaselineTextModel", name := "field", desc := "(I)I" } : Jvm.MethodName) prog_13_method_14_code (5 : Nat) (Option.some Jvm.ClassFile.FieldType.int) ∈ tg := tg_of (List.mem_append_right _ (List.mem_append_right _ (List.mem_append_right _ (List.mem_append_right _ (List.mem_append_right _ (List.mem_of_getElem? (i := 14) rfl)))))) rfl
theorem tw_975 : Jvm.Cond.methodLink "BaselineTextModel" (164 : Nat) ({ cls := "BaselineTextModel", name := "compareMembers", desc := "(II)I" } : Jvm.MethodName) ∈ tg := tg_of (List.mem_append_right _ (List.mem_append_right _ (List.mem_append_right _ (List.mem_append_right _ (List.mem_append_right _ (List.mem_of_getElem? (i := 15) rfl)))))) rfl
theorem tz_976 : Jvm.Cond.privateMethod ({ cls := "BaselineTextModel", name := "compareMembers", desc := "(II)I" } : Jvm.MethodName) ∈ lw_tbl := List.mem_append_right _ (List.mem_append_right _ (List.mem_append_right _ (List.mem_append_right _ (List.mem_append_right _ (List.mem_of_getElem? (i := 16) rfl)))))
theorem tw_977 : Jvm.Cond.instanceMethod ({ cls := "BaselineTextModel", name := "compareMembers", desc := "(II)I" } : Jvm.MethodName) ∈ tg := tg_of (List.mem_append_right _ (List.mem_append_right _ (List.mem_append_right _ (List.mem_append_right _ (List.mem_append_right _ (List.mem_of_getElem? (i := 17) rfl)))))) rfl
theorem tw_978 : Jvm.Cond.code ({ cls := "BaselineTextModel", name := "compareMembers", desc := "(II)I" } : Jvm.MethodName) prog_13_method_20_code (6 : Nat) (Option.some Jvm.ClassFile.FieldType.int) ∈ tg := tg_of (List.mem_append_right _ (List.mem_append_right _ (List.mem_append_right _ (List.mem_append_right _ (List.mem_append_right _ (List.mem_of_getElem? (i := 18) rfl)))))) rfl
theorem tw_979 : Jvm.Cond.methodLink "BaselineTextModel" (152 : Nat) ({ cls := "BaselineTextModel", name := "compareNames", desc := "(II)I" } : Jvm.MethodName) ∈ tg := tg_of (List.mem_append_right _ (List.mem_append_right _ (List.mem_append_right _ (List.mem_append_right _ (List.mem_append_right _ (List.mem_of_getElem? (i := 19) rfl)))))) rfl
theorem tz_980 : Jvm.Cond.privateMethod ({ cls := "BaselineTextModel", name := "compareNames", desc := "(II)I" } : Jvm.MethodName) ∈ lw_tbl := List.mem_append_right _ (List.mem_append_right _ (List.mem_append_right _ (List.mem_append_right _ (List.mem_append_right _ (List.mem_of_getElem? (i := 20) rfl)))))
theorem tw_981 : Jvm.Cond.instanceMethod ({ cls := "BaselineTextModel", name := "compareNames", desc := "(II)I" } : Jvm.MethodName) ∈ tg := tg_of (List.mem_append_right _ (List.mem_append_right _ (List.mem_append_right _ (List.mem_append_right _ (List.mem_append_right _ (List.mem_of_getElem? (i := 21) rfl)))))) rfl
theorem tw_982 : Jvm.Cond.code ({ cls := "BaselineTextModel", name := "compareNames", desc := "(II)I" } : Jvm.MethodName) prog_13_method_19_code (5 : Nat) (Option.some Jvm.ClassFile.FieldType.int) ∈ tg := tg_of (List.mem_append_right _ (List.mem_append_right _ (List.mem_append_right _ (List.mem_append_right _ (List.mem_append_right _ (List.mem_of_getElem? (i := 22) rfl)))))) rfl
theorem tw_983 : Jvm.Cond.methodLink "BaselineTextModel" (160 : Nat) ({ cls := "BaselineTextModel", name := "move", desc := "(II)V" } : Jvm.MethodName) ∈ tg := tg_of (List.mem_append_right _ (List.mem_append_right _ (List.mem_append_right _ (List.mem_append_right _ (List.mem_append_right _ (List.mem_of_getElem? (i := 23) rfl)))))) rfl
theorem tz_984 : Jvm.Cond.privateMethod ({ cls := "BaselineTextModel", name := "move", desc := "(II)V" } : Jvm.MethodName) ∈ lw_tbl := List.mem_append_right _ (List.mem_append_right _ (List.mem_append_right _ (List.mem_append_right _ (List.mem_append_right _ (List.mem_of_getElem? (i := 24) rfl)))))
theorem tw_985 : Jvm.Cond.instanceMethod ({ cls := "BaselineTextModel", name := "move", desc := "(II)V" } : Jvm.MethodName) ∈ tg := tg_of (List.mem_append_right _ (List.mem_append_right _ (List.mem_append_right _ (List.mem_append_right _ (List.mem_append_right _ (List.mem_of_getElem? (i := 25) rfl)))))) rfl
theorem tw_986 : Jvm.Cond.code ({ cls := "BaselineTextModel", name := "move", desc := "(II)V" } : Jvm.MethodName) prog_13_method_21_code (4 : Nat) (Option.none : Option Jvm.ClassFile.FieldType) ∈ tg := tg_of (List.mem_append_right _ (List.mem_append_right _ (List.mem_append_right _ (List.mem_append_right _ (List.mem_append_right _ (List.mem_of_getElem? (i := 26) rfl)))))) rfl
theorem tw_987 : Jvm.Cond.methodLink "BaselineTextModel" (189 : Nat) ({ cls := "BaselineTextModel", name := "typeLine", desc := "(I)I" } : Jvm.MethodName) ∈ tg := tg_of (List.mem_append_right _ (List.mem_append_right _ (List.mem_append_right _ (List.mem_append_right _ (List.mem_append_right _ (List.mem_of_getElem? (i := 27) rfl)))))) rfl
theorem tz_988 : Jvm.Cond.privateMethod ({ cls := "BaselineTextModel", name := "typeLine", desc := "(I)I" } : Jvm.MethodName) ∈ lw_tbl := List.mem_append_right _ (List.mem_append_right _ (List.mem_append_right _ (List.mem_append_right _ (List.mem_append_right _ (List.mem_of_getElem? (i := 28) rfl)))))
theorem tw_989 : Jvm.Cond.instanceMethod ({ cls := "BaselineTextModel", name := "typeLine", desc := "(I)I" } : Jvm.MethodName) ∈ tg := tg_of (List.mem_append_right _ (List.mem_append_right _ (List.mem_append_right _ (List.mem_append_right _ (List.mem_append_right _ (List.mem_of_getElem? (i := 29) rfl)))))) rfl
theorem tw_990 : Jvm.Cond.code ({ cls := "BaselineTextModel", name := "typeLine", desc := "(I)I" } : Jvm.MethodName) prog_13_method_22_code (3 : Nat) (Option.some Jvm.ClassFile.FieldType.int) ∈ tg := tg_of (List.mem_append_right _ (List.mem_append_right _ (List.mem_append_right _ (List.mem_append_right _ (List.mem_append_right _ (List.mem_of_getElem? (i := 30) rfl)))))) rfl
theorem tw_991 : Jvm.Cond.methodLink "BaselineTextLaw" (46 : Nat) ({ cls := "BaselineTextModel", name := "diagnostic", desc := "(II)I" } : Jvm.MethodName) ∈ tg := tg_of (List.mem_append_right _ (List.mem_append_right _ (List.mem_append_right _ (List.mem_append_right _ (List.mem_append_right _ (List.mem_of_getElem? (i := 31) rfl)))))) rfl
theorem tw_992 : Jvm.Cond.instanceMethod ({ cls := "BaselineTextModel", name := "diagnostic", desc := "(II)I" } : Jvm.MethodName) ∈ tg := tg_of (List.mem_append_right _ (List.mem_append_right _ (List.mem_append_right _ (List.mem_append_right _ (List.mem_append_right _ (List.mem_of_getElem? (i := 32) rfl)))))) rfl
theorem tw_993 : Jvm.Cond.selects "BaselineTextModel" ({ cls := "BaselineTextModel", name := "diagnostic", desc := "(II)I" } : Jvm.MethodName) ({ cls := "BaselineTextModel", name := "diagnostic", desc := "(II)I" } : Jvm.MethodName) ∈ tg := tg_of (List.mem_append_right _ (List.mem_append_right _ (List.mem_append_right _ (List.mem_append_right _ (List.mem_append_right _ (List.mem_of_getElem? (i := 33) rfl)))))) rfl
theorem tw_994 : Jvm.Cond.code ({ cls := "BaselineTextModel", name := "diagnostic", desc := "(II)I" } : Jvm.MethodName) prog_13_method_27_code (4 : Nat) (Option.some Jvm.ClassFile.FieldType.int) ∈ tg := tg_of (List.mem_append_right _ (List.mem_append_right _ (List.mem_append_right _ (List.mem_append_right _ (List.mem_append_right _ (List.mem_of_getElem? (i := 34) rfl)))))) rfl
theorem tw_995 : Jvm.Cond.methodLink "BaselineTextLaw" (33 : Nat) ({ cls := "BaselineTextModel", name := "write", desc := "(I)I" } : Jvm.MethodName) ∈ tg := tg_of (List.mem_append_right _ (List.mem_append_right _ (List.mem_append_right _ (List.mem_append_right _ (List.mem_append_right _ (List.mem_of_getElem? (i := 35) rfl)))))) rfl
theorem tw_996 : Jvm.Cond.instanceMethod ({ cls := "BaselineTextModel", name := "write", desc := "(I)I" } : Jvm.MethodName) ∈ tg := tg_of (List.mem_append_right _ (List.mem_append_right _ (List.mem_append_right _ (List.mem_append_right _ (List.mem_append_right _ (List.mem_of_getElem? (i := 36) rfl)))))) rfl
theorem tw_997 : Jvm.Cond.selects "BaselineTextModel" ({ cls := "BaselineTextModel", name := "write", desc := "(I)I" } : Jvm.MethodName) ({ cls := "BaselineTextModel", name := "write", desc := "(I)I" } : Jvm.MethodName) ∈ tg := tg_of (List.mem_append_right _ (List.mem_append_right _ (List.mem_append_right _ (List.mem_append_right _ (List.mem_append_right _ (List.mem_of_getElem? (i := 37) rfl)))))) rfl
theorem tw_998 : Jvm.Cond.code ({ cls := "BaselineTextModel", name := "write", desc := "(I)I" } : Jvm.MethodName) prog_13_method_38_code (6 : Nat) (Option.some Jvm.ClassFile.FieldType.int) ∈ tg := tg_of (List.mem_append_right _ (List.mem_append_right _ (List.mem_append_right _ (List.mem_append_right _ (List.mem_append_right _ (List.mem_of_getElem? (i := 38) rfl)))))) rfl
theorem tw_999 : Jvm.Cond.methodLink "BaselineTextModel" (226 : Nat) ({ cls := "BaselineTextModel", name := "lineOf", desc := "(II)Z" } : Jvm.MethodName) ∈ tg := tg_of (List.mem_append_right _ (List.mem_append_right _ (List.mem_append_right _ (List.mem_append_right _ (List.mem_append_right _ (List.mem_of_getElem? (i := 39) rfl)))))) rfl
theorem tz_1000 : Jvm.Cond.privateMethod ({ cls := "BaselineTextModel", name := "lineOf", desc := "(II)Z" } : Jvm.MethodName) ∈ lw_tbl := List.mem_append_right _ (List.mem_append_right _ (List.mem_append_right _ (List.mem_append_right _ (List.mem_append_right _ (List.mem_of_getElem? (i := 40) rfl)))))
theorem tw_1001 : Jvm.Cond.instanceMethod ({ cls := "BaselineTextModel", name := "lineOf", desc := "(II)Z" } : Jvm.MethodName) ∈ tg := tg_of (List.mem_append_right _ (List.mem_append_right _ (List.mem_append_right _ (List.mem_append_right _ (List.mem_append_right _ (List.mem_of_getElem? (i := 41) rfl)))))) rfl
theorem tw_1002 : Jvm.Cond.code ({ cls := "BaselineTextModel", name := "lineOf", desc := "(II)Z" } : Jvm.MethodName) prog_13_method_37_code (6 : Nat) (Option.some Jvm.ClassFile.FieldType.boolean) ∈ tg := tg_of (List.mem_append_right _ (List.mem_append_right _ (List.mem_append_right _ (List.mem_append_right _ (List.mem_append_right _ (List.mem_of_getElem? (i := 42) rfl)))))) rfl
theorem tw_1003 : Jvm.Cond.methodLink "BaselineTextModel" (206 : Nat) ({ cls := "BaselineTextModel", name := "say", desc := "(J)V" } : Jvm.MethodName) ∈ tg := tg_of (List.mem_append_right _ (List.mem_append_right _ (List.mem_append_right _ (List.mem_append_right _ (List.mem_append_right _ (List.mem_of_getElem? (i := 43) rfl)))))) rfl
theorem tz_1004 : Jvm.Cond.privateMethod ({ cls := "BaselineTextModel", name := "say", desc := "(J)V" } : Jvm.MethodName) ∈ lw_tbl := List.mem_append_right _ (List.mem_append_right _ (List.mem_append_right _ (List.mem_append_right _ (List.mem_append_right _ (List.mem_of_getElem? (i := 44) rfl)))))
theorem tw_1005 : Jvm.Cond.instanceMethod ({ cls := "BaselineTextModel", name := "say", desc := "(J)V" } : Jvm.MethodName) ∈ tg := tg_of (List.mem_append_right _ (List.mem_append_right _ (List.mem_append_right _ (List.mem_append_right _ (List.mem_append_right _ (List.mem_of_getElem? (i := 45) rfl)))))) rfl
theorem tw_1006 : Jvm.Cond.code ({ cls := "BaselineTextModel", name := "say", desc := "(J)V" } : Jvm.MethodName) prog_13_method_32_code (5 : Nat) (Option.none : Option Jvm.ClassFile.FieldType) ∈ tg := tg_of (List.mem_append_right _ (List.mem_append_right _ (List.mem_append_right _ (List.mem_append_right _ (List.mem_append_right _ (List.mem_of_getElem? (i := 46) rfl)))))) rfl
theorem tw_1007 : Jvm.Cond.methodLink "BaselineTextModel" (198 : Nat) ({ cls := "BaselineTextModel", name := "put", desc := "(I)V" } : Jvm.MethodName) ∈ tg := tg_of (List.mem_append_right _ (List.mem_append_right _ (List.mem_append_right _ (List.mem_append_right _ (List.mem_append_right _ (List.mem_of_getElem? (i := 47) rfl)))))) rfl
theorem tz_1008 : Jvm.Cond.privateMethod ({ cls := "BaselineTextModel", name := "put", desc := "(I)V" } : Jvm.MethodName) ∈ lw_tbl := List.mem_append_right _ (List.mem_append_right _ (List.mem_append_right _ (List.mem_append_right _ (List.mem_append_right _ (List.mem_of_getElem? (i := 48) rfl)))))
theorem tw_1009 : Jvm.Cond.instanceMethod ({ cls := "BaselineTextModel", name := "put", desc := "(I)V" } : Jvm.MethodName) ∈ tg := tg_of (List.mem_append_right _ (List.mem_append_right _ (List.mem_append_right _ (List.mem_append_right _ (List.mem_append_right _ (List.mem_of_getElem? (i := 49) rfl)))))) rfl
theorem tw_1010 : Jvm.Cond.code ({ cls := "BaselineTextModel", name := "put", desc := "(I)V" } : Jvm.MethodName) prog_13_method_31_code (2 : Nat) (Option.none : Option Jvm.ClassFile.FieldType) ∈ tg := tg_of (List.mem_append_right _ (List.mem_append_right _ (List.mem_append_right _ (List.mem_append_right _ (List.mem_append_right _ (List.mem_of_getElem? (i := 50) rfl)))))) rfl
theorem tw_1011 : Jvm.Cond.methodLink "BaselineTextModel" (217 : Nat) ({ cls := "BaselineTextModel", name := "typeRow", desc := "(II)I" } : Jvm.MethodName) ∈ tg := tg_of (List.mem_append_right _ (List.mem_append_right _ (List.mem_append_right _ (List.mem_append_right _ (List.mem_append_right _ (List.mem_of_getElem? (i := 51) rfl)))))) rfl
theorem tz_1012 : Jvm.Cond.privateMethod ({ cls := "BaselineTextModel", name := "typeRow", desc := "(II)I" } : Jvm.MethodName) ∈ lw_tbl := List.mem_append_right _ (List.mem_append_right _ (List.mem_append_right _ (List.mem_append_right _ (List.mem_append_right _ (List.mem_of_getElem? (i := 52) rfl)))))
theorem tw_1013 : Jvm.Cond.instanceMethod ({ cls := "BaselineTextModel", name := "typeRow", desc := "(II)I" } : Jvm.MethodName) ∈ tg := tg_of (List.mem_append_right _ (List.mem_append_right _ (List.mem_append_right _ (List.mem_append_right _ (List.mem_append_right _ (List.mem_of_getElem? (i := 53) rfl)))))) rfl
theorem tw_1014 : Jvm.Cond.code ({ cls := "BaselineTextModel", name := "typeRow", desc := "(II)I" } : Jvm.MethodName) prog_13_method_28_code (6 : Nat) (Option.some Jvm.ClassFile.FieldType.int) ∈ tg := tg_of (List.mem_append_right _ (List.mem_append_right _ (List.mem_append_right _ (List.mem_append_right _ (List.mem_append_right _ (List.mem_of_getElem? (i := 54) rfl)))))) rfl
theorem tw_1015 : Jvm.Cond.methodLink "BaselineTextModel" (192 : Nat) ({ cls := "BaselineTextModel", name := "count", desc := "(I)I" } : Jvm.MethodName) ∈ tg := tg_of (List.mem_append_right _ (List.mem_append_right _ (List.mem_append_right _ (List.mem_append_right _ (List.mem_append_right _ (List.mem_of_getElem? (i := 55) rfl)))))) rfl
theorem tz_1016 : Jvm.Cond.privateMethod ({ cls := "BaselineTextModel", name := "count", desc := "(I)I" } : Jvm.MethodName) ∈ lw_tbl := List.mem_append_right _ (List.mem_append_right _ (List.mem_append_right _ (List.mem_append_right _ (List.mem_append_right _ (List.mem_of_getElem? (i := 56) rfl)))))
theorem tw_1017 : Jvm.Cond.instanceMethod ({ cls := "BaselineTextModel", name := "count", desc := "(I)I" } : Jvm.MethodName) ∈ tg := tg_of (List.mem_append_right _ (List.mem_append_right _ (List.mem_append_right _ (List.mem_append_right _ (List.mem_append_right _ (List.mem_of_getElem? (i := 57) rfl)))))) rfl
theorem tw_1018 : Jvm.Cond.code ({ cls := "BaselineTextModel", name := "count", desc := "(I)I" } : Jvm.MethodName) prog_13_method_29_code (2 : Nat) (Option.some Jvm.ClassFile.FieldType.int) ∈ tg := tg_of (List.mem_append_right _ (List.mem_append_right _ (List.mem_append_right _ (List.mem_append_right _ (List.mem_append_right _ (List.mem_of_getElem? (i := 58) rfl)))))) rfl
theorem tw_1019 : Jvm.Cond.methodLink "BaselineTextModel" (220 : Nat) ({ cls := "BaselineTextModel", name := "memberRow", desc := "(II)I" } : Jvm.MethodName) ∈ tg := tg_of (List.mem_append_right _ (List.mem_append_right _ (List.mem_append_right _ (List.mem_append_right _ (List.mem_append_right _ (List.mem_of_getElem? (i := 59) rfl)))))) rfl
theorem tz_1020 : Jvm.Cond.privateMethod ({ cls := "BaselineTextModel", name := "memberRow", desc := "(II)I" } : Jvm.MethodName) ∈ lw_tbl := List.mem_append_right _ (List.mem_append_right _ (List.mem_append_right _ (List.mem_append_right _ (List.mem_append_right _ (List.mem_of_getElem? (i := 60) rfl)))))
theorem tw_1021 : Jvm.Cond.instanceMethod ({ cls := "BaselineTextModel", name := "memberRow", desc := "(II)I" } : Jvm.MethodName) ∈ tg := tg_of (List.mem_append_right _ (List.mem_append_right _ (List.mem_append_right _ (List.mem_append_right _ (List.mem_append_right _ (List.mem_of_getElem? (i := 61) rfl)))))) rfl
theorem tw_1022 : Jvm.Cond.code ({ cls := "BaselineTextModel", name := "memberRow", desc := "(II)I" } : Jvm.MethodName) prog_13_method_30_code (7 : Nat) (Option.some Jvm.ClassFile.FieldType.int) ∈ tg := tg_of (List.mem_append_right _ (List.mem_append_right _ (List.mem_append_right _ (List.mem_append_right _ (List.mem_append_right _ (List.mem_of_getElem? (i := 62) rfl)))))) rfl
theorem tw_1023 : Jvm.Cond.methodLink "BaselineTextModel" (223 : Nat) ({ cls := "BaselineTextModel", name := "rowLine", desc := "(II)V" } : Jvm.MethodName) ∈ tg := tg_of (List.mem_append_right _ (List.mem_append_right _ (List.mem_append_right _ (List.mem_append_right _ (List.mem_append_right _ (List.mem_of_getElem? (i := 63) rfl)))))) rfl
theorem tz_1024 : Jvm.Cond.privateMethod ({ cls := "BaselineTextModel", name := "rowLine", desc := "(II)V" } : Jvm.MethodName) ∈ lw_tbl := List.mem_append_right _ (List.mem_append_right _ (List.mem_append_right _ (List.mem_append_right _ (List.mem_append_right _ (List.mem_of_getElem? (i := 64) rfl)))))
theorem tw_1025 : Jvm.Cond.instanceMethod ({ cls := "BaselineTextModel", name := "rowLine", desc := "(II)V" } : Jvm.MethodName) ∈ tg := tg_of (List.mem_append_right _ (List.mem_append_right _ (List.mem_append_right _ (List.mem_append_right _ (List.mem_append_right _ (List.mem_of_getElem? (i := 65) rfl)))))) rfl
theorem tw_1026 : Jvm.Cond.code ({ cls := "BaselineTextModel", name := "rowLine", desc := "(II)V" } : Jvm.MethodName) prog_13_method_36_code (5 : Nat) (Option.none : Option Jvm.ClassFile.FieldType) ∈ tg := tg_of (List.mem_append_right _ (List.mem_append_right _ (List.mem_append_right _ (List.mem_append_right _ (List.mem_append_right _ (List.mem_of_getElem? (i := 66) rfl)))))) rfl
theorem tw_1027 : Jvm.Cond.methodLink "BaselineTextModel" (202 : Nat) ({ cls := "BaselineTextModel", name := "markWord", desc := "(ZI)J" } : Jvm.MethodName) ∈ tg := tg_of (List.mem_append_right _ (List.mem_append_right _ (List.mem_append_right _ (List.mem_append_right _ (List.mem_append_right _ (List.mem_of_getElem? (i := 67) rfl)))))) rfl
theorem tw_1028 : Jvm.Cond.static ({ cls := "BaselineTextModel", name := "markWord", desc := "(ZI)J" } : Jvm.MethodName) ∈ tg := tg_of (List.mem_append_right _ (List.mem_append_right _ (List.mem_append_right _ (List.mem_append_right _ (List.mem_append_right _ (List.mem_of_getElem? (i := 68) rfl)))))) rfl
theorem tw_1029 : Jvm.Cond.code ({ cls := "BaselineTextModel", name := "markWord", desc := "(ZI)J" } : Jvm.MethodName) prog_13_method_34_code (2 : Nat) (Option.some Jvm.ClassFile.FieldType.long) ∈ tg := tg_of (List.mem_append_right _ (List.mem_append_right _ (List.mem_append_right _ (List.mem_append_right _ (List.mem_append_right _ (List.mem_of_getElem? (i := 69) rfl)))))) rfl
theorem tw_1030 : Jvm.Cond.methodLink "BaselineTextModel" (210 : Nat) ({ cls := "BaselineTextModel", name := "kindWord", desc := "(ZI)J" } : Jvm.MethodName) ∈ tg := tg_of (List.mem_append_right _ (List.mem_append_right _ (List.mem_append_right _ (List.mem_append_right _ (List.mem_append_right _ (List.mem_of_getElem? (i := 70) rfl)))))) rfl
theorem tw_1031 : Jvm.Cond.static ({ cls := "BaselineTextModel", name := "kindWord", desc := "(ZI)J" } : Jvm.MethodName) ∈ tg := tg_of (List.mem_append_right _ (List.mem_append_right _ (List.mem_append_right _ (List.mem_append_right _ (List.mem_append_right _ (List.mem_of_getElem? (i := 71) rfl)))))) rfl
theorem tw_1032 : Jvm.Cond.code ({ cls := "BaselineTextModel", name := "kindWord", desc := "(ZI)J" } : Jvm.MethodName) prog_13_method_35_code (2 : Nat) (Option.some Jvm.ClassFile.FieldType.long) ∈ tg := tg_of (List.mem_append_right _ (List.mem_append_right _ (List.mem_append_right _ (List.mem_append_right _ (List.mem_append_right _ (List.mem_of_getElem? (i := 72) rfl)))))) rfl
theorem tw_1033 : Jvm.Cond.methodLink "BaselineTextModel" (213 : Nat) ({ cls := "BaselineTextModel", name := "copyText", desc := "(ZII)V" } : Jvm.MethodName) ∈ tg := tg_of (List.mem_append_right _ (List.mem_append_right _ (List.mem_append_right _ (List.mem_append_right _ (List.mem_append_right _ (List.mem_of_getElem? (i := 73) rfl)))))) rfl
theorem tz_1034 : Jvm.Cond.privateMethod ({ cls := "BaselineTextModel", name := "copyText", desc := "(ZII)V" } : Jvm.MethodName) ∈ lw_tbl := List.mem_append_right _ (List.mem_append_right _ (List.mem_append_right _ (List.mem_append_right _ (List.mem_append_right _ (List.mem_of_getElem? (i := 74) rfl)))))
theorem tw_1035 : Jvm.Cond.instanceMethod ({ cls := "BaselineTextModel", name := "copyText", desc := "(ZII)V" } : Jvm.MethodName) ∈ tg := tg_of (List.mem_append_right _ (List.mem_append_right _ (List.mem_append_right _ (List.mem_append_right _ (List.mem_append_right _ (List.mem_of_getElem? (i := 75) rfl)))))) rfl
theorem tw_1036 : Jvm.Cond.code ({ cls := "BaselineTextModel", name := "copyText", desc := "(ZII)V" } : Jvm.MethodName) prog_13_method_33_code (7 : Nat) (Option.none : Option Jvm.ClassFile.FieldType) ∈ tg := tg_of (List.mem_append_right _ (List.mem_append_right _ (List.mem_append_right _ (List.mem_append_right _ (List.mem_append_right _ (List.mem_of_getElem? (i := 76) rfl)))))) rfl
theorem tw_1037 : Jvm.Cond.methodLink "BaselineTextLaw" (38 : Nat) ({ cls := "BaselineTextModel", name := "format", desc := "(II)I" } : Jvm.MethodName) ∈ tg := tg_of (List.mem_append_right _ (List.mem_append_right _ (List.mem_append_right _ (List.mem_append_right _ (List.mem_append_right _ (List.mem_of_getElem? (i := 77) rfl)))))) rfl
theorem tw_1038 : Jvm.Cond.instanceMethod ({ cls := "BaselineTextModel", name := "format", desc := "(II)I" } : Jvm.MethodName) ∈ tg := tg_of (List.mem_append_right _ (List.mem_append_right _ (List.mem_append_right _ (List.mem_append_right _ (List.mem_append_right _ (List.mem_of_getElem? (i := 78) rfl)))))) rfl
theorem tw_1039 : Jvm.Cond.selects "BaselineTextModel" ({ cls := "BaselineTextModel", name := "format", desc := "(II)I" } : Jvm.MethodName) ({ cls := "BaselineTextModel", name := "format", desc := "(II)I" } : Jvm.MethodName) ∈ tg := tg_of (List.mem_append_right _ (List.mem_append_right _ (List.mem_append_right _ (List.mem_append_right _ (List.mem_append_right _ (List.mem_of_getElem? (i := 79) rfl)))))) rfl
theorem tw_1040 : Jvm.Cond.code ({ cls := "BaselineTextModel", name := "format", desc := "(II)I" } : Jvm.MethodName) prog_13_method_39_code (4 : Nat) (Option.some Jvm.ClassFile.FieldType.int) ∈ tg := tg_of (List.mem_append_right _ (List.mem_append_right _ (List.mem_append_right _ (List.mem_append_right _ (List.mem_append_right _ (List.mem_of_getElem? (i := 80) rfl)))))) rfl
theorem tw_1041 : Jvm.Cond.methodLink "BaselineTextLaw" (42 : Nat) ({ cls := "BaselineTextModel", name := "text", desc := "(I)I" } : Jvm.MethodName) ∈ tg := tg_of (List.mem_append_right _ (List.mem_append_right _ (List.mem_append_right _ (List.mem_append_right _ (List.mem_append_right _ (List.mem_of_getElem? (i := 81) rfl)))))) rfl
theorem tw_1042 : Jvm.Cond.instanceMethod ({ cls := "BaselineTextModel", name := "text", desc := "(I)I" } : Jvm.MethodName) ∈ tg := tg_of (List.mem_append_right _ (List.mem_append_right _ (List.mem_append_right _ (List.mem_append_right _ (List.mem_append_right _ (List.mem_of_getElem? (i := 82) rfl)))))) rfl
theorem tw_1043 : Jvm.Cond.selects "BaselineTextModel" ({ cls := "BaselineTextModel", name := "text", desc := "(I)I" } : Jvm.MethodName) ({ cls := "BaselineTextModel", name := "text", desc := "(I)I" } : Jvm.MethodName) ∈ tg := tg_of (List.mem_append_right _ (List.mem_append_right _ (List.mem_append_right _ (List.mem_append_right _ (List.mem_append_right _ (List.mem_of_getElem? (i := 83) rfl)))))) rfl
theorem tw_1044 : Jvm.Cond.code ({ cls := "BaselineTextModel", name := "text", desc := "(I)I" } : Jvm.MethodName) prog_13_method_40_code (2 : Nat) (Option.some Jvm.ClassFile.FieldType.int) ∈ tg := tg_of (List.mem_append_right _ (List.mem_append_right _ (List.mem_append_right _ (List.mem_append_right _ (List.mem_append_right _ (List.mem_of_getElem? (i := 84) rfl)))))) rfl
theorem tw_1045 : Jvm.Cond.methodLink "BaselineTextLaw" (50 : Nat) ({ cls := "BaselineTextModel", name := "types", desc := "(I)I" } : Jvm.MethodName) ∈ tg := tg_of (List.mem_append_right _ (List.mem_append_right _ (List.mem_append_right _ (List.mem_append_right _ (List.mem_append_right _ (List.mem_of_getElem? (i := 85) rfl)))))) rfl
theorem tw_1046 : Jvm.Cond.instanceMethod ({ cls := "BaselineTextModel", name := "types", desc := "(I)I" } : Jvm.MethodName) ∈ tg := tg_of (List.mem_append_right _ (List.mem_append_right _ (List.mem_append_right _ (List.mem_append_right _ (List.mem_append_right _ (List.mem_of_getElem? (i := 86) rfl)))))) rfl
theorem tw_1047 : Jvm.Cond.selects "BaselineTextModel" ({ cls := "BaselineTextModel", name := "types", desc := "(I)I" } : Jvm.MethodName) ({ cls := "BaselineTextModel", name := "types", desc := "(I)I" } : Jvm.MethodName) ∈ tg := tg_of (List.mem_append_right _ (List.mem_append_right _ (List.mem_append_right _ (List.mem_append_right _ (List.mem_append_right _ (List.mem_of_getElem? (i := 87) rfl)))))) rfl
theorem tw_1048 : Jvm.Cond.code ({ cls := "BaselineTextModel", name := "types", desc := "(I)I" } : Jvm.MethodName) prog_13_method_41_code (2 : Nat) (Option.some Jvm.ClassFile.FieldType.int) ∈ tg := tg_of (List.mem_append_right _ (List.mem_append_right _ (List.mem_append_right _ (List.mem_append_right _ (List.mem_append_right _ (List.mem_of_getElem? (i := 88) rfl)))))) rfl
theorem tw_1049 : Jvm.Cond.methodLink "BaselineTextLaw" (55 : Nat) ({ cls := "BaselineTextModel", name := "about", desc := "(III)I" } : Jvm.MethodName) ∈ tg := tg_of (List.mem_append_right _ (List.mem_append_right _ (List.mem_append_right _ (List.mem_append_right _ (List.mem_append_right _ (List.mem_of_getElem? (i := 89) rfl)))))) rfl
theorem tw_1050 : Jvm.Cond.instanceMethod ({ cls := "BaselineTextModel", name := "about", desc := "(III)I" } : Jvm.MethodName) ∈ tg := tg_of (List.mem_append_right _ (List.mem_append_right _ (List.mem_append_right _ (List.mem_append_right _ (List.mem_append_right _ (List.mem_of_getElem? (i := 90) rfl)))))) rfl
theorem tw_1051 : Jvm.Cond.selects "BaselineTextModel" ({ cls := "BaselineTextModel", name := "about", desc := "(III)I" } : Jvm.MethodName) ({ cls := "BaselineTextModel", name := "about", desc := "(III)I" } : Jvm.MethodName) ∈ tg := tg_of (List.mem_append_right _ (List.mem_append_right _ (List.mem_append_right _ (List.mem_append_right _ (List.mem_append_right _ (List.mem_of_getElem? (i := 91) rfl)))))) rfl
theorem tw_1052 : Jvm.Cond.code ({ cls := "BaselineTextModel", name := "about", desc := "(III)I" } : Jvm.MethodName) prog_13_method_42_code (5 : Nat) (Option.some Jvm.ClassFile.FieldType.int) ∈ tg := tg_of (List.mem_append_right _ (List.mem_append_right _ (List.mem_append_right _ (List.mem_append_right _ (List.mem_append_right _ (List.mem_of_getElem? (i := 92) rfl)))))) rfl
theorem tw_1053 : Jvm.Cond.methodLink "BaselineTextLaw" (60 : Nat) ({ cls := "BaselineTextModel", name := "member", desc := "(IIII)I" } : Jvm.MethodName) ∈ tg := tg_of (List.mem_append_right _ (List.mem_append_right _ (List.mem_append_right _ (List.mem_append_right _ (List.mem_append_right _ (List.mem_of_getElem? (i := 93) rfl)))))) rfl
theorem tw_1054 : Jvm.Cond.instanceMethod ({ cls := "BaselineTextModel", name := "member", desc := "(IIII)I" } : Jvm.MethodName) ∈ tg := tg_of (List.mem_append_right _ (List.mem_append_right _ (List.mem_append_right _ (List.mem_append_right _ (List.mem_append_right _ (List.mem_of_getElem? (i := 94) rfl)))))) rfl
theorem tw_1055 : Jvm.Cond.selects "BaselineTextModel" ({ cls := "BaselineTextModel", name := "member", desc := "(IIII)I" } : Jvm.MethodName) ({ cls := "BaselineTextModel", name := "member", desc := "(IIII)I" } : Jvm.MethodName) ∈ tg := tg_of (List.mem_append_right _ (List.mem_append_right _ (List.mem_append_right _ (List.mem_append_right _ (List.mem_append_right _ (List.mem_of_getElem? (i := 95) rfl)))))) rfl
theorem tw_1056 : Jvm.Cond.code ({ cls := "BaselineTextModel", name := "member", desc := "(IIII)I" } : Jvm.MethodName) prog_13_method_44_code (6 : Nat) (Option.some Jvm.ClassFile.FieldType.int) ∈ tg := tg_of (List.mem_append_right _ (List.mem_append_right _ (List.mem_append_right _ (List.mem_append_right _ (List.mem_append_right _ (List.mem_of_getElem? (i := 96) rfl)))))) rfl
theorem tw_1057 : Jvm.Cond.methodLink "BaselineTextModel" (230 : Nat) ({ cls := "BaselineTextModel", name := "memberAt", desc := "(III)I" } : Jvm.MethodName) ∈ tg := tg_of (List.mem_append_right _ (List.mem_append_right _ (List.mem_append_right _ (List.mem_append_right _ (List.mem_append_right _ (List.mem_of_getElem? (i := 97) rfl)))))) rfl
theorem tz_1058 : Jvm.Cond.privateMethod ({ cls := "BaselineTextModel", name := "memberAt", desc := "(III)I" } : Jvm.MethodName) ∈ lw_tbl := List.mem_append_right _ (List.mem_append_right _ (List.mem_append_right _ (List.mem_append_right _ (List.mem_append_right _ (List.mem_of_getElem? (i := 98) rfl)))))
theorem tw_1059 : Jvm.Cond.instanceMethod ({ cls := "BaselineTextModel", name := "memberAt", desc := "(III)I" } : Jvm.MethodName) ∈ tg := tg_of (List.mem_append_right _ (List.mem_append_right _ (List.mem_append_right _ (List.mem_append_right _ (List.mem_append_right _ (List.mem_of_getElem? (i := 99) rfl)))))) rfl
theorem tw_1060 : Jvm.Cond.code ({ cls := "BaselineTextModel", name := "memberAt", desc := "(III)I" } : Jvm.MethodName) prog_13_method_43_code (5 : Nat) (Option.some Jvm.ClassFile.FieldType.int) ∈ tg := tg_of (List.mem_append_right _ (List.mem_append_right _ (List.mem_append_right _ (List.mem_append_right _ (List.mem_append_right _ (List.mem_of_getElem? (i := 100) rfl)))))) rfl
theorem tw_1061 : Jvm.Cond.methodLink "BaselineTextLaw" (65 : Nat) ({ cls := "BaselineTextModel", name := "character", desc := "(IIIII)I" } : Jvm.MethodName) ∈ tg := tg_of (List.mem_append_right _ (List.mem_append_right _ (List.mem_append_right _ (List.mem_append_right _ (List.mem_append_right _ (List.mem_of_getElem? (i := 101) rfl)))))) rfl
theorem tw_1062 : Jvm.Cond.instanceMethod ({ cls := "BaselineTextModel", name := "character", desc := "(IIIII)I" } : Jvm.MethodName) ∈ tg := tg_of (List.mem_append_right _ (List.mem_append_right _ (List.mem_append_right _ (List.mem_append_right _ (List.mem_append_right _ (List.mem_of_getElem? (i := 102) rfl)))))) rfl
theorem tw_1063 : Jvm.Cond.selects "BaselineTextModel" ({ cls := "BaselineTextModel", name := "character", desc := "(IIIII)I" } : Jvm.MethodName) ({ cls := "BaselineTextModel", name := "character", desc := "(IIIII)I" } : Jvm.MethodName) ∈ tg := tg_of (List.mem_append_right _ (List.mem_append_right _ (List.mem_append_right _ (List.mem_append_right _ (List.mem_append_right _ (List.mem_of_getElem? (i := 103) rfl)))))) rfl
theorem tw_1064 : Jvm.Cond.code ({ cls := "BaselineTextModel", name := "character", desc := "(IIIII)I" } : Jvm.MethodName) prog_13_method_45_code (7 : Nat) (Option.some Jvm.ClassFile.FieldType.int) ∈ tg := tg_of (List.mem_append_right _ (List.mem_append_right _ (List.mem_append_right _ (List.mem_append_right _ (List.mem_append_right _ (List.mem_of_getElem? (i := 104) rfl)))))) rfl
theorem tw_1065 : Jvm.Cond.methodLink "BaselineTextLaw" (69 : Nat) ({ cls := "BaselineTextModel", name := "differ", desc := "()I" } : Jvm.MethodName) ∈ tg := tg_of (List.mem_append_right _ (List.mem_append_right _ (List.mem_append_right _ (List.mem_append_right _ (List.mem_append_right _ (List.mem_of_getElem? (i := 105) rfl)))))) rfl
theorem tw_1066 : Jvm.Cond.instanceMethod ({ cls := "BaselineTextModel", name := "differ", desc := "()I" } : Jvm.MethodName) ∈ tg := tg_of (List.mem_append_right _ (List.mem_append_right _ (List.mem_append_right _ (List.mem_append_right _ (List.mem_append_right _ (List.mem_of_getElem? (i := 106) rfl)))))) rfl
theorem tw_1067 : Jvm.Cond.selects "BaselineTextModel" ({ cls := "BaselineTextModel", name := "differ", desc := "()I" } : Jvm.MethodName) ({ cls := "BaselineTextModel", name := "differ", desc := "()I" } : Jvm.MethodName) ∈ tg := tg_of (List.mem_append_right _ (List.mem_append_right _ (List.mem_append_right _ (List.mem_append_right _ (List.mem_append_right _ (List.mem_of_getElem? (i := 107) rfl)))))) rfl
theorem tw_1068 : Jvm.Cond.code ({ cls := "BaselineTextModel", name := "differ", desc := "()I" } : Jvm.MethodName) prog_13_method_47_code (6 : Nat) (Option.some Jvm.ClassFile.FieldType.int) ∈ tg := tg_of (List.mem_append_right _ (List.mem_append_right _ (List.mem_append_right _ (List.mem_append_right _ (List.mem_append_right _ (List.mem_of_getElem? (i := 108) rfl)))))) rfl
theorem tw_1069 : Jvm.Cond.methodLink "BaselineTextModel" (233 : Nat) ({ cls := "BaselineTextModel", name := "keep", desc := "(II)Z" } : Jvm.MethodName) ∈ tg := tg_of (List.mem_append_right _ (List.mem_append_right _ (List.mem_append_right _ (List.mem_append_right _ (List.mem_append_right _ (List.mem_of_getElem? (i := 109) rfl)))))) rfl
theorem tz_1070 : Jvm.Cond.privateMethod ({ cls := "BaselineTextModel", name := "keep", desc := "(II)Z" } : Jvm.MethodName) ∈ lw_tbl := List.mem_append_right _ (List.mem_append_right _ (List.mem_append_right _ (List.mem_append_right _ (List.mem_append_right _ (List.mem_of_getElem? (i := 110) rfl)))))
theorem tw_1071 : Jvm.Cond.instanceMethod ({ cls := "BaselineTextModel", name := "keep", desc := "(II)Z" } : Jvm.MethodName) ∈ tg := tg_of (List.mem_append_right _ (List.mem_append_right _ (List.mem_append_right _ (List.mem_append_right _ (List.mem_append_right _ (List.mem_of_getElem? (i := 111) rfl)))))) rfl
theorem tw_1072 : Jvm.Cond.code ({ cls := "BaselineTextModel", name := "keep", desc := "(II)Z" } : Jvm.MethodName) prog_13_method_46_code (5 : Nat) (Option.some Jvm.ClassFile.FieldType.boolean) ∈ tg := tg_of (List.mem_append_right _ (List.mem_append_right _ (List.mem_append_right _ (List.mem_append_right _ (List.mem_append_right _ (List.mem_of_getElem? (i := 112) rfl)))))) rfl
theorem tw_1073 : Jvm.Cond.methodLink "BaselineTextLaw" (73 : Nat) ({ cls := "BaselineTextModel", name := "lost", desc := "(I)I" } : Jvm.MethodName) ∈ tg := tg_of (List.mem_append_right _ (List.mem_append_right _ (List.mem_append_right _ (List.mem_append_right _ (List.mem_append_right _ (List.mem_of_getElem? (i := 113) rfl)))))) rfl
theorem tw_1074 : Jvm.Cond.instanceMethod ({ cls := "BaselineTextModel", name := "lost", desc := "(I)I" } : Jvm.MethodName) ∈ tg := tg_of (List.mem_append_right _ (List.mem_append_right _ (List.mem_append_right _ (List.mem_append_right _ (List.mem_append_right _ (List.mem_of_getElem? (i := 114) rfl)))))) rfl
theorem tw_1075 : Jvm.Cond.selects "BaselineTextModel" ({ cls := "BaselineTextModel", name := "lost", desc := "(I)I" } : Jvm.MethodName) ({ cls := "BaselineTextModel", name := "lost", desc := "(I)I" } : Jvm.MethodName) ∈ tg := tg_of (List.mem_append_right _ (List.mem_append_right _ (List.mem_append_right _ (List.mem_append_right _ (List.mem_append_right _ (List.mem_of_getElem? (i := 115) rfl)))))) rfl
theorem tw_1076 : Jvm.Cond.code ({ cls := "BaselineTextModel", name := "lost", desc := "(I)I" } : Jvm.MethodName) prog_13_method_51_code (8 : Nat) (Option.some Jvm.ClassFile.FieldType.int) ∈ tg := tg_of (List.mem_append_right _ (List.mem_append_right _ (List.mem_append_right _ (List.mem_append_right _ (List.mem_append_right _ (List.mem_of_getElem? (i := 116) rfl)))))) rfl
theorem tw_1077 : Jvm.Cond.methodLink "BaselineTextModel" (239 : Nat) ({ cls := "BaselineTextModel", name := "alike", desc := "(II)Z" } : Jvm.MethodName) ∈ tg := tg_of (List.mem_append_right _ (List.mem_append_right _ (List.mem_append_right _ (List.mem_append_right _ (List.mem_append_right _ (List.mem_of_getElem? (i := 117) rfl)))))) rfl
theorem tz_1078 : Jvm.Cond.privateMethod ({ cls := "BaselineTextModel", name := "alike", desc := "(II)Z" } : Jvm.MethodName) ∈ lw_tbl := List.mem_append_right _ (List.mem_append_right _ (List.mem_append_right _ (List.mem_append_right _ (List.mem_append_right _ (List.mem_of_getElem? (i := 118) rfl)))))
theorem tw_1079 : Jvm.Cond.instanceMethod ({ cls := "BaselineTextModel", name := "alike", desc := "(II)Z" } : Jvm.MethodName) ∈ tg := tg_of (List.mem_append_right _ (List.mem_append_right _ (List.mem_append_right _ (List.mem_append_right _ (List.mem_append_right _ (List.mem_of_getElem? (i := 119) rfl)))))) rfl
theorem tw_1080 : Jvm.Cond.code ({ cls := "BaselineTextModel", name := "alike", desc := "(II)Z" } : Jvm.MethodName) prog_13_method_49_code (3 : Nat) (Option.some Jvm.ClassFile.FieldType.boolean) ∈ tg := tg_of (List.mem_append_right _ (List.mem_append_right _ (List.mem_append_right _ (List.mem_append_right _ (List.mem_append_right _ (List.mem_of_getElem? (i := 120) rfl)))))) rfl
theorem tw_1081 : Jvm.Cond.methodLink "BaselineTextModel" (236 : Nat) ({ cls := "BaselineTextModel", name := "dollar", desc := "(I)Z" } : Jvm.MethodName) ∈ tg := tg_of (List.mem_append_right _ (List.mem_append_right _ (List.mem_append_right _ (List.mem_append_right _ (List.mem_append_right _ (List.mem_of_getElem? (i := 121) rfl)))))) rfl
theorem tz_1082 : Jvm.Cond.privateMethod ({ cls := "BaselineTextModel", name := "dollar", desc := "(I)Z" } : Jvm.MethodName) ∈ lw_tbl := List.mem_append_right _ (List.mem_append_right _ (List.mem_append_right _ (List.mem_append_right _ (List.mem_append_right _ (List.mem_of_getElem? (i := 122) rfl)))))
theorem tw_1083 : Jvm.Cond.instanceMethod ({ cls := "BaselineTextModel", name := "dollar", desc := "(I)Z" } : Jvm.MethodName) ∈ tg := tg_of (List.mem_append_right _ (List.mem_append_right _ (List.mem_append_right _ (List.mem_append_right _ (List.mem_append_right _ (List.mem_of_getElem? (i := 123) rfl)))))) rfl
theorem tw_1084 : Jvm.Cond.code ({ cls := "BaselineTextModel", name := "dollar", desc := "(I)Z" } : Jvm.MethodName) prog_13_method_48_code (3 : Nat) (Option.some Jvm.ClassFile.FieldType.boolean) ∈ tg := tg_of (List.mem_append_right _ (List.mem_append_right _ (List.mem_append_right _ (List.mem_append_right _ (List.mem_append_right _ (List.mem_of_getElem? (i := 124) rfl)))))) rfl
theorem tw_1085 : Jvm.Cond.methodLink "BaselineTextModel" (242 : Nat) ({ cls := "BaselineTextModel", name := "lostOf", desc := "(II)I" } : Jvm.MethodName) ∈ tg := tg_of (List.mem_append_right _ (List.mem_append_right _ (List.mem_append_right _ (List.mem_append_right _ (List.mem_append_right _ (List.mem_of_getElem? (i := 125) rfl)))))) rfl
theorem tz_1086 : Jvm.Cond.privateMethod ({ cls := "BaselineTextModel", name := "lostOf", desc := "(II)I" } : Jvm.MethodName) ∈ lw_tbl := List.mem_append_right _ (List.mem_append_right _ (List.mem_append_right _ (List.mem_append_right _ (List.mem_append_right _ (List.mem_of_getElem? (i := 126) rfl)))))
theorem tw_1087 : Jvm.Cond.instanceMethod ({ cls := "BaselineTextModel", name := "lostOf", desc := "(II)I" } : Jvm.MethodName) ∈ tg := tg_of (List.mem_append_right _ (List.mem_append_right _ (List.mem_append_right _ (List.mem_append_right _ (List.mem_append_right _ (List.mem_of_getElem? (i := 127) rfl)))))) rfl
theorem tw_1088 : Jvm.Cond.code ({ cls := "BaselineTextModel", name := "lostOf", desc := "(II)I" } : Jvm.MethodName) prog_13_method_50_code (7 : Nat) (Option.some Jvm.ClassFile.FieldType.int) ∈ tg := tg_of (List.mem_append_right _ (List.mem_append_right _ (List.mem_append_right _ (List.mem_append_right _ (List.mem_append_right _ (List.mem_of_getElem? (i := 128) rfl)))))) rfl
theorem tw_1089 : Jvm.Cond.methodLink "BaselineTextLaw" (77 : Nat) ({ cls := "BaselineTextModel", name := "swap", desc := "()V" } : Jvm.MethodName) ∈ tg := tg_of (List.mem_append_right _ (List.mem_append_right _ (List.mem_append_right _ (List.mem_append_right _ (List.mem_append_right _ (List.mem_of_getElem? (i := 129) rfl)))))) rfl
theorem tw_1090 : Jvm.Cond.instanceMethod ({ cls := "BaselineTextModel", name := "swap", desc := "()V" } : Jvm.MethodName) ∈ tg := tg_of (List.mem_append_right _ (List.mem_append_right _ (List.mem_append_right _ (List.mem_append_right _ (List.mem_append_right _ (List.mem_of_getElem? (i := 130) rfl)))))) rfl
theorem tw_1091 : Jvm.Cond.selects "BaselineTextModel" ({ cls := "BaselineTextModel", name := "swap", desc := "()V" } : Jvm.MethodName) ({ cls := "BaselineTextModel", name := "swap", desc := "()V" } : Jvm.MethodName) ∈ tg := tg_of (List.mem_append_right _ (List.mem_append_right _ (List.mem_append_right _ (List.mem_append_right _ (List.mem_append_right _ (List.mem_of_getElem? (i := 131) rfl)))))) rfl
theorem tw_1092 : Jvm.Cond.code ({ cls := "BaselineTextModel", name := "swap", desc := "()V" } : Jvm.MethodName) prog_13_method_52_code (1 : Nat) (Option.none : Option Jvm.ClassFile.FieldType) ∈ tg := tg_of (List.mem_append_right _ (List.mem_append_right _ (List.mem_append_right _ (List.mem_append_right _ (List.mem_append_right _ (List.mem_of_getElem? (i := 132) rfl)))))) rfl
theorem tw_1093 : Jvm.Cond.constantLong "BaselineTextLaw" (13 : Nat) (4294967295 : Int64) ∈ tg := tg_of (List.mem_append_right _ (List.mem_append_right _ (List.mem_append_right _ (List.mem_append_right _ (List.mem_append_right _ (List.mem_of_getElem? (i := 133) rfl)))))) rfl
theorem tw_1094 : Jvm.Cond.sameMethod "BaselineText$Declaration" "BaselineText$Declaration" "addLine" "(LBaselineText$Row;ZI)V" ∈ tg := tg_of (List.mem_append_right _ (List.mem_append_right _ (List.mem_append_right _ (List.mem_append_right _ (List.mem_append_right _ (List.mem_of_getElem? (i := 134) rfl)))))) rfl
theorem tw_1095 : Jvm.Cond.selects "BaselineText$Declaration" ({ cls := "BaselineText$Declaration", name := "addLine", desc := "(LBaselineText$Row;ZI)V" } : Jvm.MethodName) ({ cls := "BaselineText$Declaration", name := "addLine", desc := "(LBaselineText$Row;ZI)V" } : Jvm.MethodName) ∈ tg := tg_of (List.mem_append_right _ (List.mem_append_right _ (List.mem_append_right _ (List.mem_append_right _ (List.mem_append_right _ (List.mem_of_getElem? (i := 135) rfl)))))) rfl
theorem tw_1096 : Jvm.Cond.selects "BaselineText$Type" ({ cls := "BaselineText$Declaration", name := "addLine", desc := "(LBaselineText$Row;ZI)V" } : Jvm.MethodName) ({ cls := "BaselineText$Declaration", name := "addLine", desc := "(LBaselineText$Row;ZI)V" } : Jvm.MethodName) ∈ tg := tg_of (List.mem_append_right _ (List.mem_append_right _ (List.mem_append_right _ (List.mem_append_right _ (List.mem_append_right _ (List.mem_of_getElem? (i := 136) rfl)))))) rfl
theorem tw_1097 : Jvm.Cond.sameMethod "BaselineText$Declaration" "BaselineText$Declaration" "isSame" "(LBaselineText$Declaration;)Z" ∈ tg := tg_of (List.mem_append_right _ (List.mem_append_right _ (List.mem_append_right _ (List.mem_append_right _ (List.mem_append_right _ (List.mem_of_getElem? (i := 137) rfl)))))) rfl
theorem tw_1098 : Jvm.Cond.selects "BaselineText$Declaration" ({ cls := "BaselineText$Declaration", name := "isSame", desc := "(LBaselineText$Declaration;)Z" } : Jvm.MethodName) ({ cls := "BaselineText$Declaration", name := "isSame", desc := "(LBaselineText$Declaration;)Z" } : Jvm.MethodName) ∈ tg := tg_of (List.mem_append_right _ (List.mem_append_right _ (List.mem_append_right _ (List.mem_append_right _ (List.mem_append_right _ (List.mem_of_getElem? (i := 138) rfl)))))) rfl
theorem tw_1099 : Jvm.Cond.selects "BaselineText$Type" ({ cls := "BaselineText$Declaration", name := "isSame", desc := "(LBaselineText$Declaration;)Z" } : Jvm.MethodName) ({ cls := "BaselineText$Declaration", name := "isSame", desc := "(LBaselineText$Declaration;)Z" } : Jvm.MethodName) ∈ tg := tg_of (List.mem_append_right _ (List.mem_append_right _ (List.mem_append_right _ (List.mem_append_right _ (List.mem_append_right _ (List.mem_of_getElem? (i := 139) rfl)))))) rfl
theorem tz_1100 : Jvm.Cond.castable "BaselineText$Declaration" "BaselineText$Declaration" ∈ lw_tbl := List.mem_append_right _ (List.mem_append_right _ (List.mem_append_right _ (List.mem_append_right _ (List.mem_append_right _ (List.mem_of_getElem? (i := 140) rfl)))))
theorem tz_1101 : Jvm.Cond.castable "BaselineText$Type" "BaselineText$Declaration" ∈ lw_tbl := List.mem_append_right _ (List.mem_append_right _ (List.mem_append_right _ (List.mem_append_right _ (List.mem_append_right _ (List.mem_of_getElem? (i := 141) rfl)))))
theorem tz_1102 : Jvm.Cond.castable "BaselineText$Type" "BaselineText$Type" ∈ lw_tbl := List.mem_append_right _ (List.mem_append_right _ (List.mem_append_right _ (List.mem_append_right _ (List.mem_append_right _ (List.mem_of_getElem? (i := 142) rfl)))))
theorem tw_1103 : Jvm.Cond.sameMethod "[Ljava/lang/Object;" "java/lang/Object" "getClass" "()Ljava/lang/Class;" ∈ tg := tg_of (List.mem_append_right _ (List.mem_append_right _ (List.mem_append_right _ (List.mem_append_right _ (List.mem_append_right _ (List.mem_of_getElem? (i := 143) rfl)))))) rfl
theorem tw_1104 : Jvm.Cond.selects "[Ljava/lang/Object;" ({ cls := "java/lang/Object", name := "getClass", desc := "()Ljava/lang/Class;" } : Jvm.MethodName) ({ cls := "java/lang/Object", name := "getClass", desc := "()Ljava/lang/Class;" } : Jvm.MethodName) ∈ tg := tg_of (List.mem_append_right _ (List.mem_append_right _ (List.mem_append_right _ (List.mem_append_right _ (List.mem_append_right _ (List.mem_of_getElem? (i := 144) rfl)))))) rfl
theorem tz_1105 : Jvm.Cond.declares ({ cls := "java/lang/Object", name := "getClass", desc := "()Ljava/lang/Class;" } : Jvm.MethodName) ∈ lw_tbl := List.mem_append_right _ (List.mem_append_right _ (List.mem_append_right _ (List.mem_append_right _ (List.mem_append_right _ (List.mem_of_getElem? (i := 145) rfl)))))
theorem tz_1106 : Jvm.Cond.castable "BaselineText" "java/lang/Object" ∈ lw_tbl := List.mem_append_right _ (List.mem_append_right _ (List.mem_append_right _ (List.mem_append_right _ (List.mem_append_right _ (List.mem_of_getElem? (i := 146) rfl)))))
theorem tz_1107 : Jvm.Cond.castable "BaselineText$Row" "java/lang/Object" ∈ lw_tbl := List.mem_append_right _ (List.mem_append_right _ (List.mem_append_right _ (List.mem_append_right _ (List.mem_append_right _ (List.mem_of_getElem? (i := 147) rfl)))))
theorem tz_1108 : Jvm.Cond.castable "BaselineText$Diagnostics" "java/lang/Object" ∈ lw_tbl := List.mem_append_right _ (List.mem_append_right _ (List.mem_append_right _ (List.mem_append_right _ (List.mem_append_right _ (List.mem_of_getElem? (i := 148) rfl)))))
theorem tz_1109 : Jvm.Cond.castable "BaselineText$Baseline" "java/lang/Object" ∈ lw_tbl := List.mem_append_right _ (List.mem_append_right _ (List.mem_append_right _ (List.mem_append_right _ (List.mem_append_right _ (List.mem_of_getElem? (i := 149) rfl)))))
theorem tz_1110 : Jvm.Cond.castable "BaselineText$Shelf" "java/lang/Object" ∈ lw_tbl := List.mem_append_right _ (List.mem_append_right _ (List.mem_append_right _ (List.mem_append_right _ (List.mem_append_right _ (List.mem_of_getElem? (i := 150) rfl)))))
theorem tz_1111 : Jvm.Cond.castable "BaselineTextModel" "java/lang/Object" ∈ lw_tbl := List.mem_append_right _ (List.mem_append_right _ (List.mem_append_right _ (List.mem_append_right _ (List.mem_append_right _ (List.mem_of_getElem? (i := 151) rfl)))))
theorem tz_1112 : Jvm.Cond.castable "BaselineText$Reader" "java/lang/Object" ∈ lw_tbl := List.mem_append_right _ (List.mem_append_right _ (List.mem_append_right _ (List.mem_append_right _ (List.mem_append_right _ (List.mem_of_getElem? (i := 152) rfl)))))
theorem tz_1113 : Jvm.Cond.castable "BaselineText$Declaration" "java/lang/Object" ∈ lw_tbl := List.mem_append_right _ (List.mem_append_right _ (List.mem_append_right _ (List.mem_append_right _ (List.mem_append_right _ (List.mem_of_getElem? (i := 153) rfl)))))
theorem tz_1114 : Jvm.Cond.castable "BaselineText$Line" "java/lang/Object" ∈ lw_tbl := List.mem_append_right _ (List.mem_append_right _ (List.mem_append_right _ (List.mem_append_right _ (List.mem_append_right _ (List.mem_of_getElem? (i := 154) rfl)))))
theorem tz_1115 : Jvm.Cond.castable "BaselineText$Type" "java/lang/Object" ∈ lw_tbl := List.mem_append_right _ (List.mem_append_right _ (List.mem_append_right _ (List.mem_append_right _ (List.mem_append_right _ (List.mem_of_getElem? (i := 155) rfl)))))
theorem tz_1116 : Jvm.Cond.castable "java/lang/String" "java/lang/Object" ∈ lw_tbl := List.mem_append_right _ (List.mem_append_right _ (List.mem_append_right _ (List.mem_append_right _ (List.mem_append_right _ (List.mem_of_getElem? (i := 156) rfl)))))
theorem tw_1117 : Jvm.Cond.fieldLink "java/lang/String" (9 : Nat) "java/lang/String" "value" "[B" ∈ tg := tg_of (List.mem_append_right _ (List.mem_append_right _ (List.mem_append_right _ (List.mem_append_right _ (List.mem_append_right _ (List.mem_of_getElem? (i := 157) rfl)))))) rfl
theorem tw_1118 : Jvm.Cond.fieldLink "java/lang/String" (15 : Nat) "java/lang/String" "coder" "B" ∈ tg := tg_of (List.mem_append_right _ (List.mem_append_right _ (List.mem_append_right _ (List.mem_append_right _ (List.mem_append_right _ (List.mem_of_getElem? (i := 158) rfl)))))) rfl
theorem i_Rw : ∀ w ∈ u_ws R_Rw F_Rw 3, w ∈ tg := by
  intro w hw
  obtain ⟨k, hk, rfl⟩ := List.mem_map.mp hw
  have hk := List.mem_range.mp hk
  match k, hk with
  | 0, _ => exact tw_42
  | 1, _ => exact tw_44
  | 2, _ => exact tw_46
  | k + 3, hk => exact absurd hk (by omega)
theorem i_Dc : ∀ w ∈ u_ws R_Dc F_Dc 4, w ∈ tg := by
  intro w hw
  obtain ⟨k, hk, rfl⟩ := List.mem_map.mp hw
  have hk := List.mem_range.mp hk
  match k, hk with
  | 0, _ => exact tw_227
  | 1, _ => exact tw_229
  | 2, _ => exact tw_231
  | 3, _ => exact tw_233
  | k + 4, hk => exact absurd hk (by omega)
theorem i_Tp : ∀ w ∈ u_ws R_Tp F_Tp 5, w ∈ tg := by
  intro w hw
  obtain ⟨k, hk, rfl⟩ := List.mem_map.mp hw
  have hk := List.mem_range.mp hk
  match k, hk with
  | 0, _ => exact tw_649
  | 1, _ => exact tw_650
  | 2, _ => exact tw_651
  | 3, _ => exact tw_652
  | 4, _ => exact tw_647
  | k + 5, hk => exact absurd hk (by omega)
theorem i_Sf : ∀ w ∈ u_ws R_Sf F_Sf 3, w ∈ tg := by
  intro w hw
  obtain ⟨k, hk, rfl⟩ := List.mem_map.mp hw
  have hk := List.mem_range.mp hk
  match k, hk with
  | 0, _ => exact tw_114
  | 1, _ => exact tw_116
  | 2, _ => exact tw_118
  | k + 3, hk => exact absurd hk (by omega)
theorem i_AL : ∀ w ∈ u_ws R_AL F_AL 3, w ∈ tg := by
  intro w hw
  obtain ⟨k, hk, rfl⟩ := List.mem_map.mp hw
  have hk := List.mem_range.mp hk
  match k, hk with
  | 0, _ => exact tw_104
  | 1, _ => exact tw_106
  | 2, _ => exact tw_108
  | k + 3, hk => exact absurd hk (by omega)
theorem i_Bl : ∀ w ∈ u_ws R_Bl F_Bl 2, w ∈ tg := by
  intro w hw
  obtain ⟨k, hk, rfl⟩ := List.mem_map.mp hw
  have hk := List.mem_range.mp hk
  match k, hk with
  | 0, _ => exact tw_127
  | 1, _ => exact tw_129
  | k + 2, hk => exact absurd hk (by omega)
theorem i_Dg : ∀ w ∈ u_ws R_Dg F_Dg 4, w ∈ tg := by
  intro w hw
  obtain ⟨k, hk, rfl⟩ := List.mem_map.mp hw
  have hk := List.mem_range.mp hk
  match k, hk with
  | 0, _ => exact tw_63
  | 1, _ => exact tw_65
  | 2, _ => exact tw_67
  | 3, _ => exact tw_69
  | k + 4, hk => exact absurd hk (by omega)
theorem i_Ln : ∀ w ∈ u_ws R_Ln F_Ln 5, w ∈ tg := by
  intro w hw
  obtain ⟨k, hk, rfl⟩ := List.mem_map.mp hw
  have hk := List.mem_range.mp hk
  match k, hk with
  | 0, _ => exact tw_247
  | 1, _ => exact tw_249
  | 2, _ => exact tw_251
  | 3, _ => exact tw_253
  | 4, _ => exact tw_255
  | k + 5, hk => exact absurd hk (by omega)
theorem i_Rd : ∀ w ∈ u_ws R_Rd F_Rd 8, w ∈ tg := by
  intro w hw
  obtain ⟨k, hk, rfl⟩ := List.mem_map.mp hw
  have hk := List.mem_range.mp hk
  match k, hk with
  | 0, _ => exact tw_266
  | 1, _ => exact tw_268
  | 2, _ => exact tw_270
  | 3, _ => exact tw_272
  | 4, _ => exact tw_274
  | 5, _ => exact tw_276
  | 6, _ => exact tw_278
  | 7, _ => exact tw_280
  | k + 8, hk => exact absurd hk (by omega)
theorem i_B : ∀ w ∈ u_ws R_B F_B 5, w ∈ tg := by
  intro w hw
  obtain ⟨k, hk, rfl⟩ := List.mem_map.mp hw
  have hk := List.mem_range.mp hk
  match k, hk with
  | 0, _ => exact tw_137
  | 1, _ => exact tw_139
  | 2, _ => exact tw_141
  | 3, _ => exact tw_143
  | 4, _ => exact tw_145
  | k + 5, hk => exact absurd hk (by omega)
theorem i_Mo : ∀ w ∈ u_ws R_Mo F_Mo 26, w ∈ tg := by
  intro w hw
  obtain ⟨k, hk, rfl⟩ := List.mem_map.mp hw
  have hk := List.mem_range.mp hk
  match k, hk with
  | 0, _ => exact tw_828
  | 1, _ => exact tw_830
  | 2, _ => exact tw_832
  | 3, _ => exact tw_834
  | 4, _ => exact tw_836
  | 5, _ => exact tw_838
  | 6, _ => exact tw_840
  | 7, _ => exact tw_842
  | 8, _ => exact tw_844
  | 9, _ => exact tw_846
  | 10, _ => exact tw_848
  | 11, _ => exact tw_850
  | 12, _ => exact tw_852
  | 13, _ => exact tw_854
  | 14, _ => exact tw_856
  | 15, _ => exact tw_858
  | 16, _ => exact tw_860
  | 17, _ => exact tw_862
  | 18, _ => exact tw_864
  | 19, _ => exact tw_866
  | 20, _ => exact tw_868
  | 21, _ => exact tw_870
  | 22, _ => exact tw_872
  | 23, _ => exact tw_874
  | 24, _ => exact tw_876
  | 25, _ => exact tw_878
  | k + 26, hk => exact absurd hk (by omega)
theorem ps_B_chosen : Cond.selects "BaselineText" y_B_chosen y_B_chosen ∈ tg := tg_of (List.mem_append_left _ (List.mem_map.mpr ⟨(y_B_chosen, 5), (List.mem_append_left _ (List.mem_of_getElem? (i := 0) rfl)), rfl⟩)) rfl
theorem ps_Rd_readFirst : Cond.selects "BaselineText$Reader" y_Rd_readFirst y_Rd_readFirst ∈ tg := tg_of (List.mem_append_left _ (List.mem_map.mpr ⟨(y_Rd_readFirst, 8), (List.mem_append_left _ (List.mem_of_getElem? (i := 1) rfl)), rfl⟩)) rfl
theorem ps_Rd_readFormat : Cond.selects "BaselineText$Reader" y_Rd_readFormat y_Rd_readFormat ∈ tg := tg_of (List.mem_append_left _ (List.mem_map.mpr ⟨(y_Rd_readFormat, 8), (List.mem_append_left _ (List.mem_of_getElem? (i := 2) rfl)), rfl⟩)) rfl
theorem ps_Rd_readWords : Cond.selects "BaselineText$Reader" y_Rd_readWords y_Rd_readWords ∈ tg := tg_of (List.mem_append_left _ (List.mem_map.mpr ⟨(y_Rd_readWords, 8), (List.mem_append_left _ (List.mem_of_getElem? (i := 3) rfl)), rfl⟩)) rfl
theorem ps_Rd_readMarks : Cond.selects "BaselineText$Reader" y_Rd_readMarks y_Rd_readMarks ∈ tg := tg_of (List.mem_append_left _ (List.mem_map.mpr ⟨(y_Rd_readMarks, 8), (List.mem_append_left _ (List.mem_of_getElem? (i := 4) rfl)), rfl⟩)) rfl
theorem ps_Rd_markHere : Cond.selects "BaselineText$Reader" y_Rd_markHere y_Rd_markHere ∈ tg := tg_of (List.mem_append_left _ (List.mem_map.mpr ⟨(y_Rd_markHere, 8), (List.mem_append_left _ (List.mem_of_getElem? (i := 5) rfl)), rfl⟩)) rfl
theorem ps_Rd_kindHere : Cond.selects "BaselineText$Reader" y_Rd_kindHere y_Rd_kindHere ∈ tg := tg_of (List.mem_append_left _ (List.mem_map.mpr ⟨(y_Rd_kindHere, 8), (List.mem_append_left _ (List.mem_of_getElem? (i := 6) rfl)), rfl⟩)) rfl
theorem ps_Rd_takeMember : Cond.selects "BaselineText$Reader" y_Rd_takeMember y_Rd_takeMember ∈ tg := tg_of (List.mem_append_left _ (List.mem_map.mpr ⟨(y_Rd_takeMember, 8), (List.mem_append_left _ (List.mem_of_getElem? (i := 7) rfl)), rfl⟩)) rfl
theorem ps_AL_fastRemove : Cond.selects "java/util/ArrayList" y_AL_fastRemove y_AL_fastRemove ∈ tg := tg_of (List.mem_append_left _ (List.mem_map.mpr ⟨(y_AL_fastRemove, 3), (List.mem_append_left _ (List.mem_of_getElem? (i := 8) rfl)), rfl⟩)) rfl
theorem ps_AL_rangeCheckForAdd : Cond.selects "java/util/ArrayList" y_AL_rangeCheckForAdd y_AL_rangeCheckForAdd ∈ tg := tg_of (List.mem_append_left _ (List.mem_map.mpr ⟨(y_AL_rangeCheckForAdd, 3), (List.mem_append_left _ (List.mem_of_getElem? (i := 9) rfl)), rfl⟩)) rfl
theorem ps_AL_grow : Cond.selects "java/util/ArrayList" y_AL_grow y_AL_grow ∈ tg := tg_of (List.mem_append_left _ (List.mem_map.mpr ⟨(y_AL_grow, 3), (List.mem_append_left _ (List.mem_of_getElem? (i := 10) rfl)), rfl⟩)) rfl
theorem ps_AL_grow2 : Cond.selects "java/util/ArrayList" y_AL_grow2 y_AL_grow2 ∈ tg := tg_of (List.mem_append_left _ (List.mem_map.mpr ⟨(y_AL_grow2, 3), (List.mem_append_left _ (List.mem_of_getElem? (i := 11) rfl)), rfl⟩)) rfl
theorem ps_Rd_takeType : Cond.selects "BaselineText$Reader" y_Rd_takeType y_Rd_takeType ∈ tg := tg_of (List.mem_append_left _ (List.mem_map.mpr ⟨(y_Rd_takeType, 8), (List.mem_append_left _ (List.mem_of_getElem? (i := 12) rfl)), rfl⟩)) rfl
theorem ps_Bl_addMemberLines : Cond.selects "BaselineText$Baseline" y_Bl_addMemberLines y_Bl_addMemberLines ∈ tg := tg_of (List.mem_append_left _ (List.mem_map.mpr ⟨(y_Bl_addMemberLines, 2), (List.mem_append_left _ (List.mem_of_getElem? (i := 13) rfl)), rfl⟩)) rfl
theorem ps_B_typeAt : Cond.selects "BaselineText" y_B_typeAt y_B_typeAt ∈ tg := tg_of (List.mem_append_left _ (List.mem_map.mpr ⟨(y_B_typeAt, 5), (List.mem_append_left _ (List.mem_of_getElem? (i := 14) rfl)), rfl⟩)) rfl
theorem ps_B_memberAt : Cond.selects "BaselineText" y_B_memberAt y_B_memberAt ∈ tg := tg_of (List.mem_append_left _ (List.mem_map.mpr ⟨(y_B_memberAt, 5), (List.mem_append_left _ (List.mem_of_getElem? (i := 15) rfl)), rfl⟩)) rfl
theorem ps_Mo_side : Cond.selects "BaselineTextModel" y_Mo_side y_Mo_side ∈ tg := tg_of (List.mem_append_left _ (List.mem_map.mpr ⟨(y_Mo_side, 26), (List.mem_append_right _ (List.mem_append_left _ (List.mem_of_getElem? (i := 0) rfl))), rfl⟩)) rfl
theorem ps_Mo_next : Cond.selects "BaselineTextModel" y_Mo_next y_Mo_next ∈ tg := tg_of (List.mem_append_left _ (List.mem_map.mpr ⟨(y_Mo_next, 26), (List.mem_append_right _ (List.mem_append_left _ (List.mem_of_getElem? (i := 1) rfl))), rfl⟩)) rfl
theorem ps_Mo_first : Cond.selects "BaselineTextModel" y_Mo_first y_Mo_first ∈ tg := tg_of (List.mem_append_left _ (List.mem_map.mpr ⟨(y_Mo_first, 26), (List.mem_append_right _ (List.mem_append_left _ (List.mem_of_getElem? (i := 2) rfl))), rfl⟩)) rfl
theorem ps_Mo_word : Cond.selects "BaselineTextModel" y_Mo_word y_Mo_word ∈ tg := tg_of (List.mem_append_left _ (List.mem_map.mpr ⟨(y_Mo_word, 26), (List.mem_append_right _ (List.mem_append_left _ (List.mem_of_getElem? (i := 3) rfl))), rfl⟩)) rfl
theorem ps_Mo_tell : Cond.selects "BaselineTextModel" y_Mo_tell y_Mo_tell ∈ tg := tg_of (List.mem_append_left _ (List.mem_map.mpr ⟨(y_Mo_tell, 26), (List.mem_append_right _ (List.mem_append_left _ (List.mem_of_getElem? (i := 4) rfl))), rfl⟩)) rfl
theorem ps_Mo_body : Cond.selects "BaselineTextModel" y_Mo_body y_Mo_body ∈ tg := tg_of (List.mem_append_left _ (List.mem_map.mpr ⟨(y_Mo_body, 26), (List.mem_append_right _ (List.mem_append_left _ (List.mem_of_getElem? (i := 5) rfl))), rfl⟩)) rfl
theorem ps_Mo_memberLine : Cond.selects "BaselineTextModel" y_Mo_memberLine y_Mo_memberLine ∈ tg := tg_of (List.mem_append_left _ (List.mem_map.mpr ⟨(y_Mo_memberLine, 26), (List.mem_append_right _ (List.mem_append_left _ (List.mem_of_getElem? (i := 6) rfl))), rfl⟩)) rfl
theorem ps_Mo_words : Cond.selects "BaselineTextModel" y_Mo_words y_Mo_words ∈ tg := tg_of (List.mem_append_left _ (List.mem_map.mpr ⟨(y_Mo_words, 26), (List.mem_append_right _ (List.mem_append_left _ (List.mem_of_getElem? (i := 7) rfl))), rfl⟩)) rfl
theorem ps_Mo_fail : Cond.selects "BaselineTextModel" y_Mo_fail y_Mo_fail ∈ tg := tg_of (List.mem_append_left _ (List.mem_map.mpr ⟨(y_Mo_fail, 26), (List.mem_append_right _ (List.mem_append_left _ (List.mem_of_getElem? (i := 8) rfl))), rfl⟩)) rfl
theorem ps_Mo_take : Cond.selects "BaselineTextModel" y_Mo_take y_Mo_take ∈ tg := tg_of (List.mem_append_left _ (List.mem_map.mpr ⟨(y_Mo_take, 26), (List.mem_append_right _ (List.mem_append_left _ (List.mem_of_getElem? (i := 9) rfl))), rfl⟩)) rfl
theorem ps_Mo_dotted : Cond.selects "BaselineTextModel" y_Mo_dotted y_Mo_dotted ∈ tg := tg_of (List.mem_append_left _ (List.mem_map.mpr ⟨(y_Mo_dotted, 26), (List.mem_append_right _ (List.mem_append_left _ (List.mem_of_getElem? (i := 10) rfl))), rfl⟩)) rfl
theorem ps_Mo_init2 : Cond.selects "BaselineTextModel" y_Mo_init2 y_Mo_init2 ∈ tg := tg_of (List.mem_append_left _ (List.mem_map.mpr ⟨(y_Mo_init2, 26), (List.mem_append_right _ (List.mem_append_left _ (List.mem_of_getElem? (i := 11) rfl))), rfl⟩)) rfl
theorem ps_Mo_method : Cond.selects "BaselineTextModel" y_Mo_method y_Mo_method ∈ tg := tg_of (List.mem_append_left _ (List.mem_map.mpr ⟨(y_Mo_method, 26), (List.mem_append_right _ (List.mem_append_left _ (List.mem_of_getElem? (i := 12) rfl))), rfl⟩)) rfl
theorem ps_Mo_field : Cond.selects "BaselineTextModel" y_Mo_field y_Mo_field ∈ tg := tg_of (List.mem_append_left _ (List.mem_map.mpr ⟨(y_Mo_field, 26), (List.mem_append_right _ (List.mem_append_left _ (List.mem_of_getElem? (i := 13) rfl))), rfl⟩)) rfl
theorem ps_Mo_compareMembers : Cond.selects "BaselineTextModel" y_Mo_compareMembers y_Mo_compareMembers ∈ tg := tg_of (List.mem_append_left _ (List.mem_map.mpr ⟨(y_Mo_compareMembers, 26), (List.mem_append_right _ (List.mem_append_left _ (List.mem_of_getElem? (i := 14) rfl))), rfl⟩)) rfl
theorem ps_Mo_compareNames : Cond.selects "BaselineTextModel" y_Mo_compareNames y_Mo_compareNames ∈ tg := tg_of (List.mem_append_left _ (List.mem_map.mpr ⟨(y_Mo_compareNames, 26), (List.mem_append_right _ (List.mem_append_left _ (List.mem_of_getElem? (i := 15) rfl))), rfl⟩)) rfl
theorem ps_Mo_move : Cond.selects "BaselineTextModel" y_Mo_move y_Mo_move ∈ tg := tg_of (List.mem_append_left _ (List.mem_map.mpr ⟨(y_Mo_move, 26), (List.mem_append_right _ (List.mem_append_right _ (List.mem_of_getElem? (i := 0) rfl))), rfl⟩)) rfl
theorem ps_Mo_typeLine : Cond.selects "BaselineTextModel" y_Mo_typeLine y_Mo_typeLine ∈ tg := tg_of (List.mem_append_left _ (List.mem_map.mpr ⟨(y_Mo_typeLine, 26), (List.mem_append_right _ (List.mem_append_right _ (List.mem_of_getElem? (i := 1) rfl))), rfl⟩)) rfl
theorem ps_Mo_lineOf : Cond.selects "BaselineTextModel" y_Mo_lineOf y_Mo_lineOf ∈ tg := tg_of (List.mem_append_left _ (List.mem_map.mpr ⟨(y_Mo_lineOf, 26), (List.mem_append_right _ (List.mem_append_right _ (List.mem_of_getElem? (i := 2) rfl))), rfl⟩)) rfl
theorem ps_Mo_say : Cond.selects "BaselineTextModel" y_Mo_say y_Mo_say ∈ tg := tg_of (List.mem_append_left _ (List.mem_map.mpr ⟨(y_Mo_say, 26), (List.mem_append_right _ (List.mem_append_right _ (List.mem_of_getElem? (i := 3) rfl))), rfl⟩)) rfl
theorem ps_Mo_put : Cond.selects "BaselineTextModel" y_Mo_put y_Mo_put ∈ tg := tg_of (List.mem_append_left _ (List.mem_map.mpr ⟨(y_Mo_put, 26), (List.mem_append_right _ (List.mem_append_right _ (List.mem_of_getElem? (i := 4) rfl))), rfl⟩)) rfl
theorem ps_Mo_typeRow : Cond.selects "BaselineTextModel" y_Mo_typeRow y_Mo_typeRow ∈ tg := tg_of (List.mem_append_left _ (List.mem_map.mpr ⟨(y_Mo_typeRow, 26), (List.mem_append_right _ (List.mem_append_right _ (List.mem_of_getElem? (i := 5) rfl))), rfl⟩)) rfl
theorem ps_Mo_count : Cond.selects "BaselineTextModel" y_Mo_count y_Mo_count ∈ tg := tg_of (List.mem_append_left _ (List.mem_map.mpr ⟨(y_Mo_count, 26), (List.mem_append_right _ (List.mem_append_right _ (List.mem_of_getElem? (i := 6) rfl))), rfl⟩)) rfl
theorem ps_Mo_memberRow : Cond.selects "BaselineTextModel" y_Mo_memberRow y_Mo_memberRow ∈ tg := tg_of (List.mem_append_left _ (List.mem_map.mpr ⟨(y_Mo_memberRow, 26), (List.mem_append_right _ (List.mem_append_right _ (List.mem_of_getElem? (i := 7) rfl))), rfl⟩)) rfl
theorem ps_Mo_rowLine : Cond.selects "BaselineTextModel" y_Mo_rowLine y_Mo_rowLine ∈ tg := tg_of (List.mem_append_left _ (List.mem_map.mpr ⟨(y_Mo_rowLine, 26), (List.mem_append_right _ (List.mem_append_right _ (List.mem_of_getElem? (i := 8) rfl))), rfl⟩)) rfl
theorem ps_Mo_copyText : Cond.selects "BaselineTextModel" y_Mo_copyText y_Mo_copyText ∈ tg := tg_of (List.mem_append_left _ (List.mem_map.mpr ⟨(y_Mo_copyText, 26), (List.mem_append_right _ (List.mem_append_right _ (List.mem_of_getElem? (i := 9) rfl))), rfl⟩)) rfl
theorem ps_Mo_memberAt : Cond.selects "BaselineTextModel" y_Mo_memberAt y_Mo_memberAt ∈ tg := tg_of (List.mem_append_left _ (List.mem_map.mpr ⟨(y_Mo_memberAt, 26), (List.mem_append_right _ (List.mem_append_right _ (List.mem_of_getElem? (i := 10) rfl))), rfl⟩)) rfl
theorem ps_Mo_keep : Cond.selects "BaselineTextModel" y_Mo_keep y_Mo_keep ∈ tg := tg_of (List.mem_append_left _ (List.mem_map.mpr ⟨(y_Mo_keep, 26), (List.mem_append_right _ (List.mem_append_right _ (List.mem_of_getElem? (i := 11) rfl))), rfl⟩)) rfl
theorem ps_Mo_alike : Cond.selects "BaselineTextModel" y_Mo_alike y_Mo_alike ∈ tg := tg_of (List.mem_append_left _ (List.mem_map.mpr ⟨(y_Mo_alike, 26), (List.mem_append_right _ (List.mem_append_right _ (List.mem_of_getElem? (i := 12) rfl))), rfl⟩)) rfl
theorem ps_Mo_dollar : Cond.selects "BaselineTextModel" y_Mo_dollar y_Mo_dollar ∈ tg := tg_of (List.mem_append_left _ (List.mem_map.mpr ⟨(y_Mo_dollar, 26), (List.mem_append_right _ (List.mem_append_right _ (List.mem_of_getElem? (i := 13) rfl))), rfl⟩)) rfl
theorem ps_Mo_lostOf : Cond.selects "BaselineTextModel" y_Mo_lostOf y_Mo_lostOf ∈ tg := tg_of (List.mem_append_left _ (List.mem_map.mpr ⟨(y_Mo_lostOf, 26), (List.mem_append_right _ (List.mem_append_right _ (List.mem_of_getElem? (i := 14) rfl))), rfl⟩)) rfl
end
section
/-! THE LAYER OF HEAP FACTS. A contract speaks of the heap H0 that it starts with: what it reads is said of H0 in hypotheses, what it leaves is said of the heap H1 behind it. Nothing is cut out or joined: a method that only reads leaves H0 itself. -/
section HXD
/-- an object of class ci with fields fs at a -/
def hOb (D : va_G) (cl : List vw_C) (H : Heap) (a ci : Nat) (fs : List Value) : Prop := va_at D cl (a, .inr (ci, fs)) H
/-- an array of small numbers, of references -/
def hAi (H : Heap) (a : Nat) (cA : ClassId) (n : Nat) (f : Nat → Int32) : Prop := H[a]? = some (vp_cell cA (n, .inl f))
def hAq (H : Heap) (a : Nat) (cA : ClassId) (n : Nat) (f : Nat → Option Nat) : Prop := H[a]? = some (vp_cell cA (n, .inr (.inr (.inr (.inr f)))))
/-- what was written lies at B or behind it -/
def hLo (B : Nat) (locs : List Loc) : Prop := ∀ q ∈ locs, B ≤ q.base
/-- from H to H1 nothing changed but in S, and cells came -/
def hCh (S : Nat → Prop) (H H1 : Heap) : Prop := H.size ≤ H1.size ∧ ∀ q : Nat, q < H.size → ¬ S q → H1[q]? = H[q]?
theorem hCh.rf {S : Nat → Prop} {H : Heap} : hCh S H H := ⟨Nat.le_refl _, fun _ _ _ => rfl⟩
theorem hCh.tr {S : Nat → Prop} {H H1 H2 : Heap} (h : hCh S H H1) (k : hCh S H1 H2) : hCh S H H2 := ⟨Nat.le_trans h.1 k.1, fun q hq hs => (k.2 q (Nat.lt_of_lt_of_le hq h.1) hs).trans (h.2 q hq hs)⟩
theorem hCh.mono {S S' : Nat → Prop} {H H1 : Heap} (h : hCh S H H1) (hs : ∀ q, q < H.size → S q → S' q) : hCh S' H H1 := ⟨h.1, fun q hq hn => h.2 q hq (fun z => hn (hs q hq z))⟩
theorem hCh.put {S : Nat → Prop} {a : Nat} {H H1 : Heap} (z : H1.size = H.size) (o : ∀ q : Nat, q ≠ a → H1[q]? = H[q]?) (ha : S a) : hCh S H H1 := ⟨Nat.le_of_eq z.symm, fun q _ hs => o q (fun e => hs (e ▸ ha))⟩
theorem hCh.new {S : Nat → Prop} {H H1 : Heap} (z : H1.size = H.size + 1) (o : ∀ q : Nat, q < H.size → H1[q]? = H[q]?) : hCh S H H1 := ⟨by omega, fun q hq _ => o q hq⟩
theorem hOb.lt {D : va_G} {cl : List vw_C} {H : Heap} {a ci : Nat} {fs : List Value} (h : hOb D cl H a ci fs) : a < H.size := va_at.lt (q := (a, .inr (ci, fs))) h
theorem hAi.lt {H : Heap} {a : Nat} {cA : ClassId} {n : Nat} {f : Nat → Int32} (h : hAi H a cA n f) : a < H.size := (Array.getElem?_eq_some_iff.mp h).1
theorem hAq.lt {H : Heap} {a : Nat} {cA : ClassId} {n : Nat} {f : Nat → Option Nat} (h : hAq H a cA n f) : a < H.size := (Array.getElem?_eq_some_iff.mp h).1
theorem hOb.eq {D : va_G} {cl : List vw_C} {H H1 : Heap} {a ci : Nat} {fs : List Value} (h : hOb D cl H a ci fs) (hq : H1[a]? = H[a]?) : hOb D cl H1 a ci fs := va_at.kept (q := (a, .inr (ci, fs))) h hq
theorem hAi.eq {H H1 : Heap} {a : Nat} {cA : ClassId} {n : Nat} {f : Nat → Int32} (h : hAi H a cA n f) (hq : H1[a]? = H[a]?) : hAi H1 a cA n f := hq.trans h
theorem hAq.eq {H H1 : Heap} {a : Nat} {cA : ClassId} {n : Nat} {f : Nat → Option Nat} (h : hAq H a cA n f) (hq : H1[a]? = H[a]?) : hAq H1 a cA n f := hq.trans h
theorem hOb.ch {S : Nat → Prop} {D : va_G} {cl : List vw_C} {H H1 : Heap} {a ci : Nat} {fs : List Value} (h : hOb D cl H a ci fs) (k : hCh S H H1) (hs : ¬ S a) : hOb D cl H1 a ci fs := h.eq (k.2 a h.lt hs)
theorem hAi.ch {S : Nat → Prop} {H H1 : Heap} {a : Nat} {cA : ClassId} {n : Nat} {f : Nat → Int32} (h : hAi H a cA n f) (k : hCh S H H1) (hs : ¬ S a) : hAi H1 a cA n f := h.eq (k.2 a h.lt hs)
theorem hAq.ch {S : Nat → Prop} {H H1 : Heap} {a : Nat} {cA : ClassId} {n : Nat} {f : Nat → Option Nat} (h : hAq H a cA n f) (k : hCh S H H1) (hs : ¬ S a) : hAq H1 a cA n f := h.eq (k.2 a h.lt hs)
theorem hLo.nil {B : Nat} : hLo B [] := fun _ h => by cases h
theorem hLo.put {B a i : Nat} {locs : List Loc} (h : hLo B locs) (ha : B ≤ a) : hLo B (locs ++ [⟨a, i⟩]) := fun q hq => by
  rcases List.mem_append.mp hq with h1 | h1
  · exact h q h1
  · rw [List.mem_singleton.mp h1]; exact ha
theorem hLo.app {B : Nat} {locs L : List Loc} (h : hLo B locs) (k : hLo B L) : hLo B (locs ++ L) := fun q hq => by
  rcases List.mem_append.mp hq with h1 | h1
  · exact h q h1
  · exact k q h1
theorem hP1 {D : va_G} {cl : List vw_C} {H : Heap} {q : Nat × va_E} (h : va_at D cl q H) : va_P D cl [q] H := by
  intro k x hk
  cases k with
  | zero => cases hk; exact h
  | succ k => simp at hk
/-- the answers: an int (boolean, char ..), nothing, a reference or null -/
def hQi (P : Int32 → Heap → Prop) : Array Value → State → Outcome → State → Prop := fun _ _ oc t => ∃ r : Int32, oc = .returned (some (.int r)) ∧ P r t.heap
def hQv (P : Heap → Prop) : Array Value → State → Outcome → State → Prop := fun _ _ oc t => oc = .returned none ∧ P t.heap
def hQr (P : Option Nat → Heap → Prop) : Array Value → State → Outcome → State → Prop := fun _ _ oc t => ∃ r : Option Nat, oc = .returned (some (va_rf r)) ∧ P r t.heap
/-- the start of a contract: its arguments, its heap, what is known of the tables -/
def hPc (K : State → Prop) (av : List Value) (H0 : Heap) : Array Value → State → Prop := fun v U => v = av.toArray ∧ U.heap = H0 ∧ K U
/-- what is known of the tables goes on holding -/
def hKeeps (K : State → Prop) : Prop := (∀ s U : State, s.WarmedH U.vm → K s → K U) ∧ ∀ (U : State) (g : JFrame) (mk : MethodId) (a : Array Value), K U → K (U.calling g mk a)
theorem hPc.blind {K : State → Prop} (hk : hKeeps K) {av : List Value} {H0 : Heap} : FrameBlind (hPc K av H0) := fun a U g mk q => ⟨q.1, q.2.1, hk.2 U g mk a q.2.2⟩
end HXD
section HX
variable {p : Program} {l : Launch} {e : Env} {R : Room} {s : State} {m : MethodId} {args : Array Value} {below : List Frame} {meth : Method} {c : Code} {H : Heap} {locs : List Loc} {cells slots : Nat} {Q : State → Prop}
variable {cc : ByteArray} {pc : Nat} {ls : Array Slot} {rest : List Value} {D : va_G} {cl : List vw_C} {a B : Nat} {tys : List (ClassId × FieldType)}
theorem hx_get (hexec : p.tables.exec = Jvm.exec) (hb : c.code = cc) {own ref C : String} {T : u_T} {N ci index : Nat} {Ts : List Cond} (hts : ∀ w ∈ Ts, w.before args s = true) (hin : ∀ w ∈ u_ws C T N, w ∈ Ts) (hown : s.vm.findClass own = some m.cls) (hK : va_K D cl tys s) {fs : List Value} (he : hOb D cl H a ci fs) (hc : cl[ci]? = some (C, T, N)) (k : Nat) (hk : k < N) (hlink : (Cond.fieldLink own index ref (T k).2.1 (T k).2.2.1).before args s = true) (hsame : ∀ x, s.fieldFound? (T k).1 (T k).2.1 (T k).2.2.1 = some x → s.fieldFound? ref (T k).2.1 (T k).2.2.1 = some x) {v : Value} (hv : fs[k]? = some v) (hdg : decode cc pc = .ok (.getfield index, 3))
    (kk : W p l e R s m args below meth c H locs cells slots Q (F0 m (pc + 3) ls (v :: rest))) : W p l e R s m args below meth c H locs cells slots Q (F0 m pc ls (.ref a :: rest)) :=
  va_get hexec hb hts hin hown hK (hP1 he) 0 rfl hc k hk hlink hsame hv hdg kk
theorem hx_getN (hexec : p.tables.exec = Jvm.exec) (hb : c.code = cc) {own ref C host : String} {T : u_T} {N ci index : Nat} {Ts : List Cond} (hts : ∀ w ∈ Ts, w.before args s = true) (hin : ∀ w ∈ u_ws C T N, w ∈ Ts) (hown : s.vm.findClass own = some m.cls) (hK : va_K D cl tys s) {fs : List Value} (he : hOb D cl H a ci fs) (hc : cl[ci]? = some (C, T, N)) (k : Nat) (hk : k < N) (hlink : (Cond.fieldLinkNest own index ref (T k).2.1 (T k).2.2.1 host).before args s = true) (hsame : ∀ x, s.fieldFound? (T k).1 (T k).2.1 (T k).2.2.1 = some x → s.fieldFound? ref (T k).2.1 (T k).2.2.1 = some x) {v : Value} (hv : fs[k]? = some v) (hdg : decode cc pc = .ok (.getfield index, 3))
    (kk : W p l e R s m args below meth c H locs cells slots Q (F0 m (pc + 3) ls (v :: rest))) : W p l e R s m args below meth c H locs cells slots Q (F0 m pc ls (.ref a :: rest)) :=
  va_getN hexec hb hts hin hown hK (hP1 he) 0 rfl hc k hk hlink hsame hv hdg kk
theorem hx_put (hexec : p.tables.exec = Jvm.exec) (hb : c.code = cc) {own ref C : String} {T : u_T} {N ci index : Nat} {Ts : List Cond} (hts : ∀ w ∈ Ts, w.before args s = true) (hin : ∀ w ∈ u_ws C T N, w ∈ Ts) (ty0 : Nat → FieldType) (hty : ∀ k, k < N → parseFieldDescriptor (T k).2.2.1 = some (ty0 k)) (hnm : ∀ a, a < N → ∀ b, b < N → a ≠ b → (T a).2.1 ≠ (T b).2.1) (hown : s.vm.findClass own = some m.cls) (hK : va_K D cl tys s) {fs : List Value} (he : hOb D cl H a ci fs) (hlo : hLo B locs) (hB : B ≤ a) (hc : cl[ci]? = some (C, T, N)) (k : Nat) (hk : k < N) (hlink : (Cond.fieldLink own index ref (T k).2.1 (T k).2.2.1).before args s = true) (hsame : ∀ x, s.fieldFound? (T k).1 (T k).2.1 (T k).2.2.1 = some x → s.fieldFound? ref (T k).2.1 (T k).2.2.1 = some x) (hfin : (T k).2.2.2 = false) {ty : FieldType} {v : Value} (hd : parseFieldDescriptor (T k).2.2.1 = some ty) (hn : narrow ty v = v) (hfit : fits ty v = true) (hl : k < fs.length)
    (hdg : decode cc pc = .ok (.putfield index, 3)) (kk : ∀ (H1 : Heap) (locs1 : List Loc), hOb D cl H1 a ci (fs.set k v) → H1.size = H.size → (∀ q : Nat, q ≠ a → H1[q]? = H[q]?) → hLo B locs1 → W p l e R s m args below meth c H1 locs1 cells slots Q (F0 m (pc + 3) ls rest)) : W p l e R s m args below meth c H locs cells slots Q (F0 m pc ls (v :: .ref a :: rest)) := by
  have hap := va_apart (own := own) hts hin ty0 hty hnm hK hc
  obtain ⟨r, h1, cell, q1, q2, q3, q4⟩ := he
  have hr : r = (C, T, N) := Option.some.inj (h1.symm.trans hc)
  subst hr
  obtain ⟨hS, hfc, kC, hkC, hkind⟩ := hK.1 ci _ hc
  obtain ⟨cf, kf, fi, f, hi, hsl⟩ := hS k hk
  have hlay := hts _ (hin _ (u_in_lay hk))
  unfold u_lay at hlay
  rw [if_neg (by rw [hfin]; decide)] at hlay
  have hst := (u_facts hfc hkC (u_lays hts hin hk) hi).1
  have h6 := u_store hfc hkC hkind hlay hi hd hn hfit
  refine W.putK hexec hb (f := f) ⟨hown, hlink, ⟨_, _, _, hsame _ hi⟩, hst⟩ (by rw [q2]; exact h6) q1 q3 (by rw [hsl]; exact k2_hasslot (q4 k hk)) rfl rfl hdg fun H' e1 e2 e3 => ?_
  rw [hsl] at e1 ⊢
  exact kk H' _ ⟨_, hc, t_OB.to (V := updV (vp_V fs) k v) ⟨_, e1, q2, q3, t_set q4 hap hk v⟩ (fun j _ => vp_updV_set hl v j)⟩ e2 e3 (hlo.put hB)
theorem hx_putN (hexec : p.tables.exec = Jvm.exec) (hb : c.code = cc) {own ref C host : String} {T : u_T} {N ci index : Nat} {Ts : List Cond} (hts : ∀ w ∈ Ts, w.before args s = true) (hin : ∀ w ∈ u_ws C T N, w ∈ Ts) (ty0 : Nat → FieldType) (hty : ∀ k, k < N → parseFieldDescriptor (T k).2.2.1 = some (ty0 k)) (hnm : ∀ a, a < N → ∀ b, b < N → a ≠ b → (T a).2.1 ≠ (T b).2.1) (hown : s.vm.findClass own = some m.cls) (hK : va_K D cl tys s) {fs : List Value} (he : hOb D cl H a ci fs) (hlo : hLo B locs) (hB : B ≤ a) (hc : cl[ci]? = some (C, T, N)) (k : Nat) (hk : k < N) (hlink : (Cond.fieldLinkNest own index ref (T k).2.1 (T k).2.2.1 host).before args s = true) (hsame : ∀ x, s.fieldFound? (T k).1 (T k).2.1 (T k).2.2.1 = some x → s.fieldFound? ref (T k).2.1 (T k).2.2.1 = some x) (hfin : (T k).2.2.2 = false) {ty : FieldType} {v : Value} (hd : parseFieldDescriptor (T k).2.2.1 = some ty) (hn : narrow ty v = v) (hfit : fits ty v = true) (hl : k < fs.length)
    (hdg : decode cc pc = .ok (.putfield index, 3)) (kk : ∀ (H1 : Heap) (locs1 : List Loc), hOb D cl H1 a ci (fs.set k v) → H1.size = H.size → (∀ q : Nat, q ≠ a → H1[q]? = H[q]?) → hLo B locs1 → W p l e R s m args below meth c H1 locs1 cells slots Q (F0 m (pc + 3) ls rest)) : W p l e R s m args below meth c H locs cells slots Q (F0 m pc ls (v :: .ref a :: rest)) := by
  have hap := va_apart (own := own) hts hin ty0 hty hnm hK hc
  obtain ⟨r, h1, cell, q1, q2, q3, q4⟩ := he
  have hr : r = (C, T, N) := Option.some.inj (h1.symm.trans hc)
  subst hr
  obtain ⟨hS, hfc, kC, hkC, hkind⟩ := hK.1 ci _ hc
  obtain ⟨cf, kf, fi, f, hi, hsl⟩ := hS k hk
  have hlay := hts _ (hin _ (u_in_lay hk))
  unfold u_lay at hlay
  rw [if_neg (by rw [hfin]; decide)] at hlay
  have hst := (u_facts hfc hkC (u_lays hts hin hk) hi).1
  have h6 := u_store hfc hkC hkind hlay hi hd hn hfit
  refine va_WputK hexec hb (f := f) hown hlink (hsame _ hi) hst (by rw [q2]; exact h6) q1 q3 (by rw [hsl]; exact k2_hasslot (q4 k hk)) rfl rfl hdg fun H' e1 e2 e3 => ?_
  rw [hsl] at e1 ⊢
  exact kk H' _ ⟨_, hc, t_OB.to (V := updV (vp_V fs) k v) ⟨_, e1, q2, q3, t_set q4 hap hk v⟩ (fun j _ => vp_updV_set hl v j)⟩ e2 e3 (hlo.put hB)
theorem hx_putF (hexec : p.tables.exec = Jvm.exec) (hb : c.code = cc) {own ref C : String} {T : u_T} {N ci index : Nat} {Ts : List Cond} (hts : ∀ w ∈ Ts, w.before args s = true) (hin : ∀ w ∈ u_ws C T N, w ∈ Ts) (ty0 : Nat → FieldType) (hty : ∀ k, k < N → parseFieldDescriptor (T k).2.2.1 = some (ty0 k)) (hnm : ∀ a, a < N → ∀ b, b < N → a ≠ b → (T a).2.1 ≠ (T b).2.1) (hown : s.vm.findClass own = some m.cls) (hK : va_K D cl tys s) {fs : List Value} (he : hOb D cl H a ci fs) (hlo : hLo B locs) (hB : B ≤ a) (hc : cl[ci]? = some (C, T, N)) (k : Nat) (hk : k < N) (hlink : (Cond.fieldLink own index ref (T k).2.1 (T k).2.2.1).before args s = true) (hsame : ∀ x, s.fieldFound? (T k).1 (T k).2.1 (T k).2.2.1 = some x → s.fieldFound? ref (T k).2.1 (T k).2.2.1 = some x) (hfin : (T k).2.2.2 = true) (hin2 : meth.name = "<init>") (hdecl : (T k).1 = own) {ty : FieldType} {v : Value} (hd : parseFieldDescriptor (T k).2.2.1 = some ty) (hn : narrow ty v = v) (hfit : fits ty v = true) (hl : k < fs.length)
    (hdg : decode cc pc = .ok (.putfield index, 3)) (kk : ∀ (H1 : Heap) (locs1 : List Loc), hOb D cl H1 a ci (fs.set k v) → H1.size = H.size → (∀ q : Nat, q ≠ a → H1[q]? = H[q]?) → hLo B locs1 → W p l e R s m args below meth c H1 locs1 cells slots Q (F0 m (pc + 3) ls rest)) : W p l e R s m args below meth c H locs cells slots Q (F0 m pc ls (v :: .ref a :: rest)) := by
  have hap := va_apart (own := own) hts hin ty0 hty hnm hK hc
  obtain ⟨r, h1, cell, q1, q2, q3, q4⟩ := he
  have hr : r = (C, T, N) := Option.some.inj (h1.symm.trans hc)
  subst hr
  obtain ⟨hS, hfc, kC, hkC, hkind⟩ := hK.1 ci _ hc
  obtain ⟨cf, kf, fi, f, hi, hsl⟩ := hS k hk
  have hlay := hts _ (hin _ (u_in_lay hk))
  unfold u_lay at hlay
  rw [if_pos hfin] at hlay
  have hst := (u_facts hfc hkC (u_lays hts hin hk) hi).1
  have hcf : m.cls = cf := by
    obtain ⟨_, _, c', _, _, _, -, -, hf', -, -, -, hown2, -⟩ := Cond.laysFinal_spec hlay
    have e1 : c' = cf := by have := hi.symm.trans hf'; simp at this; exact this.1.symm
    rw [hdecl] at hown2
    rw [← e1]; exact Option.some.inj (hown.symm.trans hown2)
  have h6 := u_fits hfc hkC hkind (Or.inr hlay) hi hd hn hfit
  refine W.putFinK hexec hb hown hlink (hsame _ hi) hst hcf hin2 (by rw [q2]; exact h6) q1 q3 (by rw [hsl]; exact k2_hasslot (q4 k hk)) rfl rfl hdg fun H' e1 e2 e3 => ?_
  rw [hsl] at e1 ⊢
  exact kk H' _ ⟨_, hc, t_OB.to (V := updV (vp_V fs) k v) ⟨_, e1, q2, q3, t_set q4 hap hk v⟩ (fun j _ => vp_updV_set hl v j)⟩ e2 e3 (hlo.put hB)
/-- a new object: its address is the heap's size -/
theorem hx_new (hexec : p.tables.exec = Jvm.exec) (hb : c.code = cc) {own C : String} {T : u_T} {N ci index : Nat} {Ts : List Cond} (hts : ∀ w ∈ Ts, w.before args s = true) (hin : ∀ w ∈ u_ws C T N, w ∈ Ts) (ty : Nat → FieldType) (hty : ∀ k, k < N → parseFieldDescriptor (T k).2.2.1 = some (ty k)) (hown : s.vm.findClass own = some m.cls) (hcl : (Cond.classLink own index C).before args s = true) (hinst : (Cond.instantiable C N).before args s = true) (hini : (Cond.initialized C).before args s = true)
    (hK : va_K D cl tys s) (hc : cl[ci]? = some (C, T, N)) {fs : List Value} (hfs : ∀ j, j < N → defaultValue (ty j) = vp_V fs j) (hcells : cells + 1 ≤ R.cells) (hslots : slots + N ≤ R.slots) (hdg : decode cc pc = .ok (.new index, 3))
    (kk : ∀ H1 : Heap, hOb D cl H1 H.size ci fs → H1.size = H.size + 1 → (∀ q : Nat, q < H.size → H1[q]? = H[q]?) →
      W p l e R s m args below meth c H1 locs (cells + 1) (slots + N) Q (F0 m (pc + 3) ls (.ref H.size :: rest))) : W p l e R s m args below meth c H locs cells slots Q (F0 m pc ls rest) := by
  have hKn := hK.1 ci _ hc
  refine W.newcK hexec hb hown hcl hinst hini rfl hdg hcells hslots hKn.2.1 rfl fun H1 kC hkC e1 z1 o1 => ?_
  exact kk H1 ⟨_, hc, (u_born ty hts hin hKn hkC e1 hty).to hfs⟩ z1 o1
/-- a new array of small numbers -/
theorem hx_newa (hexec : p.tables.exec = Jvm.exec) (hb : c.code = cc) {atype : ArrayType} (harr : (Cond.arrayClass (newarray.typeOf atype)).before args s = true) (hK : va_K D cl tys s) (t0 : Nat) {cA : ClassId} (ht : tys[t0]? = some (cA, newarray.typeOf atype))
    {n : Int32} {N : Nat} {a0 : vp_A} (ha : ∀ cA : ClassId, vp_cell cA a0 = arrV cA N (fun _ => defaultValue (newarray.typeOf atype))) (hn : ¬ n < 0) (hN : n.toNatClampNeg = N) (hbytes : N * componentBytes (newarray.typeOf atype) ≤ 536870912) (hcells : cells + 1 ≤ R.cells) (hslots : slots + N ≤ R.slots) (hdg : decode cc pc = .ok (.newarray atype, 2))
    (kk : ∀ H1 : Heap, H1[H.size]? = some (vp_cell cA a0) → H1.size = H.size + 1 → (∀ q : Nat, q < H.size → H1[q]? = H[q]?) →
      W p l e R s m args below meth c H1 locs (cells + 1) (slots + N) Q (F0 m (pc + 2) ls (.ref H.size :: rest))) : W p l e R s m args below meth c H locs cells slots Q (F0 m pc ls (.int n :: rest)) := by
  refine va_newaK hexec hb harr rfl hdg rfl hn hN hbytes hcells hslots rfl fun H1 cA' e1 z1 o1 hAr hNm => ?_
  have hcA : s.vm.findClass ("[" ++ (newarray.typeOf atype).toString) = some cA := by
    have h2 := (hK.2 t0 _ ht).2
    cases atype <;> exact h2
  have he : cA' = cA := Option.some.inj (hNm.symm.trans hcA)
  subst he
  exact kk H1 (by rw [ha]; exact e1) z1 o1
theorem hx_cald (hexec : p.tables.exec = Jvm.exec) (hb : c.code = cc) (hK : va_K D cl tys s) (t0 : Nat) {cA : ClassId} {n : Nat} {f : Nat → Int32} (ha : hAi H a cA n f) (ht : tys[t0]? = some (cA, .char)) {i : Int32} (hin : vp_in i n) (hdg : decode cc pc = .ok (.caload, 1))
    (kk : W p l e R s m args below meth c H locs cells slots Q (F0 m (pc + 1) ls (.int (f i.toNatClampNeg) :: rest))) : W p l e R s m args below meth c H locs cells slots Q (F0 m pc ls (.int i :: .ref a :: rest)) :=
  va_cald (D := D) (cl := cl) (ws := [(a, .inl (cA, n, .inl f))]) hexec hb hK (hP1 ha) 0 t0 rfl ht hin hdg kk
theorem hx_iald (hexec : p.tables.exec = Jvm.exec) (hb : c.code = cc) (hK : va_K D cl tys s) (t0 : Nat) {cA : ClassId} {n : Nat} {f : Nat → Int32} (ha : hAi H a cA n f) (ht : tys[t0]? = some (cA, .int)) {i : Int32} (hin : vp_in i n) (hdg : decode cc pc = .ok (.iaload, 1))
    (kk : W p l e R s m args below meth c H locs cells slots Q (F0 m (pc + 1) ls (.int (f i.toNatClampNeg) :: rest))) : W p l e R s m args below meth c H locs cells slots Q (F0 m pc ls (.int i :: .ref a :: rest)) :=
  va_iald (D := D) (cl := cl) (ws := [(a, .inl (cA, n, .inl f))]) hexec hb hK (hP1 ha) 0 t0 rfl ht hin hdg kk
theorem hx_aald (hexec : p.tables.exec = Jvm.exec) (hb : c.code = cc) (hK : va_K D cl tys s) (t0 : Nat) {cA : ClassId} {C : String} {n : Nat} {f : Nat → Option Nat} (ha : hAq H a cA n f) (ht : tys[t0]? = some (cA, .object C)) {i : Int32} (hin : vp_in i n) (hdg : decode cc pc = .ok (.aaload, 1))
    (kk : W p l e R s m args below meth c H locs cells slots Q (F0 m (pc + 1) ls (va_rf (f i.toNatClampNeg) :: rest))) : W p l e R s m args below meth c H locs cells slots Q (F0 m pc ls (.int i :: .ref a :: rest)) :=
  va_aldq (D := D) (cl := cl) (ws := [(a, .inl (cA, n, .inr (.inr (.inr (.inr f)))))]) hexec hb hK (hP1 ha) 0 t0 rfl ht hin hdg kk
theorem hx_alen (hexec : p.tables.exec = Jvm.exec) (hb : c.code = cc) (hK : va_K D cl tys s) (t0 : Nat) {cA : ClassId} {x : vp_A} (ha : H[a]? = some (vp_cell cA x)) {ty : FieldType} (ht : tys[t0]? = some (cA, ty)) {v : Int32} (hv : nI x.1 = v) (hdg : decode cc pc = .ok (.arraylength, 1))
    (kk : W p l e R s m args below meth c H locs cells slots Q (F0 m (pc + 1) ls (.int v :: rest))) : W p l e R s m args below meth c H locs cells slots Q (F0 m pc ls (.ref a :: rest)) :=
  va_alen (D := D) (cl := cl) (ws := [(a, .inl (cA, x))]) hexec hb hK (hP1 ha) 0 t0 rfl ht hv hdg kk
theorem hx_cast (hexec : p.tables.exec = Jvm.exec) (hb : c.code = cc) (hK : va_K D cl tys s) (t0 : Nat) {cA : ClassId} {n : Nat} {f : Nat → Int32} (ha : hAi H a cA n f) (hlo : hLo B locs) (hB : B ≤ a) (ht : tys[t0]? = some (cA, .char)) {i : Int32} {x : Int32} (hin : vp_in i n) (hdg : decode cc pc = .ok (.castore, 1))
    (kk : ∀ (H1 : Heap) (locs1 : List Loc), hAi H1 a cA n (upd f i.toNatClampNeg (vp_nar .char x)) → H1.size = H.size → (∀ q : Nat, q ≠ a → H1[q]? = H[q]?) → hLo B locs1 → W p l e R s m args below meth c H1 locs1 cells slots Q (F0 m (pc + 1) ls rest)) : W p l e R s m args below meth c H locs cells slots Q (F0 m pc ls (.int x :: .int i :: .ref a :: rest)) := by
  refine W.cast hexec hb ha ((hK.2 t0 _ ht).1 n (fun j => .int (f j))) (fun q => by cases q) (by show ¬ (i < 0 ∨ (arrV _ _ _).slots.size ≤ _); rw [arrV_size]; exact hin) rfl rfl hdg fun H1 e z oq => ?_
  refine kk H1 _ ?_ z oq (hlo.put hB)
  show H1[a]? = some (vp_cell _ _)
  rw [e]
  rw [vp_cell_i, vp_cell_i, arrV_store]
  congr 2
  funext q
  by_cases hq : q = i.toNatClampNeg
  · subst hq
    simp [updV, upd, vp_nar]
    try rfl
  · simp [updV, upd, hq]
theorem hx_iast (hexec : p.tables.exec = Jvm.exec) (hb : c.code = cc) (hK : va_K D cl tys s) (t0 : Nat) {cA : ClassId} {n : Nat} {f : Nat → Int32} (ha : hAi H a cA n f) (hlo : hLo B locs) (hB : B ≤ a) (ht : tys[t0]? = some (cA, .int)) {i : Int32} {x : Int32} (hin : vp_in i n) (hdg : decode cc pc = .ok (.iastore, 1))
    (kk : ∀ (H1 : Heap) (locs1 : List Loc), hAi H1 a cA n (upd f i.toNatClampNeg x) → H1.size = H.size → (∀ q : Nat, q ≠ a → H1[q]? = H[q]?) → hLo B locs1 → W p l e R s m args below meth c H1 locs1 cells slots Q (F0 m (pc + 1) ls rest)) : W p l e R s m args below meth c H locs cells slots Q (F0 m pc ls (.int x :: .int i :: .ref a :: rest)) := by
  refine W.iast hexec hb ha ((hK.2 t0 _ ht).1 n (fun j => .int (f j))) (fun q => by cases q) (by show ¬ (i < 0 ∨ (arrV _ _ _).slots.size ≤ _); rw [arrV_size]; exact hin) rfl rfl hdg fun H1 e z oq => ?_
  refine kk H1 _ ?_ z oq (hlo.put hB)
  show H1[a]? = some (vp_cell _ _)
  rw [e]
  rw [vp_cell_i, vp_cell_i, arrV_store]
  congr 2
  funext q
  by_cases hq : q = i.toNatClampNeg
  · subst hq
    simp [updV, upd]
  · simp [updV, upd, hq]
/-- returns -/
theorem hx_reti {P : Int32 → Heap → Prop} {free : Addr → Prop} {v : Int32} {ty : FieldType} {mc ms : Nat} (hexec : p.tables.exec = Jvm.exec) (hb : c.code = cc) (hr : meth.sig.returnType = some ty) (hlocks : meth.locks = false) (hn : narrow ty (.int v) = .int v) (hlo : hLo B locs) (hfr : ∀ q, B ≤ q → free q) (hc : cells ≤ mc) (hs : slots ≤ ms) (hdg : decode cc pc = .ok (.ireturn, 1)) (hP : P v H) :
    W p l e R s m args below meth c H locs cells slots (MQ below (hQi P) args s mc ms free) (F0 m pc ls [.int v]) := by
  refine W.widen (k := mc) (n := ms) hc hs ?_
  exact W.zret hexec hb hr hn (fun t ht _ => ⟨v, rfl, by rw [ht]; exact hP⟩) (fun q hq => hfr _ (hlo q hq)) hdg hlocks
theorem hx_retv {P : Heap → Prop} {free : Addr → Prop} {mc ms : Nat} (hexec : p.tables.exec = Jvm.exec) (hb : c.code = cc) (hr : meth.sig.returnType = none) (hlocks : meth.locks = false) (hlo : hLo B locs) (hfr : ∀ q, B ≤ q → free q) (hc : cells ≤ mc) (hs : slots ≤ ms) (hdg : decode cc pc = .ok (.return_, 1)) (hP : P H) :
    W p l e R s m args below meth c H locs cells slots (MQ below (hQv P) args s mc ms free) (F0 m pc ls []) := by
  refine W.widen (k := mc) (n := ms) hc hs ?_
  exact W.vret hexec hb hr (fun t ht _ => ⟨rfl, by rw [ht]; exact hP⟩) (fun q hq => hfr _ (hlo q hq)) hdg hlocks
theorem hx_reta {P : Option Nat → Heap → Prop} {free : Addr → Prop} {v : Option Nat} {rt : FieldType} {mc ms : Nat} (hexec : p.tables.exec = Jvm.exec) (hb : c.code = cc) (hr : meth.sig.returnType = some rt) (hlocks : meth.locks = false) (hrt : (∃ n, rt = .object n) ∨ ∃ t, rt = .array t) (hlo : hLo B locs) (hfr : ∀ q, B ≤ q → free q) (hc : cells ≤ mc) (hs : slots ≤ ms) (hdg : decode cc pc = .ok (.areturn, 1)) (hP : P v H) :
    W p l e R s m args below meth c H locs cells slots (MQ below (hQr P) args s mc ms free) (F0 m pc ls [va_rf v]) := by
  refine W.widen (k := mc) (n := ms) hc hs ?_
  exact W.aret hexec hb hr hrt (by cases v with | none => exact Or.inl rfl | some x => exact Or.inr ⟨x, rfl⟩) (fun t ht _ => ⟨v, rfl, by rw [ht]; exact hP⟩) (fun q hq => hfr _ (hlo q hq)) hdg hlocks
-- calls: what came back goes on
variable {st0 : List Value} {aa : Array Value} {mc ms : Nat} {free : Addr → Prop}
theorem hx_calli {P : Int32 → Heap → Prop} (hr : va_Run p l e R s m args below meth c H locs cells slots mc ms (F0 m pc ls st0) rest (hQi P aa) free) (hlo : hLo B locs) (hfr : ∀ q, free q → B ≤ q)
    (kk : ∀ (r : Int32) (H1 : Heap) (locs1 : List Loc), P r H1 → hLo B locs1 → W p l e R s m args below meth c H1 locs1 (cells + mc) (slots + ms) Q (F0 m (pc + 3) ls (.int r :: rest))) : W p l e R s m args below meth c H locs cells slots Q (F0 m pc ls st0) := by
  intro T hT X
  obtain ⟨v, st₀, t, T', L, h0, X', hL, e1, e2, ⟨r, hv, hp⟩, st⟩ := hr T hT X
  cases hv
  obtain ⟨t2, a1, b1⟩ := kk r T'.heap (locs ++ L) (by rw [e1]; exact hp) (hlo.app (fun q hq => hfr _ (hL q hq))) T' rfl X'
  exact ⟨t2, st t2 a1, b1⟩
theorem hx_callv {P : Heap → Prop} (hr : va_Run p l e R s m args below meth c H locs cells slots mc ms (F0 m pc ls st0) rest (hQv P aa) free) (hlo : hLo B locs) (hfr : ∀ q, free q → B ≤ q)
    (kk : ∀ (H1 : Heap) (locs1 : List Loc), P H1 → hLo B locs1 → W p l e R s m args below meth c H1 locs1 (cells + mc) (slots + ms) Q (F0 m (pc + 3) ls rest)) : W p l e R s m args below meth c H locs cells slots Q (F0 m pc ls st0) := by
  intro T hT X
  obtain ⟨v, st₀, t, T', L, h0, X', hL, e1, e2, ⟨hv, hp⟩, st⟩ := hr T hT X
  cases hv
  obtain ⟨t2, a1, b1⟩ := kk T'.heap (locs ++ L) (by rw [e1]; exact hp) (hlo.app (fun q hq => hfr _ (hL q hq))) T' rfl X'
  exact ⟨t2, st t2 a1, b1⟩
theorem hx_callr {P : Option Nat → Heap → Prop} (hr : va_Run p l e R s m args below meth c H locs cells slots mc ms (F0 m pc ls st0) rest (hQr P aa) free) (hlo : hLo B locs) (hfr : ∀ q, free q → B ≤ q)
    (kk : ∀ (r : Option Nat) (H1 : Heap) (locs1 : List Loc), P r H1 → hLo B locs1 → W p l e R s m args below meth c H1 locs1 (cells + mc) (slots + ms) Q (F0 m (pc + 3) ls (va_rf r :: rest))) : W p l e R s m args below meth c H locs cells slots Q (F0 m pc ls st0) := by
  intro T hT X
  obtain ⟨v, st₀, t, T', L, h0, X', hL, e1, e2, ⟨r, hv, hp⟩, st⟩ := hr T hT X
  cases hv
  obtain ⟨t2, a1, b1⟩ := kk r T'.heap (locs ++ L) (by rw [e1]; exact hp) (hlo.app (fun q hq => hfr _ (hL q hq))) T' rfl X'
  exact ⟨t2, st t2 a1, b1⟩
end HX
def nwN : List (String × Nat × MethodName × String) := [("BaselineText", 23, y_Dg_init, "BaselineText"), ("BaselineText", 30, y_Bl_init, "BaselineText"), ("BaselineText$Reader", 11, y_Dc_init, "BaselineText"), ("BaselineText$Type", 3, y_Dc_init, "BaselineText"), ("BaselineText$Baseline", 51, y_Tp_init, "BaselineText")]
def nwC : List (String × String) := [("BaselineText$Declaration", "BaselineText$Declaration"), ("BaselineText$Type", "BaselineText$Declaration"), ("BaselineText$Type", "BaselineText$Type"), ("BaselineText", "java/lang/Object"), ("BaselineText$Row", "java/lang/Object"), ("BaselineText$Diagnostics", "java/lang/Object"), ("BaselineText$Baseline", "java/lang/Object"), ("BaselineText$Shelf", "java/lang/Object"), ("BaselineTextModel", "java/lang/Object"), ("BaselineText$Reader", "java/lang/Object"), ("BaselineText$Declaration", "java/lang/Object"), ("BaselineText$Line", "java/lang/Object"), ("BaselineText$Type", "java/lang/Object"), ("java/lang/String", "java/lang/Object")]
def nwD : List MethodName := [⟨"BaselineText$Declaration", "copy", "(LBaselineText$Declaration;)V"⟩, ⟨"BaselineText$Declaration", "addLine", "(LBaselineText$Row;ZI)V"⟩, ⟨"BaselineText$Declaration", "isSame", "(LBaselineText$Declaration;)Z"⟩, ⟨"java/lang/Object", "getClass", "()Ljava/lang/Class;"⟩]
def nwS : List (String × Nat × String × Nat) := [("BaselineText$Reader", 83, "#sig", 0), ("BaselineText$Reader", 92, "1", 1), ("BaselineText$Reader", 94, "2", 2), ("BaselineText$Vocabulary", 24, "public", 3), ("BaselineText$Vocabulary", 30, "protected", 4), ("BaselineText$Vocabulary", 32, "static", 5), ("BaselineText$Vocabulary", 28, "final", 6), ("BaselineText$Vocabulary", 26, "abstract", 7), ("BaselineText$Vocabulary", 42, "method", 8), ("BaselineText$Vocabulary", 44, "field", 9), ("BaselineText$Vocabulary", 34, "class", 10), ("BaselineText$Vocabulary", 36, "interface", 11), ("BaselineText$Vocabulary", 38, "enum", 12), ("BaselineText$Vocabulary", 40, "record", 13), ("BaselineText$Grammar", 9, "<init>", 14), ("BaselineText$Baseline", 62, "#sig ", 15), ("BaselineText$Declaration", 45, "  ", 16)]
/-! THE ENVIRONMENT: what the law's start gives and no call changes. E = (the heap at the law's start, the classes' numbers and slots, the array classes, the addresses of the String constants and of their bytes, what else is known of the tables) -/
abbrev hE : Type := Heap × va_G × (Nat → ClassId) × (Nat → Nat) × (Nat → Nat) × (State → Prop)
abbrev eH (E : hE) : Heap := E.1
abbrev eB (E : hE) : Nat := E.1.size
abbrev eD (E : hE) : va_G := E.2.1
abbrev eA (E : hE) : Nat → ClassId := E.2.2.1
abbrev eK (E : hE) : Nat → Nat := E.2.2.2.1
abbrev eV (E : hE) : Nat → Nat := E.2.2.2.2.1
abbrev eP (E : hE) : State → Prop := E.2.2.2.2.2
abbrev eT (E : hE) : List (ClassId × FieldType) := [(eA E 0, .int), (eA E 1, .char), (eA E 2, .object "java/lang/Object")]
/-- what is known of the tables in every state -/
def KX (E : hE) (s : State) : Prop := va_K (eD E) classes (eT E) s ∧ (∀ w ∈ nwN, va_Nw (.methodLinkNest w.1 w.2.1 w.2.2.1 w.2.2.2) s) ∧ (∀ w ∈ nwC, va_Nw (.castable w.1 w.2) s) ∧ (∀ w ∈ nwD, va_Nw (.declares w) s) ∧ va_AO "java/lang/Object" s ∧ (∀ w ∈ nwS, vk_R w.1 w.2.1 w.2.2.1 (eK E w.2.2.2) s) ∧ eP E s
/-- the part of it that is not looked into here goes on holding -/
def EnvOk (E : hE) : Prop := hKeeps (eP E)
/-- the law's start is as it was -/
def Old (E : hE) (H : Heap) : Prop := eB E ≤ H.size ∧ ∀ q : Nat, q < eB E → H[q]? = (eH E)[q]?
theorem Old.ch {E : hE} {S : Nat → Prop} {H H1 : Heap} (h : Old E H) (k : hCh S H H1) (hs : ∀ q, S q → eB E ≤ q) : Old E H1 := ⟨Nat.le_trans h.1 k.1, fun q hq => (k.2 q (Nat.lt_of_lt_of_le hq h.1) (fun z => absurd (hs q z) (by omega))).trans (h.2 q hq)⟩
theorem KX.keeps {E : hE} (hE : EnvOk E) : hKeeps (KX E) := by
  refine ⟨fun s U hW h => ?_, fun U g mk a h => ?_⟩
  · obtain ⟨h1, h2, h3, h4, h5, h6, h7⟩ := h
    exact ⟨va_K.moved hW.alike h1, fun w hw => va_Nw.warmM hW (h2 w hw), fun w hw => va_Nw.warmC hW (h3 w hw), fun w hw => va_Nw.warmD hW (h4 w hw), va_AO.moved hW.alike h5, fun w hw => vk_R.warm hW (h6 w hw), hE.1 s U hW h7⟩
  · obtain ⟨h1, h2, h3, h4, h5, h6, h7⟩ := h
    exact ⟨va_K.moved (u := U) (U := U.calling g mk a) (Vm.Alike.refl U.vm) h1, fun w hw => va_Nw.same rfl rfl (h2 w hw), fun w hw => va_Nw.same rfl rfl (h3 w hw), fun w hw => va_Nw.same rfl rfl (h4 w hw), va_AO.moved (u := U) (U := U.calling g mk a) (Vm.Alike.refl U.vm) h5, fun w hw => vk_R.same rfl (h6 w hw), hE.2 U g mk a h7⟩
/-- where a walk stands: the machine, the code, its class, the tables' words, its answer's type, the environment -/
def Cx (E : hE) (p : Program) (s : State) (m : MethodId) (args : Array Value) (meth : Method) (c : Code) (own : String) (cc : ByteArray) (nL : Nat) (ret : Option FieldType) : Prop :=
  (p.tables.exec = Jvm.exec ∧ c.code = cc ∧ c.maxLocals = nL ∧ s.vm.findClass own = some m.cls ∧ ∀ w ∈ tg, w.before args s = true) ∧ meth.sig.returnType = ret ∧ meth.locks = false ∧ KX E s ∧ EnvOk E
section CXP
variable {E : hE} {p : Program} {s : State} {m : MethodId} {args : Array Value} {meth : Method} {c : Code} {own : String} {cc : ByteArray} {nL : Nat} {ret : Option FieldType}
theorem Cx.x (h : Cx E p s m args meth c own cc nL ret) : p.tables.exec = Jvm.exec := h.1.1
theorem Cx.b (h : Cx E p s m args meth c own cc nL ret) : c.code = cc := h.1.2.1
theorem Cx.ml (h : Cx E p s m args meth c own cc nL ret) : c.maxLocals = nL := h.1.2.2.1
theorem Cx.o (h : Cx E p s m args meth c own cc nL ret) : s.vm.findClass own = some m.cls := h.1.2.2.2.1
theorem Cx.ts (h : Cx E p s m args meth c own cc nL ret) : ∀ w ∈ tg, w.before args s = true := h.1.2.2.2.2
theorem Cx.r (h : Cx E p s m args meth c own cc nL ret) : meth.sig.returnType = ret := h.2.1
theorem Cx.k (h : Cx E p s m args meth c own cc nL ret) : meth.locks = false := h.2.2.1
theorem Cx.K (h : Cx E p s m args meth c own cc nL ret) : va_K (eD E) classes (eT E) s := h.2.2.2.1.1
theorem Cx.X (h : Cx E p s m args meth c own cc nL ret) : KX E s := h.2.2.2.1
theorem Cx.e (h : Cx E p s m args meth c own cc nL ret) : EnvOk E := h.2.2.2.2
end CXP
/-- a contract: heap H0, arguments av, what the end says -/
abbrev Ct (l : Launch) (E : hE) (y : MethodName) (cc : ByteArray) (n : Nat) (ret : Option FieldType) (rm : Room) (av : List Value) (H0 : Heap) (Qc : Array Value → State → Outcome → State → Prop) : Prop :=
  Met l y (.code y cc n ret :: tg) rm (hPc (KX E) av H0) Qc rm.cells rm.slots (fun q => eB E ≤ q)
theorem tg_in {y : MethodName} {b : ByteArray} {n : Nat} {r : Option FieldType} (h : Cond.code y b n r ∈ tg) : GoodIn tg (.code y b n r :: tg) := fun w hw => by
  rcases List.mem_cons.mp hw with e | e
  · rw [e]; exact ⟨h, good_of_word (tg_good h)⟩
  · exact ⟨e, good_of_word (tg_good e)⟩
theorem hx_enter {l : Launch} {E : hE} {y : MethodName} {cc : ByteArray} {n : Nat} {ret : Option FieldType} {rm : Room} {av : List Value} {H0 : Heap} {Qc : Array Value → State → Outcome → State → Prop} (hE : EnvOk E) (hy : plainName y.cls = true) (hn : (lg_sl av).length ≤ n)
    (body : ∀ (p : Program) (e : Env) (s : State) (m : MethodId) (args : Array Value) (below : List Frame) (meth : Method) (c : Code) (ls : Array Slot), Cx E p s m args meth c y.cls cc n ret → meth.name = y.name → lv_has ls n (lv_args 0 av) → W p l e rm s m args below meth c H0 [] 0 0 (MQ below Qc args s rm.cells rm.slots (fun q => eB E ≤ q)) (F0 m 0 ls [])) : Ct l E y cc n ret rm av H0 Qc := by
  refine Met.ofW (cc := cc) (maxL := n) (ret := ret) hy rfl ?_
  intro p e s m args below meth c s₁ B hml hv
  obtain ⟨hav, hH, hK⟩ := hv
  have hts := atoms_spec (ws := .code y cc n ret :: tg) B.pre
  have hl := lv_entry av hn
  rw [hH]
  have hb := body p e s m args below meth c _ ⟨⟨B.exec, B.bytes, hml, findClass_of_methodNamed B.named, fun w hw => hts w (List.mem_cons_of_mem _ hw)⟩, B.returns, B.notSynchronized, hK, hE⟩ (name_of_methodNamed B.named B.method).1 hl
  rw [hav]
  rw [hav] at hb
  rw [lg_entry_eq]
  exact hb
section RN
variable {E : hE} {p : Program} {l : Launch} {e : Env} {R : Room} {s : State} {m : MethodId} {args : Array Value} {below : List Frame} {meth : Method} {c : Code} {H : Heap} {locs : List Loc} {cells slots : Nat}
variable {y : MethodName} {bytes cc : ByteArray} {maxL nL n index : Nat} {ret retY : Option FieldType} {rm : Room} {Qc : Array Value → State → Outcome → State → Prop} {own C : String} {b : Addr} {As rest : List Value} {st0 : List Value} {pc : Nat} {ls : Array Slot} {T : u_T} {N ci : Nat} {fs : List Value}
theorem hOb.recv {D : va_G} {tys : List (ClassId × FieldType)} (hK : va_K D classes tys s) (h : hOb D classes H b ci fs) (hc : classes[ci]? = some (C, T, N)) : ∃ cell : Cell, H[b]? = some cell ∧ cell.vm.isStatics = false ∧ s.vm.findClass C = some cell.cls := va_recv hK (hP1 h) hc (q0 := 0) rfl
/-- invokevirtual -/
theorem rn_V (hcode : Cond.code y bytes maxL retY ∈ tg) (hlink : Cond.methodLink own index y ∈ tg) (hinst : Cond.instanceMethod y ∈ tg) (hsel : Cond.selects C y y ∈ tg) (hini : Cond.initialized y.cls ∈ tg) (hd : y.cls ≠ "java/lang/invoke/MethodHandle" ∧ y.cls ≠ "java/lang/invoke/VarHandle" ∧ (parseMethodDescriptor y.desc).map (fun d => d.parameters.length) = some n) 
    (cx : Cx E p s m args meth c own cc nL ret) (hM : Ct l E y bytes maxL retY rm (.ref b :: As) H Qc) (hrecv : ∃ cell : Cell, H[b]? = some cell ∧ cell.vm.isStatics = false ∧ s.vm.findClass C = some cell.cls) (hn : As.length = n) (hsize : ls.size = nL) (hst : st0 = As.reverse ++ .ref b :: rest) (hW : (rest.map fun v => v.category).sum ≤ 8) (hdg : decode cc pc = .ok (.invokevirtual index, 3)) (hR : rm.frames + 1 ≤ R.frames ∧ 8 + (maxL + 11) + rm.locals ≤ R.locals) (hf : cells + rm.cells ≤ R.cells ∧ slots + rm.slots ≤ R.slots) :
    va_Run p l e R s m args below meth c H locs cells slots rm.cells rm.slots (F0 m pc ls st0) rest (Qc (Value.ref b :: As).toArray) (fun q => eB E ≤ q) :=
  va_runV (Ts := tg) (nL := nL) cx.1 hM ⟨callB_of n cx.ts (tg_in hcode) rfl rfl rfl (cx.ts _ hini) (cx.ts _ hlink) hd hR, cx.ts _ hinst, cx.ts _ hsel⟩ ⟨hPc.blind (KX.keeps cx.e), hrecv, fun U hU hW => ⟨rfl, hU, (KX.keeps cx.e).1 s U hW cx.X⟩⟩ rfl hn hsize hst (by show 2 * 0 + _ ≤ 8; omega) hdg hf
/-- invokestatic -/
theorem rn_S (hcode : Cond.code y bytes maxL retY ∈ tg) (hlink : Cond.methodLink own index y ∈ tg) (hstat : Cond.static y ∈ tg) (hini : Cond.initialized y.cls ∈ tg) (hd : y.cls ≠ "java/lang/invoke/MethodHandle" ∧ y.cls ≠ "java/lang/invoke/VarHandle" ∧ (parseMethodDescriptor y.desc).map (fun d => d.parameters.length) = some n)
    (cx : Cx E p s m args meth c own cc nL ret) (hM : Ct l E y bytes maxL retY rm As H Qc) (hn : As.length = n) (hsize : ls.size = nL) (hst : st0 = As.reverse ++ rest) (hW : (rest.map fun v => v.category).sum ≤ 8) (hdg : decode cc pc = .ok (.invokestatic index, 3)) (hR : rm.frames + 1 ≤ R.frames ∧ 8 + (maxL + 11) + rm.locals ≤ R.locals) (hf : cells + rm.cells ≤ R.cells ∧ slots + rm.slots ≤ R.slots) :
    va_Run p l e R s m args below meth c H locs cells slots rm.cells rm.slots (F0 m pc ls st0) rest (Qc As.toArray) (fun q => eB E ≤ q) :=
  va_runS (Ts := tg) (nL := nL) cx.1 hM ⟨callB_of n cx.ts (tg_in hcode) rfl rfl rfl (cx.ts _ hini) (cx.ts _ hlink) hd hR, cx.ts _ hstat⟩ ⟨hPc.blind (KX.keeps cx.e), fun U hU hW => ⟨rfl, hU, (KX.keeps cx.e).1 s U hW cx.X⟩⟩ rfl hn hsize hst (by show 2 * 0 + _ ≤ 8; omega) hdg hf
/-- invokespecial of a constructor -/
theorem rn_I (hcode : Cond.code y bytes maxL none ∈ tg) (hlink : Cond.methodLink own index y ∈ tg) (hinst : Cond.instanceMethod y ∈ tg) (hini : Cond.initialized y.cls ∈ tg) (hy1 : y.name = "<init>") (hd : y.cls ≠ "java/lang/invoke/MethodHandle" ∧ y.cls ≠ "java/lang/invoke/VarHandle" ∧ (parseMethodDescriptor y.desc).map (fun d => d.parameters.length) = some n)
    (cx : Cx E p s m args meth c own cc nL ret) (hM : Ct l E y bytes maxL none rm (.ref b :: As) H Qc) (hn : As.length = n) (hsize : ls.size = nL) (hst : st0 = As.reverse ++ .ref b :: rest) (hW : (rest.map fun v => v.category).sum ≤ 8) (hdg : decode cc pc = .ok (.invokespecial index, 3)) (hR : rm.frames + 1 ≤ R.frames ∧ 8 + (maxL + 11) + rm.locals ≤ R.locals) (hf : cells + rm.cells ≤ R.cells ∧ slots + rm.slots ≤ R.slots) :
    va_Run p l e R s m args below meth c H locs cells slots rm.cells rm.slots (F0 m pc ls st0) rest (Qc (Value.ref b :: As).toArray) (fun q => eB E ≤ q) :=
  va_runI (Ts := tg) (nL := nL) cx.1 hM ⟨callB_of n cx.ts (tg_in hcode) rfl rfl rfl (cx.ts _ hini) (cx.ts _ hlink) hd hR, hy1, cx.ts _ hinst⟩ ⟨hPc.blind (KX.keeps cx.e), fun U hU hW => ⟨rfl, hU, (KX.keeps cx.e).1 s U hW cx.X⟩⟩ rfl hn hsize hst (by show 2 * 0 + _ ≤ 8; omega) hdg hf
/-- a nest mate's private constructor -/
theorem rn_IN {host : String} (hcode : Cond.code y bytes maxL none ∈ tg) (hlink : (own, index, y, host) ∈ nwN) (hinst : Cond.instanceMethod y ∈ tg) (hini : Cond.initialized y.cls ∈ tg) (hy1 : y.name = "<init>") (hd : y.cls ≠ "java/lang/invoke/MethodHandle" ∧ y.cls ≠ "java/lang/invoke/VarHandle" ∧ (parseMethodDescriptor y.desc).map (fun d => d.parameters.length) = some n)
    (cx : Cx E p s m args meth c own cc nL ret) (hM : Ct l E y bytes maxL none rm (.ref b :: As) H Qc) (hn : As.length = n) (hsize : ls.size = nL) (hst : st0 = As.reverse ++ .ref b :: rest) (hW : (rest.map fun v => v.category).sum ≤ 8) (hdg : decode cc pc = .ok (.invokespecial index, 3)) (hR : rm.frames + 1 ≤ R.frames ∧ 8 + (maxL + 11) + rm.locals ≤ R.locals) (hf : cells + rm.cells ≤ R.cells ∧ slots + rm.slots ≤ R.slots) :
    va_Run p l e R s m args below meth c H locs cells slots rm.cells rm.slots (F0 m pc ls st0) rest (Qc (Value.ref b :: As).toArray) (fun q => eB E ≤ q) :=
  va_runIN (Ts := tg) (nL := nL) cx.1 hM ⟨va_cnB n cx.ts (tg_in hcode) rfl rfl rfl (cx.X.2.1 _ hlink) (cx.ts _ hini) hd hR, hy1, cx.ts _ hinst⟩ ⟨hPc.blind (KX.keeps cx.e), fun U hU hW => ⟨rfl, hU, (KX.keeps cx.e).1 s U hW cx.X⟩⟩ rfl hn hsize hst (by show 2 * 0 + _ ≤ 8; omega) hdg hf
/-- invokevirtual of an inherited method -/
theorem rn_U {x : MethodName} {owner : String} (hcode : Cond.code y bytes maxL retY ∈ tg) (hlink : Cond.methodLink own index x ∈ tg) (hsame : Cond.sameMethod x.cls owner x.name x.desc ∈ tg) (hinst : Cond.instanceMethod y ∈ tg) (hsel : Cond.selects C x y ∈ tg) (hini : Cond.initialized y.cls ∈ tg) (hyx : y = ⟨owner, x.name, x.desc⟩) (hd : owner ≠ "java/lang/invoke/MethodHandle" ∧ owner ≠ "java/lang/invoke/VarHandle" ∧ (parseMethodDescriptor x.desc).map (fun d => d.parameters.length) = some n) 
    (cx : Cx E p s m args meth c own cc nL ret) (hM : Ct l E y bytes maxL retY rm (.ref b :: As) H Qc) (hrecv : ∃ cell : Cell, H[b]? = some cell ∧ cell.vm.isStatics = false ∧ s.vm.findClass C = some cell.cls) (hn : As.length = n) (hsize : ls.size = nL) (hst : st0 = As.reverse ++ .ref b :: rest) (hW : (rest.map fun v => v.category).sum ≤ 8) (hdg : decode cc pc = .ok (.invokevirtual index, 3)) (hR : rm.frames + 1 ≤ R.frames ∧ 8 + (maxL + 11) + rm.locals ≤ R.locals) (hf : cells + rm.cells ≤ R.cells ∧ slots + rm.slots ≤ R.slots) :
    va_Run p l e R s m args below meth c H locs cells slots rm.cells rm.slots (F0 m pc ls st0) rest (Qc (Value.ref b :: As).toArray) (fun q => eB E ≤ q) := by
  refine va_runU (Ts := tg) (nL := nL) (x := x) (y := y) (owner := owner) (C := C) (maxL := maxL) (bytes := bytes) (ret := retY) cx.1 hM (va_cwU n cx.ts (fun w hw => ?_) rfl rfl rfl hyx hd hR) ⟨hPc.blind (KX.keeps cx.e), hrecv, fun U hU hW => ⟨rfl, hU, (KX.keeps cx.e).1 s U hW cx.X⟩⟩ rfl hn hsize hst (by show 2 * 0 + _ ≤ 8; omega) hdg hf
  rcases List.mem_append.mp hw with h | h
  · have h5 : w = .methodLink own index x ∨ w = .sameMethod x.cls owner x.name x.desc ∨ w = .selects C x y ∨ w = .instanceMethod y ∨ w = .initialized y.cls := by simpa using h
    rcases h5 with e | e | e | e | e
    · rw [e]; exact ⟨hlink, good_of_word (tg_good hlink)⟩
    · rw [e]; exact ⟨hsame, good_of_word (tg_good hsame)⟩
    · rw [e]; exact ⟨hsel, good_of_word (tg_good hsel)⟩
    · rw [e]; exact ⟨hinst, good_of_word (tg_good hinst)⟩
    · rw [e]; exact ⟨hini, good_of_word (tg_good hini)⟩
  · exact tg_in hcode w h
end RN
end
section
section SITES
variable {E : hE} {p : Program} {l : Launch} {e : Env} {R : Room} {s : State} {m : MethodId} {args : Array Value} {below : List Frame} {meth : Method} {c : Code} {H : Heap} {locs : List Loc} {cells slots : Nat} {Q : State → Prop}
variable {cc : ByteArray} {nL pc : Nat} {ls : Array Slot} {rest st0 : List Value} {a b : Nat} {ret : Option FieldType} {fs As : List Value} {rm : Room} {Qc : Array Value → State → Outcome → State → Prop}

theorem nw_B_7 (cx : Cx E p s m args meth c "BaselineText" cc nL ret) (hcells : cells + 1 ≤ R.cells) (hslots : slots + 3 ≤ R.slots) (hdg : decode cc pc = .ok (.new 7, 3)) (kk : ∀ H1 : Heap, hOb (eD E) classes H1 H.size 0 [.null, .int 0, .int 0] → H1.size = H.size + 1 → (∀ q : Nat, q < H.size → H1[q]? = H[q]?) → W p l e R s m args below meth c H1 locs (cells + 1) (slots + 3) Q (F0 m (pc + 3) ls (.ref H.size :: rest))) : W p l e R s m args below meth c H locs cells slots Q (F0 m pc ls rest) := hx_new cx.x cx.b cx.ts i_Rw t_Rw t_Rw_ok cx.o (cx.ts _ tw_33) (cx.ts _ tw_34) (cx.ts _ tw_2) cx.K rfl (fun j hj => by match j, hj with | 0, _ => rfl | 1, _ => rfl | 2, _ => rfl | j + 3, hj => exact absurd hj (by omega)) hcells hslots hdg kk
theorem iv_B_11 (cx : Cx E p s m args meth c "BaselineText" cc nL ret) (hM : Ct l E y_Rw_init b_Rw_init 2 none rm (.ref b :: As) H Qc) (hn : As.length = 1) (hsize : ls.size = nL) (hst : st0 = As.reverse ++ .ref b :: rest) (hW : (rest.map fun v => v.category).sum ≤ 8) (hdg : decode cc pc = .ok (.invokespecial 11, 3)) (hR : rm.frames + 1 ≤ R.frames ∧ 8 + (2 + 11) + rm.locals ≤ R.locals) (hf : cells + rm.cells ≤ R.cells ∧ slots + rm.slots ≤ R.slots) : va_Run p l e R s m args below meth c H locs cells slots rm.cells rm.slots (F0 m pc ls st0) rest (Qc (Value.ref b :: As).toArray) (fun q => eB E ≤ q) := rn_I (y := y_Rw_init) tw_37 tw_35 tw_36 tw_2 rfl ⟨by decide, by decide, by rfl⟩ cx hM hn hsize hst hW hdg hR hf
theorem gf_B_14_B (cx : Cx E p s m args meth c "BaselineText" cc nL ret) (he : hOb (eD E) classes H a 9 fs) {v : Value} (hv : fs[0]? = some v) (hdg : decode cc pc = .ok (.getfield 14, 3)) (kk : W p l e R s m args below meth c H locs cells slots Q (F0 m (pc + 3) ls (v :: rest))) : W p l e R s m args below meth c H locs cells slots Q (F0 m pc ls (.ref a :: rest)) := hx_get cx.x cx.b cx.ts i_B cx.o cx.K he rfl 0 (by decide) (cx.ts _ tw_132) (fun _ h => h) hv hdg kk
theorem pf_B_14_B (cx : Cx E p s m args meth c "BaselineText" cc nL ret) (hin2 : meth.name = "<init>") (he : hOb (eD E) classes H a 9 fs) (hlo : hLo (eB E) locs) (hB : eB E ≤ a) {x : Option Nat} (hl : 0 < fs.length) (hdg : decode cc pc = .ok (.putfield 14, 3)) (kk : ∀ (H1 : Heap) (locs1 : List Loc), hOb (eD E) classes H1 a 9 (fs.set 0 (va_rf x)) → H1.size = H.size → (∀ q : Nat, q ≠ a → H1[q]? = H[q]?) → hLo (eB E) locs1 → W p l e R s m args below meth c H1 locs1 cells slots Q (F0 m (pc + 3) ls (rest))) : W p l e R s m args below meth c H locs cells slots Q (F0 m pc ls (va_rf x :: .ref a :: rest)) := hx_putF cx.x cx.b cx.ts i_B t_B t_B_ok n_B cx.o cx.K he hlo hB rfl 0 (by decide) (cx.ts _ tw_132) (fun _ h => h) rfl hin2 rfl (t_B_ok 0 (by decide)) (by cases x <;> rfl) (by cases x <;> rfl) hl hdg kk
theorem gf_B_18_B (cx : Cx E p s m args meth c "BaselineText" cc nL ret) (he : hOb (eD E) classes H a 9 fs) {v : Value} (hv : fs[1]? = some v) (hdg : decode cc pc = .ok (.getfield 18, 3)) (kk : W p l e R s m args below meth c H locs cells slots Q (F0 m (pc + 3) ls (v :: rest))) : W p l e R s m args below meth c H locs cells slots Q (F0 m pc ls (.ref a :: rest)) := hx_get cx.x cx.b cx.ts i_B cx.o cx.K he rfl 1 (by decide) (cx.ts _ tw_133) (fun _ h => h) hv hdg kk
theorem pf_B_18_B (cx : Cx E p s m args meth c "BaselineText" cc nL ret) (hin2 : meth.name = "<init>") (he : hOb (eD E) classes H a 9 fs) (hlo : hLo (eB E) locs) (hB : eB E ≤ a) {x : Option Nat} (hl : 1 < fs.length) (hdg : decode cc pc = .ok (.putfield 18, 3)) (kk : ∀ (H1 : Heap) (locs1 : List Loc), hOb (eD E) classes H1 a 9 (fs.set 1 (va_rf x)) → H1.size = H.size → (∀ q : Nat, q ≠ a → H1[q]? = H[q]?) → hLo (eB E) locs1 → W p l e R s m args below meth c H1 locs1 cells slots Q (F0 m (pc + 3) ls (rest))) : W p l e R s m args below meth c H locs cells slots Q (F0 m pc ls (va_rf x :: .ref a :: rest)) := hx_putF cx.x cx.b cx.ts i_B t_B t_B_ok n_B cx.o cx.K he hlo hB rfl 1 (by decide) (cx.ts _ tw_133) (fun _ h => h) rfl hin2 rfl (t_B_ok 1 (by decide)) (by cases x <;> rfl) (by cases x <;> rfl) hl hdg kk
theorem nw_B_21 (cx : Cx E p s m args meth c "BaselineText" cc nL ret) (hcells : cells + 1 ≤ R.cells) (hslots : slots + 4 ≤ R.slots) (hdg : decode cc pc = .ok (.new 21, 3)) (kk : ∀ H1 : Heap, hOb (eD E) classes H1 H.size 6 [.null, .null, .null, .int 0] → H1.size = H.size + 1 → (∀ q : Nat, q < H.size → H1[q]? = H[q]?) → W p l e R s m args below meth c H1 locs (cells + 1) (slots + 4) Q (F0 m (pc + 3) ls (.ref H.size :: rest))) : W p l e R s m args below meth c H locs cells slots Q (F0 m pc ls rest) := hx_new cx.x cx.b cx.ts i_Dg t_Dg t_Dg_ok cx.o (cx.ts _ tw_50) (cx.ts _ tw_51) (cx.ts _ tw_3) cx.K rfl (fun j hj => by match j, hj with | 0, _ => rfl | 1, _ => rfl | 2, _ => rfl | 3, _ => rfl | j + 4, hj => exact absurd hj (by omega)) hcells hslots hdg kk
theorem iv_B_23 (cx : Cx E p s m args meth c "BaselineText" cc nL ret) (hM : Ct l E y_Dg_init b_Dg_init 1 none rm (.ref b :: As) H Qc) (hn : As.length = 0) (hsize : ls.size = nL) (hst : st0 = As.reverse ++ .ref b :: rest) (hW : (rest.map fun v => v.category).sum ≤ 8) (hdg : decode cc pc = .ok (.invokespecial 23, 3)) (hR : rm.frames + 1 ≤ R.frames ∧ 8 + (1 + 11) + rm.locals ≤ R.locals) (hf : cells + rm.cells ≤ R.cells ∧ slots + rm.slots ≤ R.slots) : va_Run p l e R s m args below meth c H locs cells slots rm.cells rm.slots (F0 m pc ls st0) rest (Qc (Value.ref b :: As).toArray) (fun q => eB E ≤ q) := rn_IN (y := y_Dg_init) tw_54 (List.mem_of_getElem? (i := 0) rfl) tw_53 tw_3 rfl ⟨by decide, by decide, by rfl⟩ cx hM hn hsize hst hW hdg hR hf
theorem gf_B_24_B (cx : Cx E p s m args meth c "BaselineText" cc nL ret) (he : hOb (eD E) classes H a 9 fs) {v : Value} (hv : fs[2]? = some v) (hdg : decode cc pc = .ok (.getfield 24, 3)) (kk : W p l e R s m args below meth c H locs cells slots Q (F0 m (pc + 3) ls (v :: rest))) : W p l e R s m args below meth c H locs cells slots Q (F0 m pc ls (.ref a :: rest)) := hx_get cx.x cx.b cx.ts i_B cx.o cx.K he rfl 2 (by decide) (cx.ts _ tw_134) (fun _ h => h) hv hdg kk
theorem pf_B_24_B (cx : Cx E p s m args meth c "BaselineText" cc nL ret) (hin2 : meth.name = "<init>") (he : hOb (eD E) classes H a 9 fs) (hlo : hLo (eB E) locs) (hB : eB E ≤ a) {x : Option Nat} (hl : 2 < fs.length) (hdg : decode cc pc = .ok (.putfield 24, 3)) (kk : ∀ (H1 : Heap) (locs1 : List Loc), hOb (eD E) classes H1 a 9 (fs.set 2 (va_rf x)) → H1.size = H.size → (∀ q : Nat, q ≠ a → H1[q]? = H[q]?) → hLo (eB E) locs1 → W p l e R s m args below meth c H1 locs1 cells slots Q (F0 m (pc + 3) ls (rest))) : W p l e R s m args below meth c H locs cells slots Q (F0 m pc ls (va_rf x :: .ref a :: rest)) := hx_putF cx.x cx.b cx.ts i_B t_B t_B_ok n_B cx.o cx.K he hlo hB rfl 2 (by decide) (cx.ts _ tw_134) (fun _ h => h) rfl hin2 rfl (t_B_ok 2 (by decide)) (by cases x <;> rfl) (by cases x <;> rfl) hl hdg kk
theorem nw_B_28 (cx : Cx E p s m args meth c "BaselineText" cc nL ret) (hcells : cells + 1 ≤ R.cells) (hslots : slots + 2 ≤ R.slots) (hdg : decode cc pc = .ok (.new 28, 3)) (kk : ∀ H1 : Heap, hOb (eD E) classes H1 H.size 5 [.null, .int 0] → H1.size = H.size + 1 → (∀ q : Nat, q < H.size → H1[q]? = H[q]?) → W p l e R s m args below meth c H1 locs (cells + 1) (slots + 2) Q (F0 m (pc + 3) ls (.ref H.size :: rest))) : W p l e R s m args below meth c H locs cells slots Q (F0 m pc ls rest) := hx_new cx.x cx.b cx.ts i_Bl t_Bl t_Bl_ok cx.o (cx.ts _ tw_73) (cx.ts _ tw_74) (cx.ts _ tw_4) cx.K rfl (fun j hj => by match j, hj with | 0, _ => rfl | 1, _ => rfl | j + 2, hj => exact absurd hj (by omega)) hcells hslots hdg kk
theorem iv_B_30 (cx : Cx E p s m args meth c "BaselineText" cc nL ret) (hM : Ct l E y_Bl_init b_Bl_init 1 none rm (.ref b :: As) H Qc) (hn : As.length = 0) (hsize : ls.size = nL) (hst : st0 = As.reverse ++ .ref b :: rest) (hW : (rest.map fun v => v.category).sum ≤ 8) (hdg : decode cc pc = .ok (.invokespecial 30, 3)) (hR : rm.frames + 1 ≤ R.frames ∧ 8 + (1 + 11) + rm.locals ≤ R.locals) (hf : cells + rm.cells ≤ R.cells ∧ slots + rm.slots ≤ R.slots) : va_Run p l e R s m args below meth c H locs cells slots rm.cells rm.slots (F0 m pc ls st0) rest (Qc (Value.ref b :: As).toArray) (fun q => eB E ≤ q) := rn_IN (y := y_Bl_init) tw_77 (List.mem_of_getElem? (i := 1) rfl) tw_76 tw_4 rfl ⟨by decide, by decide, by rfl⟩ cx hM hn hsize hst hW hdg hR hf
theorem gf_B_31_B (cx : Cx E p s m args meth c "BaselineText" cc nL ret) (he : hOb (eD E) classes H a 9 fs) {v : Value} (hv : fs[3]? = some v) (hdg : decode cc pc = .ok (.getfield 31, 3)) (kk : W p l e R s m args below meth c H locs cells slots Q (F0 m (pc + 3) ls (v :: rest))) : W p l e R s m args below meth c H locs cells slots Q (F0 m pc ls (.ref a :: rest)) := hx_get cx.x cx.b cx.ts i_B cx.o cx.K he rfl 3 (by decide) (cx.ts _ tw_135) (fun _ h => h) hv hdg kk
theorem pf_B_31_B (cx : Cx E p s m args meth c "BaselineText" cc nL ret) (he : hOb (eD E) classes H a 9 fs) (hlo : hLo (eB E) locs) (hB : eB E ≤ a) {x : Option Nat} (hl : 3 < fs.length) (hdg : decode cc pc = .ok (.putfield 31, 3)) (kk : ∀ (H1 : Heap) (locs1 : List Loc), hOb (eD E) classes H1 a 9 (fs.set 3 (va_rf x)) → H1.size = H.size → (∀ q : Nat, q ≠ a → H1[q]? = H[q]?) → hLo (eB E) locs1 → W p l e R s m args below meth c H1 locs1 cells slots Q (F0 m (pc + 3) ls (rest))) : W p l e R s m args below meth c H locs cells slots Q (F0 m pc ls (va_rf x :: .ref a :: rest)) := hx_put cx.x cx.b cx.ts i_B t_B t_B_ok n_B cx.o cx.K he hlo hB rfl 3 (by decide) (cx.ts _ tw_135) (fun _ h => h) rfl (t_B_ok 3 (by decide)) (by cases x <;> rfl) (by cases x <;> rfl) hl hdg kk
theorem gf_B_35_B (cx : Cx E p s m args meth c "BaselineText" cc nL ret) (he : hOb (eD E) classes H a 9 fs) {v : Value} (hv : fs[4]? = some v) (hdg : decode cc pc = .ok (.getfield 35, 3)) (kk : W p l e R s m args below meth c H locs cells slots Q (F0 m (pc + 3) ls (v :: rest))) : W p l e R s m args below meth c H locs cells slots Q (F0 m pc ls (.ref a :: rest)) := hx_get cx.x cx.b cx.ts i_B cx.o cx.K he rfl 4 (by decide) (cx.ts _ tw_136) (fun _ h => h) hv hdg kk
theorem pf_B_35_B (cx : Cx E p s m args meth c "BaselineText" cc nL ret) (he : hOb (eD E) classes H a 9 fs) (hlo : hLo (eB E) locs) (hB : eB E ≤ a) {x : Option Nat} (hl : 4 < fs.length) (hdg : decode cc pc = .ok (.putfield 35, 3)) (kk : ∀ (H1 : Heap) (locs1 : List Loc), hOb (eD E) classes H1 a 9 (fs.set 4 (va_rf x)) → H1.size = H.size → (∀ q : Nat, q ≠ a → H1[q]? = H[q]?) → hLo (eB E) locs1 → W p l e R s m args below meth c H1 locs1 cells slots Q (F0 m (pc + 3) ls (rest))) : W p l e R s m args below meth c H locs cells slots Q (F0 m pc ls (va_rf x :: .ref a :: rest)) := hx_put cx.x cx.b cx.ts i_B t_B t_B_ok n_B cx.o cx.K he hlo hB rfl 4 (by decide) (cx.ts _ tw_136) (fun _ h => h) rfl (t_B_ok 4 (by decide)) (by cases x <;> rfl) (by cases x <;> rfl) hl hdg kk
theorem iv_B_38_Rw (cx : Cx E p s m args meth c "BaselineText" cc nL ret) (hM : Ct l E y_Rw_length b_Rw_length 1 (some .int) rm (.ref b :: As) H Qc) (hrecv : hOb (eD E) classes H b 0 fs) (hn : As.length = 0) (hsize : ls.size = nL) (hst : st0 = As.reverse ++ .ref b :: rest) (hW : (rest.map fun v => v.category).sum ≤ 8) (hdg : decode cc pc = .ok (.invokevirtual 38, 3)) (hR : rm.frames + 1 ≤ R.frames ∧ 8 + (1 + 11) + rm.locals ≤ R.locals) (hf : cells + rm.cells ≤ R.cells ∧ slots + rm.slots ≤ R.slots) : va_Run p l e R s m args below meth c H locs cells slots rm.cells rm.slots (F0 m pc ls st0) rest (Qc (Value.ref b :: As).toArray) (fun q => eB E ≤ q) := rn_V (y := y_Rw_length) tw_155 tw_152 tw_153 tw_154 tw_2 ⟨by decide, by decide, by rfl⟩ cx hM (hrecv.recv cx.K rfl) hn hsize hst hW hdg hR hf
theorem iv_B_42 (cx : Cx E p s m args meth c "BaselineText" cc nL ret) (hM : Ct l E y_B_byteOf b_B_byteOf 3 (some .int) rm As H Qc) (hn : As.length = 2) (hsize : ls.size = nL) (hst : st0 = As.reverse ++ rest) (hW : (rest.map fun v => v.category).sum ≤ 8) (hdg : decode cc pc = .ok (.invokestatic 42, 3)) (hR : rm.frames + 1 ≤ R.frames ∧ 8 + (3 + 11) + rm.locals ≤ R.locals) (hf : cells + rm.cells ≤ R.cells ∧ slots + rm.slots ≤ R.slots) : va_Run p l e R s m args below meth c H locs cells slots rm.cells rm.slots (F0 m pc ls st0) rest (Qc (As).toArray) (fun q => eB E ≤ q) := rn_S (y := y_B_byteOf) tw_158 tw_156 tw_157 tw_1 ⟨by decide, by decide, by rfl⟩ cx hM hn hsize hst hW hdg hR hf
theorem iv_B_46 (cx : Cx E p s m args meth c "BaselineText" cc nL ret) (hM : Ct l E y_B_isTextCode b_B_isTextCode 1 (some .boolean) rm As H Qc) (hn : As.length = 1) (hsize : ls.size = nL) (hst : st0 = As.reverse ++ rest) (hW : (rest.map fun v => v.category).sum ≤ 8) (hdg : decode cc pc = .ok (.invokestatic 46, 3)) (hR : rm.frames + 1 ≤ R.frames ∧ 8 + (1 + 11) + rm.locals ≤ R.locals) (hf : cells + rm.cells ≤ R.cells ∧ slots + rm.slots ≤ R.slots) : va_Run p l e R s m args below meth c H locs cells slots rm.cells rm.slots (F0 m pc ls st0) rest (Qc (As).toArray) (fun q => eB E ≤ q) := rn_S (y := y_B_isTextCode) tw_161 tw_159 tw_160 tw_1 ⟨by decide, by decide, by rfl⟩ cx hM hn hsize hst hW hdg hR hf
theorem iv_B_50_Rw (cx : Cx E p s m args meth c "BaselineText" cc nL ret) (hM : Ct l E y_Rw_add b_Rw_add 2 none rm (.ref b :: As) H Qc) (hrecv : hOb (eD E) classes H b 0 fs) (hn : As.length = 1) (hsize : ls.size = nL) (hst : st0 = As.reverse ++ .ref b :: rest) (hW : (rest.map fun v => v.category).sum ≤ 8) (hdg : decode cc pc = .ok (.invokevirtual 50, 3)) (hR : rm.frames + 1 ≤ R.frames ∧ 8 + (2 + 11) + rm.locals ≤ R.locals) (hf : cells + rm.cells ≤ R.cells ∧ slots + rm.slots ≤ R.slots) : va_Run p l e R s m args below meth c H locs cells slots rm.cells rm.slots (F0 m pc ls st0) rest (Qc (Value.ref b :: As).toArray) (fun q => eB E ≤ q) := rn_V (y := y_Rw_add) tw_165 tw_162 tw_163 tw_164 tw_2 ⟨by decide, by decide, by rfl⟩ cx hM (hrecv.recv cx.K rfl) hn hsize hst hW hdg hR hf
theorem iv_B_53_Rw (cx : Cx E p s m args meth c "BaselineText" cc nL ret) (hM : Ct l E y_Rw_empty b_Rw_empty 1 none rm (.ref b :: As) H Qc) (hrecv : hOb (eD E) classes H b 0 fs) (hn : As.length = 0) (hsize : ls.size = nL) (hst : st0 = As.reverse ++ .ref b :: rest) (hW : (rest.map fun v => v.category).sum ≤ 8) (hdg : decode cc pc = .ok (.invokevirtual 53, 3)) (hR : rm.frames + 1 ≤ R.frames ∧ 8 + (1 + 11) + rm.locals ≤ R.locals) (hf : cells + rm.cells ≤ R.cells ∧ slots + rm.slots ≤ R.slots) : va_Run p l e R s m args below meth c H locs cells slots rm.cells rm.slots (F0 m pc ls st0) rest (Qc (Value.ref b :: As).toArray) (fun q => eB E ≤ q) := rn_V (y := y_Rw_empty) tw_173 tw_170 tw_171 tw_172 tw_2 ⟨by decide, by decide, by rfl⟩ cx hM (hrecv.recv cx.K rfl) hn hsize hst hW hdg hR hf
theorem iv_B_56_B (cx : Cx E p s m args meth c "BaselineText" cc nL ret) (hM : Ct l E y_B_chosen b_B_chosen 2 (some (.object "BaselineText$Baseline")) rm (.ref b :: As) H Qc) (hrecv : hOb (eD E) classes H b 9 fs) (hn : As.length = 1) (hsize : ls.size = nL) (hst : st0 = As.reverse ++ .ref b :: rest) (hW : (rest.map fun v => v.category).sum ≤ 8) (hdg : decode cc pc = .ok (.invokevirtual 56, 3)) (hR : rm.frames + 1 ≤ R.frames ∧ 8 + (2 + 11) + rm.locals ≤ R.locals) (hf : cells + rm.cells ≤ R.cells ∧ slots + rm.slots ≤ R.slots) : va_Run p l e R s m args below meth c H locs cells slots rm.cells rm.slots (F0 m pc ls st0) rest (Qc (Value.ref b :: As).toArray) (fun q => eB E ≤ q) := rn_V (y := y_B_chosen) tw_181 tw_178 tw_180 ps_B_chosen tw_1 ⟨by decide, by decide, by rfl⟩ cx hM (hrecv.recv cx.K rfl) hn hsize hst hW hdg hR hf
theorem iv_B_60_Bl (cx : Cx E p s m args meth c "BaselineText" cc nL ret) (hM : Ct l E y_Bl_empty b_Bl_empty 1 none rm (.ref b :: As) H Qc) (hrecv : hOb (eD E) classes H b 5 fs) (hn : As.length = 0) (hsize : ls.size = nL) (hst : st0 = As.reverse ++ .ref b :: rest) (hW : (rest.map fun v => v.category).sum ≤ 8) (hdg : decode cc pc = .ok (.invokevirtual 60, 3)) (hR : rm.frames + 1 ≤ R.frames ∧ 8 + (1 + 11) + rm.locals ≤ R.locals) (hf : cells + rm.cells ≤ R.cells ∧ slots + rm.slots ≤ R.slots) : va_Run p l e R s m args below meth c H locs cells slots rm.cells rm.slots (F0 m pc ls st0) rest (Qc (Value.ref b :: As).toArray) (fun q => eB E ≤ q) := rn_V (y := y_Bl_empty) tw_185 tw_182 tw_183 tw_184 tw_4 ⟨by decide, by decide, by rfl⟩ cx hM (hrecv.recv cx.K rfl) hn hsize hst hW hdg hR hf
theorem iv_B_61_Dg (cx : Cx E p s m args meth c "BaselineText" cc nL ret) (hM : Ct l E y_Dg_empty b_Dg_empty 1 none rm (.ref b :: As) H Qc) (hrecv : hOb (eD E) classes H b 6 fs) (hn : As.length = 0) (hsize : ls.size = nL) (hst : st0 = As.reverse ++ .ref b :: rest) (hW : (rest.map fun v => v.category).sum ≤ 8) (hdg : decode cc pc = .ok (.invokevirtual 61, 3)) (hR : rm.frames + 1 ≤ R.frames ∧ 8 + (1 + 11) + rm.locals ≤ R.locals) (hf : cells + rm.cells ≤ R.cells ∧ slots + rm.slots ≤ R.slots) : va_Run p l e R s m args below meth c H locs cells slots rm.cells rm.slots (F0 m pc ls st0) rest (Qc (Value.ref b :: As).toArray) (fun q => eB E ≤ q) := rn_V (y := y_Dg_empty) tw_193 tw_190 tw_191 tw_192 tw_3 ⟨by decide, by decide, by rfl⟩ cx hM (hrecv.recv cx.K rfl) hn hsize hst hW hdg hR hf
theorem nw_B_62 (cx : Cx E p s m args meth c "BaselineText" cc nL ret) (hcells : cells + 1 ≤ R.cells) (hslots : slots + 8 ≤ R.slots) (hdg : decode cc pc = .ok (.new 62, 3)) (kk : ∀ H1 : Heap, hOb (eD E) classes H1 H.size 8 [.null, .null, .null, .null, .int 0, .int 0, .int 0, .null] → H1.size = H.size + 1 → (∀ q : Nat, q < H.size → H1[q]? = H[q]?) → W p l e R s m args below meth c H1 locs (cells + 1) (slots + 8) Q (F0 m (pc + 3) ls (.ref H.size :: rest))) : W p l e R s m args below meth c H locs cells slots Q (F0 m pc ls rest) := hx_new cx.x cx.b cx.ts i_Rd t_Rd t_Rd_ok cx.o (cx.ts _ tw_194) (cx.ts _ tw_195) (cx.ts _ tw_10) cx.K rfl (fun j hj => by match j, hj with | 0, _ => rfl | 1, _ => rfl | 2, _ => rfl | 3, _ => rfl | 4, _ => rfl | 5, _ => rfl | 6, _ => rfl | 7, _ => rfl | j + 8, hj => exact absurd hj (by omega)) hcells hslots hdg kk
theorem iv_B_64 (cx : Cx E p s m args meth c "BaselineText" cc nL ret) (hM : Ct l E y_Rd_init b_Rd_init 4 none rm (.ref b :: As) H Qc) (hn : As.length = 3) (hsize : ls.size = nL) (hst : st0 = As.reverse ++ .ref b :: rest) (hW : (rest.map fun v => v.category).sum ≤ 8) (hdg : decode cc pc = .ok (.invokespecial 64, 3)) (hR : rm.frames + 1 ≤ R.frames ∧ 8 + (4 + 11) + rm.locals ≤ R.locals) (hf : cells + rm.cells ≤ R.cells ∧ slots + rm.slots ≤ R.slots) : va_Run p l e R s m args below meth c H locs cells slots rm.cells rm.slots (F0 m pc ls st0) rest (Qc (Value.ref b :: As).toArray) (fun q => eB E ≤ q) := rn_I (y := y_Rd_init) tw_198 tw_196 tw_197 tw_10 rfl ⟨by decide, by decide, by rfl⟩ cx hM hn hsize hst hW hdg hR hf
theorem iv_B_67_Rw (cx : Cx E p s m args meth c "BaselineText" cc nL ret) (hM : Ct l E y_Rw_at b_Rw_at 2 (some .int) rm (.ref b :: As) H Qc) (hrecv : hOb (eD E) classes H b 0 fs) (hn : As.length = 1) (hsize : ls.size = nL) (hst : st0 = As.reverse ++ .ref b :: rest) (hW : (rest.map fun v => v.category).sum ≤ 8) (hdg : decode cc pc = .ok (.invokevirtual 67, 3)) (hR : rm.frames + 1 ≤ R.frames ∧ 8 + (2 + 11) + rm.locals ≤ R.locals) (hf : cells + rm.cells ≤ R.cells ∧ slots + rm.slots ≤ R.slots) : va_Run p l e R s m args below meth c H locs cells slots rm.cells rm.slots (F0 m pc ls st0) rest (Qc (Value.ref b :: As).toArray) (fun q => eB E ≤ q) := rn_V (y := y_Rw_at) tw_286 tw_283 tw_284 tw_285 tw_2 ⟨by decide, by decide, by rfl⟩ cx hM (hrecv.recv cx.K rfl) hn hsize hst hW hdg hR hf
theorem iv_B_71_Rd (cx : Cx E p s m args meth c "BaselineText" cc nL ret) (hM : Ct l E y_Rd_readLine b_Rd_readLine 5 none rm (.ref b :: As) H Qc) (hrecv : hOb (eD E) classes H b 8 fs) (hn : As.length = 2) (hsize : ls.size = nL) (hst : st0 = As.reverse ++ .ref b :: rest) (hW : (rest.map fun v => v.category).sum ≤ 8) (hdg : decode cc pc = .ok (.invokevirtual 71, 3)) (hR : rm.frames + 1 ≤ R.frames ∧ 8 + (5 + 11) + rm.locals ≤ R.locals) (hf : cells + rm.cells ≤ R.cells ∧ slots + rm.slots ≤ R.slots) : va_Run p l e R s m args below meth c H locs cells slots rm.cells rm.slots (F0 m pc ls st0) rest (Qc (Value.ref b :: As).toArray) (fun q => eB E ≤ q) := rn_V (y := y_Rd_readLine) tw_290 tw_287 tw_288 tw_289 tw_10 ⟨by decide, by decide, by rfl⟩ cx hM (hrecv.recv cx.K rfl) hn hsize hst hW hdg hR hf
theorem iv_B_75_Dg (cx : Cx E p s m args meth c "BaselineText" cc nL ret) (hM : Ct l E y_Dg_count b_Dg_count 1 (some .int) rm (.ref b :: As) H Qc) (hrecv : hOb (eD E) classes H b 6 fs) (hn : As.length = 0) (hsize : ls.size = nL) (hst : st0 = As.reverse ++ .ref b :: rest) (hW : (rest.map fun v => v.category).sum ≤ 8) (hdg : decode cc pc = .ok (.invokevirtual 75, 3)) (hR : rm.frames + 1 ≤ R.frames ∧ 8 + (1 + 11) + rm.locals ≤ R.locals) (hf : cells + rm.cells ≤ R.cells ∧ slots + rm.slots ≤ R.slots) : va_Run p l e R s m args below meth c H locs cells slots rm.cells rm.slots (F0 m pc ls st0) rest (Qc (Value.ref b :: As).toArray) (fun q => eB E ≤ q) := rn_V (y := y_Dg_count) tw_663 tw_660 tw_661 tw_662 tw_3 ⟨by decide, by decide, by rfl⟩ cx hM (hrecv.recv cx.K rfl) hn hsize hst hW hdg hR hf
theorem iv_B_78_Bl (cx : Cx E p s m args meth c "BaselineText" cc nL ret) (hM : Ct l E y_Bl_addForm b_Bl_addForm 4 none rm (.ref b :: As) H Qc) (hrecv : hOb (eD E) classes H b 5 fs) (hn : As.length = 1) (hsize : ls.size = nL) (hst : st0 = As.reverse ++ .ref b :: rest) (hW : (rest.map fun v => v.category).sum ≤ 8) (hdg : decode cc pc = .ok (.invokevirtual 78, 3)) (hR : rm.frames + 1 ≤ R.frames ∧ 8 + (4 + 11) + rm.locals ≤ R.locals) (hf : cells + rm.cells ≤ R.cells ∧ slots + rm.slots ≤ R.slots) : va_Run p l e R s m args below meth c H locs cells slots rm.cells rm.slots (F0 m pc ls st0) rest (Qc (Value.ref b :: As).toArray) (fun q => eB E ≤ q) := rn_V (y := y_Bl_addForm) tw_671 tw_668 tw_669 tw_670 tw_4 ⟨by decide, by decide, by rfl⟩ cx hM (hrecv.recv cx.K rfl) hn hsize hst hW hdg hR hf
theorem iv_B_82_Rw (cx : Cx E p s m args meth c "BaselineText" cc nL ret) (hM : Ct l E y_Rw_fits b_Rw_fits 1 (some .boolean) rm (.ref b :: As) H Qc) (hrecv : hOb (eD E) classes H b 0 fs) (hn : As.length = 0) (hsize : ls.size = nL) (hst : st0 = As.reverse ++ .ref b :: rest) (hW : (rest.map fun v => v.category).sum ≤ 8) (hdg : decode cc pc = .ok (.invokevirtual 82, 3)) (hR : rm.frames + 1 ≤ R.frames ∧ 8 + (1 + 11) + rm.locals ≤ R.locals) (hf : cells + rm.cells ≤ R.cells ∧ slots + rm.slots ≤ R.slots) : va_Run p l e R s m args below meth c H locs cells slots rm.cells rm.slots (F0 m pc ls st0) rest (Qc (Value.ref b :: As).toArray) (fun q => eB E ≤ q) := rn_V (y := y_Rw_fits) tw_456 tw_699 tw_454 tw_455 tw_2 ⟨by decide, by decide, by rfl⟩ cx hM (hrecv.recv cx.K rfl) hn hsize hst hW hdg hR hf
theorem iv_B_86_Rw (cx : Cx E p s m args meth c "BaselineText" cc nL ret) (hM : Ct l E y_Rw_copy b_Rw_copy 3 none rm (.ref b :: As) H Qc) (hrecv : hOb (eD E) classes H b 0 fs) (hn : As.length = 1) (hsize : ls.size = nL) (hst : st0 = As.reverse ++ .ref b :: rest) (hW : (rest.map fun v => v.category).sum ≤ 8) (hdg : decode cc pc = .ok (.invokevirtual 86, 3)) (hR : rm.frames + 1 ≤ R.frames ∧ 8 + (3 + 11) + rm.locals ≤ R.locals) (hf : cells + rm.cells ≤ R.cells ∧ slots + rm.slots ≤ R.slots) : va_Run p l e R s m args below meth c H locs cells slots rm.cells rm.slots (F0 m pc ls st0) rest (Qc (Value.ref b :: As).toArray) (fun q => eB E ≤ q) := rn_V (y := y_Rw_copy) tw_554 tw_700 tw_552 tw_553 tw_2 ⟨by decide, by decide, by rfl⟩ cx hM (hrecv.recv cx.K rfl) hn hsize hst hW hdg hR hf
theorem gf_B_89_Bl (cx : Cx E p s m args meth c "BaselineText" cc nL ret) (he : hOb (eD E) classes H a 5 fs) {v : Value} (hv : fs[1]? = some v) (hdg : decode cc pc = .ok (.getfield 89, 3)) (kk : W p l e R s m args below meth c H locs cells slots Q (F0 m (pc + 3) ls (v :: rest))) : W p l e R s m args below meth c H locs cells slots Q (F0 m pc ls (.ref a :: rest)) := hx_get cx.x cx.b cx.ts i_Bl cx.o cx.K he rfl 1 (by decide) (cx.ts _ tw_126) (fun _ h => h) hv hdg kk
theorem pf_B_89_Bl (cx : Cx E p s m args meth c "BaselineText" cc nL ret) (he : hOb (eD E) classes H a 5 fs) (hlo : hLo (eB E) locs) (hB : eB E ≤ a) {x : Int32} (hl : 1 < fs.length) (hdg : decode cc pc = .ok (.putfield 89, 3)) (kk : ∀ (H1 : Heap) (locs1 : List Loc), hOb (eD E) classes H1 a 5 (fs.set 1 (.int x)) → H1.size = H.size → (∀ q : Nat, q ≠ a → H1[q]? = H[q]?) → hLo (eB E) locs1 → W p l e R s m args below meth c H1 locs1 cells slots Q (F0 m (pc + 3) ls (rest))) : W p l e R s m args below meth c H locs cells slots Q (F0 m pc ls (.int x :: .ref a :: rest)) := hx_put cx.x cx.b cx.ts i_Bl t_Bl t_Bl_ok n_Bl cx.o cx.K he hlo hB rfl 1 (by decide) (cx.ts _ tw_126) (fun _ h => h) rfl (t_Bl_ok 1 (by decide)) rfl rfl hl hdg kk
theorem iv_B_93_Dg (cx : Cx E p s m args meth c "BaselineText" cc nL ret) (hM : Ct l E y_Dg_kept b_Dg_kept 1 (some .int) rm (.ref b :: As) H Qc) (hrecv : hOb (eD E) classes H b 6 fs) (hn : As.length = 0) (hsize : ls.size = nL) (hst : st0 = As.reverse ++ .ref b :: rest) (hW : (rest.map fun v => v.category).sum ≤ 8) (hdg : decode cc pc = .ok (.invokevirtual 93, 3)) (hR : rm.frames + 1 ≤ R.frames ∧ 8 + (1 + 11) + rm.locals ≤ R.locals) (hf : cells + rm.cells ≤ R.cells ∧ slots + rm.slots ≤ R.slots) : va_Run p l e R s m args below meth c H locs cells slots rm.cells rm.slots (F0 m pc ls st0) rest (Qc (Value.ref b :: As).toArray) (fun q => eB E ≤ q) := rn_V (y := y_Dg_kept) tw_716 tw_713 tw_714 tw_715 tw_3 ⟨by decide, by decide, by rfl⟩ cx hM (hrecv.recv cx.K rfl) hn hsize hst hW hdg hR hf
theorem gf_B_96_Dg (cx : Cx E p s m args meth c "BaselineText" cc nL ret) (he : hOb (eD E) classes H a 6 fs) {v : Value} (hv : fs[0]? = some v) (hdg : decode cc pc = .ok (.getfield 96, 3)) (kk : W p l e R s m args below meth c H locs cells slots Q (F0 m (pc + 3) ls (v :: rest))) : W p l e R s m args below meth c H locs cells slots Q (F0 m pc ls (.ref a :: rest)) := hx_get cx.x cx.b cx.ts i_Dg cx.o cx.K he rfl 0 (by decide) (cx.ts _ tw_57) (fun _ h => h) hv hdg kk
theorem gf_B_100_Dg (cx : Cx E p s m args meth c "BaselineText" cc nL ret) (he : hOb (eD E) classes H a 6 fs) {v : Value} (hv : fs[1]? = some v) (hdg : decode cc pc = .ok (.getfield 100, 3)) (kk : W p l e R s m args below meth c H locs cells slots Q (F0 m (pc + 3) ls (v :: rest))) : W p l e R s m args below meth c H locs cells slots Q (F0 m pc ls (.ref a :: rest)) := hx_get cx.x cx.b cx.ts i_Dg cx.o cx.K he rfl 1 (by decide) (cx.ts _ tw_59) (fun _ h => h) hv hdg kk
theorem gf_B_103_Dg (cx : Cx E p s m args meth c "BaselineText" cc nL ret) (he : hOb (eD E) classes H a 6 fs) {v : Value} (hv : fs[2]? = some v) (hdg : decode cc pc = .ok (.getfield 103, 3)) (kk : W p l e R s m args below meth c H locs cells slots Q (F0 m (pc + 3) ls (v :: rest))) : W p l e R s m args below meth c H locs cells slots Q (F0 m pc ls (.ref a :: rest)) := hx_get cx.x cx.b cx.ts i_Dg cx.o cx.K he rfl 2 (by decide) (cx.ts _ tw_61) (fun _ h => h) hv hdg kk
theorem gf_B_106_Bl (cx : Cx E p s m args meth c "BaselineText" cc nL ret) (he : hOb (eD E) classes H a 5 fs) {v : Value} (hv : fs[0]? = some v) (hdg : decode cc pc = .ok (.getfield 106, 3)) (kk : W p l e R s m args below meth c H locs cells slots Q (F0 m (pc + 3) ls (v :: rest))) : W p l e R s m args below meth c H locs cells slots Q (F0 m pc ls (.ref a :: rest)) := hx_get cx.x cx.b cx.ts i_Bl cx.o cx.K he rfl 0 (by decide) (cx.ts _ tw_122) (fun _ h => h) hv hdg kk
theorem iv_B_110_Sf (cx : Cx E p s m args meth c "BaselineText" cc nL ret) (hM : Ct l E y_Sf_count b_Sf_count 1 (some .int) rm (.ref b :: As) H Qc) (hrecv : hOb (eD E) classes H b 3 fs) (hn : As.length = 0) (hsize : ls.size = nL) (hst : st0 = As.reverse ++ .ref b :: rest) (hW : (rest.map fun v => v.category).sum ≤ 8) (hdg : decode cc pc = .ok (.invokevirtual 110, 3)) (hR : rm.frames + 1 ≤ R.frames ∧ 8 + (1 + 11) + rm.locals ≤ R.locals) (hf : cells + rm.cells ≤ R.cells ∧ slots + rm.slots ≤ R.slots) : va_Run p l e R s m args below meth c H locs cells slots rm.cells rm.slots (F0 m pc ls st0) rest (Qc (Value.ref b :: As).toArray) (fun q => eB E ≤ q) := rn_V (y := y_Sf_count) tw_628 tw_722 tw_626 tw_627 tw_5 ⟨by decide, by decide, by rfl⟩ cx hM (hrecv.recv cx.K rfl) hn hsize hst hW hdg hR hf
theorem iv_B_113_B (cx : Cx E p s m args meth c "BaselineText" cc nL ret) (hM : Ct l E y_B_typeAt b_B_typeAt 4 (some (.object "BaselineText$Type")) rm (.ref b :: As) H Qc) (hrecv : hOb (eD E) classes H b 9 fs) (hn : As.length = 2) (hsize : ls.size = nL) (hst : st0 = As.reverse ++ .ref b :: rest) (hW : (rest.map fun v => v.category).sum ≤ 8) (hdg : decode cc pc = .ok (.invokevirtual 113, 3)) (hR : rm.frames + 1 ≤ R.frames ∧ 8 + (4 + 11) + rm.locals ≤ R.locals) (hf : cells + rm.cells ≤ R.cells ∧ slots + rm.slots ≤ R.slots) : va_Run p l e R s m args below meth c H locs cells slots rm.cells rm.slots (F0 m pc ls st0) rest (Qc (Value.ref b :: As).toArray) (fun q => eB E ≤ q) := rn_V (y := y_B_typeAt) tw_730 tw_727 tw_729 ps_B_typeAt tw_1 ⟨by decide, by decide, by rfl⟩ cx hM (hrecv.recv cx.K rfl) hn hsize hst hW hdg hR hf
theorem gf_B_117_Tp (cx : Cx E p s m args meth c "BaselineText" cc nL ret) (he : hOb (eD E) classes H a 2 fs) {v : Value} (hv : fs[2]? = some v) (hdg : decode cc pc = .ok (.getfield 117, 3)) (kk : W p l e R s m args below meth c H locs cells slots Q (F0 m (pc + 3) ls (v :: rest))) : W p l e R s m args below meth c H locs cells slots Q (F0 m pc ls (.ref a :: rest)) := hx_get cx.x cx.b cx.ts i_Tp cx.o cx.K he rfl 2 (by decide) (cx.ts _ tw_219) (fun x9 h9 => u_same (cx.ts _ tw_220) x9 h9) hv hdg kk
theorem gf_B_122_Tp (cx : Cx E p s m args meth c "BaselineText" cc nL ret) (he : hOb (eD E) classes H a 2 fs) {v : Value} (hv : fs[3]? = some v) (hdg : decode cc pc = .ok (.getfield 122, 3)) (kk : W p l e R s m args below meth c H locs cells slots Q (F0 m (pc + 3) ls (v :: rest))) : W p l e R s m args below meth c H locs cells slots Q (F0 m pc ls (.ref a :: rest)) := hx_get cx.x cx.b cx.ts i_Tp cx.o cx.K he rfl 3 (by decide) (cx.ts _ tw_224) (fun x9 h9 => u_same (cx.ts _ tw_225) x9 h9) hv hdg kk
theorem gf_B_125_Tp (cx : Cx E p s m args meth c "BaselineText" cc nL ret) (he : hOb (eD E) classes H a 2 fs) {v : Value} (hv : fs[4]? = some v) (hdg : decode cc pc = .ok (.getfield 125, 3)) (kk : W p l e R s m args below meth c H locs cells slots Q (F0 m (pc + 3) ls (v :: rest))) : W p l e R s m args below meth c H locs cells slots Q (F0 m pc ls (.ref a :: rest)) := hx_get cx.x cx.b cx.ts i_Tp cx.o cx.K he rfl 4 (by decide) (cx.ts _ tw_646) (fun _ h => h) hv hdg kk
theorem gf_B_128_Tp (cx : Cx E p s m args meth c "BaselineText" cc nL ret) (he : hOb (eD E) classes H a 2 fs) {v : Value} (hv : fs[0]? = some v) (hdg : decode cc pc = .ok (.getfield 128, 3)) (kk : W p l e R s m args below meth c H locs cells slots Q (F0 m (pc + 3) ls (v :: rest))) : W p l e R s m args below meth c H locs cells slots Q (F0 m pc ls (.ref a :: rest)) := hx_get cx.x cx.b cx.ts i_Tp cx.o cx.K he rfl 0 (by decide) (cx.ts _ tw_212) (fun x9 h9 => u_same (cx.ts _ tw_210) x9 h9) hv hdg kk
theorem iv_B_131_B (cx : Cx E p s m args meth c "BaselineText" cc nL ret) (hM : Ct l E y_B_memberAt b_B_memberAt 5 (some (.object "BaselineText$Declaration")) rm (.ref b :: As) H Qc) (hrecv : hOb (eD E) classes H b 9 fs) (hn : As.length = 3) (hsize : ls.size = nL) (hst : st0 = As.reverse ++ .ref b :: rest) (hW : (rest.map fun v => v.category).sum ≤ 8) (hdg : decode cc pc = .ok (.invokevirtual 131, 3)) (hR : rm.frames + 1 ≤ R.frames ∧ 8 + (5 + 11) + rm.locals ≤ R.locals) (hf : cells + rm.cells ≤ R.cells ∧ slots + rm.slots ≤ R.slots) : va_Run p l e R s m args below meth c H locs cells slots rm.cells rm.slots (F0 m pc ls st0) rest (Qc (Value.ref b :: As).toArray) (fun q => eB E ≤ q) := rn_V (y := y_B_memberAt) tw_740 tw_737 tw_739 ps_B_memberAt tw_1 ⟨by decide, by decide, by rfl⟩ cx hM (hrecv.recv cx.K rfl) hn hsize hst hW hdg hR hf
theorem gf_B_135_Dc (cx : Cx E p s m args meth c "BaselineText" cc nL ret) (he : hOb (eD E) classes H a 1 fs) {v : Value} (hv : fs[2]? = some v) (hdg : decode cc pc = .ok (.getfield 135, 3)) (kk : W p l e R s m args below meth c H locs cells slots Q (F0 m (pc + 3) ls (v :: rest))) : W p l e R s m args below meth c H locs cells slots Q (F0 m pc ls (.ref a :: rest)) := hx_get cx.x cx.b cx.ts i_Dc cx.o cx.K he rfl 2 (by decide) (cx.ts _ tw_221) (fun _ h => h) hv hdg kk
theorem gf_B_135_Tp (cx : Cx E p s m args meth c "BaselineText" cc nL ret) (he : hOb (eD E) classes H a 2 fs) {v : Value} (hv : fs[2]? = some v) (hdg : decode cc pc = .ok (.getfield 135, 3)) (kk : W p l e R s m args below meth c H locs cells slots Q (F0 m (pc + 3) ls (v :: rest))) : W p l e R s m args below meth c H locs cells slots Q (F0 m pc ls (.ref a :: rest)) := hx_get cx.x cx.b cx.ts i_Tp cx.o cx.K he rfl 2 (by decide) (cx.ts _ tw_221) (fun _ h => h) hv hdg kk
theorem gf_B_138_Dc (cx : Cx E p s m args meth c "BaselineText" cc nL ret) (he : hOb (eD E) classes H a 1 fs) {v : Value} (hv : fs[3]? = some v) (hdg : decode cc pc = .ok (.getfield 138, 3)) (kk : W p l e R s m args below meth c H locs cells slots Q (F0 m (pc + 3) ls (v :: rest))) : W p l e R s m args below meth c H locs cells slots Q (F0 m pc ls (.ref a :: rest)) := hx_get cx.x cx.b cx.ts i_Dc cx.o cx.K he rfl 3 (by decide) (cx.ts _ tw_226) (fun _ h => h) hv hdg kk
theorem gf_B_138_Tp (cx : Cx E p s m args meth c "BaselineText" cc nL ret) (he : hOb (eD E) classes H a 2 fs) {v : Value} (hv : fs[3]? = some v) (hdg : decode cc pc = .ok (.getfield 138, 3)) (kk : W p l e R s m args below meth c H locs cells slots Q (F0 m (pc + 3) ls (v :: rest))) : W p l e R s m args below meth c H locs cells slots Q (F0 m pc ls (.ref a :: rest)) := hx_get cx.x cx.b cx.ts i_Tp cx.o cx.K he rfl 3 (by decide) (cx.ts _ tw_226) (fun _ h => h) hv hdg kk
theorem gf_B_139_Dc (cx : Cx E p s m args meth c "BaselineText" cc nL ret) (he : hOb (eD E) classes H a 1 fs) {v : Value} (hv : fs[0]? = some v) (hdg : decode cc pc = .ok (.getfield 139, 3)) (kk : W p l e R s m args below meth c H locs cells slots Q (F0 m (pc + 3) ls (v :: rest))) : W p l e R s m args below meth c H locs cells slots Q (F0 m pc ls (.ref a :: rest)) := hx_get cx.x cx.b cx.ts i_Dc cx.o cx.K he rfl 0 (by decide) (cx.ts _ tw_213) (fun _ h => h) hv hdg kk
theorem gf_B_139_Tp (cx : Cx E p s m args meth c "BaselineText" cc nL ret) (he : hOb (eD E) classes H a 2 fs) {v : Value} (hv : fs[0]? = some v) (hdg : decode cc pc = .ok (.getfield 139, 3)) (kk : W p l e R s m args below meth c H locs cells slots Q (F0 m (pc + 3) ls (v :: rest))) : W p l e R s m args below meth c H locs cells slots Q (F0 m pc ls (.ref a :: rest)) := hx_get cx.x cx.b cx.ts i_Tp cx.o cx.K he rfl 0 (by decide) (cx.ts _ tw_213) (fun _ h => h) hv hdg kk
theorem gf_B_140_Dc (cx : Cx E p s m args meth c "BaselineText" cc nL ret) (he : hOb (eD E) classes H a 1 fs) {v : Value} (hv : fs[1]? = some v) (hdg : decode cc pc = .ok (.getfield 140, 3)) (kk : W p l e R s m args below meth c H locs cells slots Q (F0 m (pc + 3) ls (v :: rest))) : W p l e R s m args below meth c H locs cells slots Q (F0 m pc ls (.ref a :: rest)) := hx_get cx.x cx.b cx.ts i_Dc cx.o cx.K he rfl 1 (by decide) (cx.ts _ tw_216) (fun _ h => h) hv hdg kk
theorem gf_B_140_Tp (cx : Cx E p s m args meth c "BaselineText" cc nL ret) (he : hOb (eD E) classes H a 2 fs) {v : Value} (hv : fs[1]? = some v) (hdg : decode cc pc = .ok (.getfield 140, 3)) (kk : W p l e R s m args below meth c H locs cells slots Q (F0 m (pc + 3) ls (v :: rest))) : W p l e R s m args below meth c H locs cells slots Q (F0 m pc ls (.ref a :: rest)) := hx_get cx.x cx.b cx.ts i_Tp cx.o cx.K he rfl 1 (by decide) (cx.ts _ tw_216) (fun _ h => h) hv hdg kk
theorem iv_B_143_Bl (cx : Cx E p s m args meth c "BaselineText" cc nL ret) (hM : Ct l E y_Bl_firstDifference b_Bl_firstDifference 7 (some .int) rm (.ref b :: As) H Qc) (hrecv : hOb (eD E) classes H b 5 fs) (hn : As.length = 1) (hsize : ls.size = nL) (hst : st0 = As.reverse ++ .ref b :: rest) (hW : (rest.map fun v => v.category).sum ≤ 8) (hdg : decode cc pc = .ok (.invokevirtual 143, 3)) (hR : rm.frames + 1 ≤ R.frames ∧ 8 + (7 + 11) + rm.locals ≤ R.locals) (hf : cells + rm.cells ≤ R.cells ∧ slots + rm.slots ≤ R.slots) : va_Run p l e R s m args below meth c H locs cells slots rm.cells rm.slots (F0 m pc ls st0) rest (Qc (Value.ref b :: As).toArray) (fun q => eB E ≤ q) := rn_V (y := y_Bl_firstDifference) tw_752 tw_749 tw_750 tw_751 tw_4 ⟨by decide, by decide, by rfl⟩ cx hM (hrecv.recv cx.K rfl) hn hsize hst hW hdg hR hf
theorem iv_B_147_Bl (cx : Cx E p s m args meth c "BaselineText" cc nL ret) (hM : Ct l E y_Bl_linesMissingIn b_Bl_linesMissingIn 7 (some .int) rm (.ref b :: As) H Qc) (hrecv : hOb (eD E) classes H b 5 fs) (hn : As.length = 1) (hsize : ls.size = nL) (hst : st0 = As.reverse ++ .ref b :: rest) (hW : (rest.map fun v => v.category).sum ≤ 8) (hdg : decode cc pc = .ok (.invokevirtual 147, 3)) (hR : rm.frames + 1 ≤ R.frames ∧ 8 + (7 + 11) + rm.locals ≤ R.locals) (hf : cells + rm.cells ≤ R.cells ∧ slots + rm.slots ≤ R.slots) : va_Run p l e R s m args below meth c H locs cells slots rm.cells rm.slots (F0 m pc ls st0) rest (Qc (Value.ref b :: As).toArray) (fun q => eB E ≤ q) := rn_V (y := y_Bl_linesMissingIn) tw_773 tw_770 tw_771 tw_772 tw_4 ⟨by decide, by decide, by rfl⟩ cx hM (hrecv.recv cx.K rfl) hn hsize hst hW hdg hR hf
theorem iv_B_150_Sf (cx : Cx E p s m args meth c "BaselineText" cc nL ret) (hM : Ct l E y_Sf_get b_Sf_get 2 (some (.object "BaselineText$Declaration")) rm (.ref b :: As) H Qc) (hrecv : hOb (eD E) classes H b 3 fs) (hn : As.length = 1) (hsize : ls.size = nL) (hst : st0 = As.reverse ++ .ref b :: rest) (hW : (rest.map fun v => v.category).sum ≤ 8) (hdg : decode cc pc = .ok (.invokevirtual 150, 3)) (hR : rm.frames + 1 ≤ R.frames ∧ 8 + (2 + 11) + rm.locals ≤ R.locals) (hf : cells + rm.cells ≤ R.cells ∧ slots + rm.slots ≤ R.slots) : va_Run p l e R s m args below meth c H locs cells slots rm.cells rm.slots (F0 m pc ls st0) rest (Qc (Value.ref b :: As).toArray) (fun q => eB E ≤ q) := rn_V (y := y_Sf_get) tw_492 tw_731 tw_490 tw_491 tw_5 ⟨by decide, by decide, by rfl⟩ cx hM (hrecv.recv cx.K rfl) hn hsize hst hW hdg hR hf
theorem nw_Bl_9 (cx : Cx E p s m args meth c "BaselineText$Baseline" cc nL ret) (hcells : cells + 1 ≤ R.cells) (hslots : slots + 3 ≤ R.slots) (hdg : decode cc pc = .ok (.new 9, 3)) (kk : ∀ H1 : Heap, hOb (eD E) classes H1 H.size 3 [.null, .int 0, .int 0] → H1.size = H.size + 1 → (∀ q : Nat, q < H.size → H1[q]? = H[q]?) → W p l e R s m args below meth c H1 locs (cells + 1) (slots + 3) Q (F0 m (pc + 3) ls (.ref H.size :: rest))) : W p l e R s m args below meth c H locs cells slots Q (F0 m pc ls rest) := hx_new cx.x cx.b cx.ts i_Sf t_Sf t_Sf_ok cx.o (cx.ts _ tw_79) (cx.ts _ tw_80) (cx.ts _ tw_5) cx.K rfl (fun j hj => by match j, hj with | 0, _ => rfl | 1, _ => rfl | 2, _ => rfl | j + 3, hj => exact absurd hj (by omega)) hcells hslots hdg kk
theorem iv_Bl_11 (cx : Cx E p s m args meth c "BaselineText$Baseline" cc nL ret) (hM : Ct l E y_Sf_init b_Sf_init 2 none rm (.ref b :: As) H Qc) (hn : As.length = 1) (hsize : ls.size = nL) (hst : st0 = As.reverse ++ .ref b :: rest) (hW : (rest.map fun v => v.category).sum ≤ 8) (hdg : decode cc pc = .ok (.invokespecial 11, 3)) (hR : rm.frames + 1 ≤ R.frames ∧ 8 + (2 + 11) + rm.locals ≤ R.locals) (hf : cells + rm.cells ≤ R.cells ∧ slots + rm.slots ≤ R.slots) : va_Run p l e R s m args below meth c H locs cells slots rm.cells rm.slots (F0 m pc ls st0) rest (Qc (Value.ref b :: As).toArray) (fun q => eB E ≤ q) := rn_I (y := y_Sf_init) tw_83 tw_81 tw_82 tw_5 rfl ⟨by decide, by decide, by rfl⟩ cx hM hn hsize hst hW hdg hR hf
theorem gf_Bl_14_Bl (cx : Cx E p s m args meth c "BaselineText$Baseline" cc nL ret) (he : hOb (eD E) classes H a 5 fs) {v : Value} (hv : fs[0]? = some v) (hdg : decode cc pc = .ok (.getfield 14, 3)) (kk : W p l e R s m args below meth c H locs cells slots Q (F0 m (pc + 3) ls (v :: rest))) : W p l e R s m args below meth c H locs cells slots Q (F0 m pc ls (.ref a :: rest)) := hx_get cx.x cx.b cx.ts i_Bl cx.o cx.K he rfl 0 (by decide) (cx.ts _ tw_121) (fun _ h => h) hv hdg kk
theorem pf_Bl_14_Bl (cx : Cx E p s m args meth c "BaselineText$Baseline" cc nL ret) (hin2 : meth.name = "<init>") (he : hOb (eD E) classes H a 5 fs) (hlo : hLo (eB E) locs) (hB : eB E ≤ a) {x : Option Nat} (hl : 0 < fs.length) (hdg : decode cc pc = .ok (.putfield 14, 3)) (kk : ∀ (H1 : Heap) (locs1 : List Loc), hOb (eD E) classes H1 a 5 (fs.set 0 (va_rf x)) → H1.size = H.size → (∀ q : Nat, q ≠ a → H1[q]? = H[q]?) → hLo (eB E) locs1 → W p l e R s m args below meth c H1 locs1 cells slots Q (F0 m (pc + 3) ls (rest))) : W p l e R s m args below meth c H locs cells slots Q (F0 m pc ls (va_rf x :: .ref a :: rest)) := hx_putF cx.x cx.b cx.ts i_Bl t_Bl t_Bl_ok n_Bl cx.o cx.K he hlo hB rfl 0 (by decide) (cx.ts _ tw_121) (fun _ h => h) rfl hin2 rfl (t_Bl_ok 0 (by decide)) (by cases x <;> rfl) (by cases x <;> rfl) hl hdg kk
theorem gf_Bl_20_Bl (cx : Cx E p s m args meth c "BaselineText$Baseline" cc nL ret) (he : hOb (eD E) classes H a 5 fs) {v : Value} (hv : fs[1]? = some v) (hdg : decode cc pc = .ok (.getfield 20, 3)) (kk : W p l e R s m args below meth c H locs cells slots Q (F0 m (pc + 3) ls (v :: rest))) : W p l e R s m args below meth c H locs cells slots Q (F0 m pc ls (.ref a :: rest)) := hx_get cx.x cx.b cx.ts i_Bl cx.o cx.K he rfl 1 (by decide) (cx.ts _ tw_124) (fun _ h => h) hv hdg kk
theorem pf_Bl_20_Bl (cx : Cx E p s m args meth c "BaselineText$Baseline" cc nL ret) (he : hOb (eD E) classes H a 5 fs) (hlo : hLo (eB E) locs) (hB : eB E ≤ a) {x : Int32} (hl : 1 < fs.length) (hdg : decode cc pc = .ok (.putfield 20, 3)) (kk : ∀ (H1 : Heap) (locs1 : List Loc), hOb (eD E) classes H1 a 5 (fs.set 1 (.int x)) → H1.size = H.size → (∀ q : Nat, q ≠ a → H1[q]? = H[q]?) → hLo (eB E) locs1 → W p l e R s m args below meth c H1 locs1 cells slots Q (F0 m (pc + 3) ls (rest))) : W p l e R s m args below meth c H locs cells slots Q (F0 m pc ls (.int x :: .ref a :: rest)) := hx_put cx.x cx.b cx.ts i_Bl t_Bl t_Bl_ok n_Bl cx.o cx.K he hlo hB rfl 1 (by decide) (cx.ts _ tw_124) (fun _ h => h) rfl (t_Bl_ok 1 (by decide)) rfl rfl hl hdg kk
theorem iv_Bl_24_Sf (cx : Cx E p s m args meth c "BaselineText$Baseline" cc nL ret) (hM : Ct l E y_Sf_empty b_Sf_empty 1 none rm (.ref b :: As) H Qc) (hrecv : hOb (eD E) classes H b 3 fs) (hn : As.length = 0) (hsize : ls.size = nL) (hst : st0 = As.reverse ++ .ref b :: rest) (hW : (rest.map fun v => v.category).sum ≤ 8) (hdg : decode cc pc = .ok (.invokevirtual 24, 3)) (hR : rm.frames + 1 ≤ R.frames ∧ 8 + (1 + 11) + rm.locals ≤ R.locals) (hf : cells + rm.cells ≤ R.cells ∧ slots + rm.slots ≤ R.slots) : va_Run p l e R s m args below meth c H locs cells slots rm.cells rm.slots (F0 m pc ls st0) rest (Qc (Value.ref b :: As).toArray) (fun q => eB E ≤ q) := rn_V (y := y_Sf_empty) tw_189 tw_186 tw_187 tw_188 tw_5 ⟨by decide, by decide, by rfl⟩ cx hM (hrecv.recv cx.K rfl) hn hsize hst hW hdg hR hf
theorem iv_Bl_27_Sf (cx : Cx E p s m args meth c "BaselineText$Baseline" cc nL ret) (hM : Ct l E y_Sf_count b_Sf_count 1 (some .int) rm (.ref b :: As) H Qc) (hrecv : hOb (eD E) classes H b 3 fs) (hn : As.length = 0) (hsize : ls.size = nL) (hst : st0 = As.reverse ++ .ref b :: rest) (hW : (rest.map fun v => v.category).sum ≤ 8) (hdg : decode cc pc = .ok (.invokevirtual 27, 3)) (hR : rm.frames + 1 ≤ R.frames ∧ 8 + (1 + 11) + rm.locals ≤ R.locals) (hf : cells + rm.cells ≤ R.cells ∧ slots + rm.slots ≤ R.slots) : va_Run p l e R s m args below meth c H locs cells slots rm.cells rm.slots (F0 m pc ls st0) rest (Qc (Value.ref b :: As).toArray) (fun q => eB E ≤ q) := rn_V (y := y_Sf_count) tw_628 tw_625 tw_626 tw_627 tw_5 ⟨by decide, by decide, by rfl⟩ cx hM (hrecv.recv cx.K rfl) hn hsize hst hW hdg hR hf
theorem iv_Bl_31_Sf (cx : Cx E p s m args meth c "BaselineText$Baseline" cc nL ret) (hM : Ct l E y_Sf_get b_Sf_get 2 (some (.object "BaselineText$Declaration")) rm (.ref b :: As) H Qc) (hrecv : hOb (eD E) classes H b 3 fs) (hn : As.length = 1) (hsize : ls.size = nL) (hst : st0 = As.reverse ++ .ref b :: rest) (hW : (rest.map fun v => v.category).sum ≤ 8) (hdg : decode cc pc = .ok (.invokevirtual 31, 3)) (hR : rm.frames + 1 ≤ R.frames ∧ 8 + (2 + 11) + rm.locals ≤ R.locals) (hf : cells + rm.cells ≤ R.cells ∧ slots + rm.slots ≤ R.slots) : va_Run p l e R s m args below meth c H locs cells slots rm.cells rm.slots (F0 m pc ls st0) rest (Qc (Value.ref b :: As).toArray) (fun q => eB E ≤ q) := rn_V (y := y_Sf_get) tw_492 tw_629 tw_490 tw_491 tw_5 ⟨by decide, by decide, by rfl⟩ cx hM (hrecv.recv cx.K rfl) hn hsize hst hW hdg hR hf
theorem nw_Bl_35 (cx : Cx E p s m args meth c "BaselineText$Baseline" cc nL ret) (hcells : cells + 1 ≤ R.cells) (hslots : slots + 5 ≤ R.slots) (hdg : decode cc pc = .ok (.new 35, 3)) (kk : ∀ H1 : Heap, hOb (eD E) classes H1 H.size 2 [.null, .null, .int 0, .int 0, .null] → H1.size = H.size + 1 → (∀ q : Nat, q < H.size → H1[q]? = H[q]?) → W p l e R s m args below meth c H1 locs (cells + 1) (slots + 5) Q (F0 m (pc + 3) ls (.ref H.size :: rest))) : W p l e R s m args below meth c H locs cells slots Q (F0 m pc ls rest) := hx_new cx.x cx.b cx.ts i_Tp t_Tp t_Tp_ok cx.o (cx.ts _ tw_630) (cx.ts _ tw_637) (cx.ts _ tw_24) cx.K rfl (fun j hj => by match j, hj with | 0, _ => rfl | 1, _ => rfl | 2, _ => rfl | 3, _ => rfl | 4, _ => rfl | j + 5, hj => exact absurd hj (by omega)) hcells hslots hdg kk
theorem gf_Bl_37_Tp (cx : Cx E p s m args meth c "BaselineText$Baseline" cc nL ret) (he : hOb (eD E) classes H a 2 fs) {v : Value} (hv : fs[0]? = some v) (hdg : decode cc pc = .ok (.getfield 37, 3)) (kk : W p l e R s m args below meth c H locs cells slots Q (F0 m (pc + 3) ls (v :: rest))) : W p l e R s m args below meth c H locs cells slots Q (F0 m pc ls (.ref a :: rest)) := hx_get cx.x cx.b cx.ts i_Tp cx.o cx.K he rfl 0 (by decide) (cx.ts _ tw_209) (fun x9 h9 => u_same (cx.ts _ tw_210) x9 h9) hv hdg kk
theorem iv_Bl_41_Rw (cx : Cx E p s m args meth c "BaselineText$Baseline" cc nL ret) (hM : Ct l E y_Rw_compare b_Rw_compare 3 (some .int) rm (.ref b :: As) H Qc) (hrecv : hOb (eD E) classes H b 0 fs) (hn : As.length = 1) (hsize : ls.size = nL) (hst : st0 = As.reverse ++ .ref b :: rest) (hW : (rest.map fun v => v.category).sum ≤ 8) (hdg : decode cc pc = .ok (.invokevirtual 41, 3)) (hR : rm.frames + 1 ≤ R.frames ∧ 8 + (3 + 11) + rm.locals ≤ R.locals) (hf : cells + rm.cells ≤ R.cells ∧ slots + rm.slots ≤ R.slots) : va_Run p l e R s m args below meth c H locs cells slots rm.cells rm.slots (F0 m pc ls st0) rest (Qc (Value.ref b :: As).toArray) (fun q => eB E ≤ q) := rn_V (y := y_Rw_compare) tw_519 tw_631 tw_517 tw_518 tw_2 ⟨by decide, by decide, by rfl⟩ cx hM (hrecv.recv cx.K rfl) hn hsize hst hW hdg hR hf
theorem iv_Bl_47_Sf (cx : Cx E p s m args meth c "BaselineText$Baseline" cc nL ret) (hM : Ct l E y_Sf_takeSpare b_Sf_takeSpare 1 (some (.object "BaselineText$Declaration")) rm (.ref b :: As) H Qc) (hrecv : hOb (eD E) classes H b 3 fs) (hn : As.length = 0) (hsize : ls.size = nL) (hst : st0 = As.reverse ++ .ref b :: rest) (hW : (rest.map fun v => v.category).sum ≤ 8) (hdg : decode cc pc = .ok (.invokevirtual 47, 3)) (hR : rm.frames + 1 ≤ R.frames ∧ 8 + (1 + 11) + rm.locals ≤ R.locals) (hf : cells + rm.cells ≤ R.cells ∧ slots + rm.slots ≤ R.slots) : va_Run p l e R s m args below meth c H locs cells slots rm.cells rm.slots (F0 m pc ls st0) rest (Qc (Value.ref b :: As).toArray) (fun q => eB E ≤ q) := rn_V (y := y_Sf_takeSpare) tw_531 tw_636 tw_529 tw_530 tw_5 ⟨by decide, by decide, by rfl⟩ cx hM (hrecv.recv cx.K rfl) hn hsize hst hW hdg hR hf
theorem iv_Bl_51 (cx : Cx E p s m args meth c "BaselineText$Baseline" cc nL ret) (hM : Ct l E y_Tp_init b_Tp_init 1 none rm (.ref b :: As) H Qc) (hn : As.length = 0) (hsize : ls.size = nL) (hst : st0 = As.reverse ++ .ref b :: rest) (hW : (rest.map fun v => v.category).sum ≤ 8) (hdg : decode cc pc = .ok (.invokespecial 51, 3)) (hR : rm.frames + 1 ≤ R.frames ∧ 8 + (1 + 11) + rm.locals ≤ R.locals) (hf : cells + rm.cells ≤ R.cells ∧ slots + rm.slots ≤ R.slots) : va_Run p l e R s m args below meth c H locs cells slots rm.cells rm.slots (F0 m pc ls st0) rest (Qc (Value.ref b :: As).toArray) (fun q => eB E ≤ q) := rn_IN (y := y_Tp_init) tw_640 (List.mem_of_getElem? (i := 4) rfl) tw_639 tw_24 rfl ⟨by decide, by decide, by rfl⟩ cx hM hn hsize hst hW hdg hR hf
theorem iv_Bl_52_Tp (cx : Cx E p s m args meth c "BaselineText$Baseline" cc nL ret) (hM : Ct l E y_Dc_copy b_Dc_copy 2 none rm (.ref b :: As) H Qc) (hrecv : hOb (eD E) classes H b 2 fs) (hn : As.length = 1) (hsize : ls.size = nL) (hst : st0 = As.reverse ++ .ref b :: rest) (hW : (rest.map fun v => v.category).sum ≤ 8) (hdg : decode cc pc = .ok (.invokevirtual 52, 3)) (hR : rm.frames + 1 ≤ R.frames ∧ 8 + (2 + 11) + rm.locals ≤ R.locals) (hf : cells + rm.cells ≤ R.cells ∧ slots + rm.slots ≤ R.slots) : va_Run p l e R s m args below meth c H locs cells slots rm.cells rm.slots (F0 m pc ls st0) rest (Qc (Value.ref b :: As).toArray) (fun q => eB E ≤ q) := rn_U (y := y_Dc_copy) (x := ⟨"BaselineText$Type", "copy", "(LBaselineText$Declaration;)V"⟩) (owner := "BaselineText$Declaration") tw_550 tw_655 tw_656 tw_546 tw_658 tw_11 rfl ⟨by decide, by decide, by rfl⟩ cx hM (hrecv.recv cx.K rfl) hn hsize hst hW hdg hR hf
theorem gf_Bl_56_Tp (cx : Cx E p s m args meth c "BaselineText$Baseline" cc nL ret) (he : hOb (eD E) classes H a 2 fs) {v : Value} (hv : fs[4]? = some v) (hdg : decode cc pc = .ok (.getfield 56, 3)) (kk : W p l e R s m args below meth c H locs cells slots Q (F0 m (pc + 3) ls (v :: rest))) : W p l e R s m args below meth c H locs cells slots Q (F0 m pc ls (.ref a :: rest)) := hx_get cx.x cx.b cx.ts i_Tp cx.o cx.K he rfl 4 (by decide) (cx.ts _ tw_644) (fun _ h => h) hv hdg kk
theorem iv_Bl_59_Sf (cx : Cx E p s m args meth c "BaselineText$Baseline" cc nL ret) (hM : Ct l E y_Sf_put b_Sf_put 5 none rm (.ref b :: As) H Qc) (hrecv : hOb (eD E) classes H b 3 fs) (hn : As.length = 1) (hsize : ls.size = nL) (hst : st0 = As.reverse ++ .ref b :: rest) (hW : (rest.map fun v => v.category).sum ≤ 8) (hdg : decode cc pc = .ok (.invokevirtual 59, 3)) (hR : rm.frames + 1 ≤ R.frames ∧ 8 + (5 + 11) + rm.locals ≤ R.locals) (hf : cells + rm.cells ≤ R.cells ∧ slots + rm.slots ≤ R.slots) : va_Run p l e R s m args below meth c H locs cells slots rm.cells rm.slots (F0 m pc ls st0) rest (Qc (Value.ref b :: As).toArray) (fun q => eB E ≤ q) := rn_V (y := y_Sf_put) tw_560 tw_659 tw_558 tw_559 tw_5 ⟨by decide, by decide, by rfl⟩ cx hM (hrecv.recv cx.K rfl) hn hsize hst hW hdg hR hf
theorem iv_Bl_64_Rw (cx : Cx E p s m args meth c "BaselineText$Baseline" cc nL ret) (hM : Ct l E y_Rw_addWord b_Rw_addWord 3 none rm (.ref b :: As) H Qc) (hrecv : hOb (eD E) classes H b 0 fs) (hn : As.length = 1) (hsize : ls.size = nL) (hst : st0 = As.reverse ++ .ref b :: rest) (hW : (rest.map fun v => v.category).sum ≤ 8) (hdg : decode cc pc = .ok (.invokevirtual 64, 3)) (hR : rm.frames + 1 ≤ R.frames ∧ 8 + (3 + 11) + rm.locals ≤ R.locals) (hf : cells + rm.cells ≤ R.cells ∧ slots + rm.slots ≤ R.slots) : va_Run p l e R s m args below meth c H locs cells slots rm.cells rm.slots (F0 m pc ls st0) rest (Qc (Value.ref b :: As).toArray) (fun q => eB E ≤ q) := rn_V (y := y_Rw_addWord) tw_676 tw_673 tw_674 tw_675 tw_2 ⟨by decide, by decide, by rfl⟩ cx hM (hrecv.recv cx.K rfl) hn hsize hst hW hdg hR hf
theorem iv_Bl_68_Rw (cx : Cx E p s m args meth c "BaselineText$Baseline" cc nL ret) (hM : Ct l E y_Rw_add b_Rw_add 2 none rm (.ref b :: As) H Qc) (hrecv : hOb (eD E) classes H b 0 fs) (hn : As.length = 1) (hsize : ls.size = nL) (hst : st0 = As.reverse ++ .ref b :: rest) (hW : (rest.map fun v => v.category).sum ≤ 8) (hdg : decode cc pc = .ok (.invokevirtual 68, 3)) (hR : rm.frames + 1 ≤ R.frames ∧ 8 + (2 + 11) + rm.locals ≤ R.locals) (hf : cells + rm.cells ≤ R.cells ∧ slots + rm.slots ≤ R.slots) : va_Run p l e R s m args below meth c H locs cells slots rm.cells rm.slots (F0 m pc ls st0) rest (Qc (Value.ref b :: As).toArray) (fun q => eB E ≤ q) := rn_V (y := y_Rw_add) tw_165 tw_677 tw_163 tw_164 tw_2 ⟨by decide, by decide, by rfl⟩ cx hM (hrecv.recv cx.K rfl) hn hsize hst hW hdg hR hf
theorem iv_Bl_71_Tp (cx : Cx E p s m args meth c "BaselineText$Baseline" cc nL ret) (hM : Ct l E y_Dc_addLine b_Dc_addLine 5 none rm (.ref b :: As) H Qc) (hrecv : hOb (eD E) classes H b 2 fs) (hn : As.length = 3) (hsize : ls.size = nL) (hst : st0 = As.reverse ++ .ref b :: rest) (hW : (rest.map fun v => v.category).sum ≤ 8) (hdg : decode cc pc = .ok (.invokevirtual 71, 3)) (hR : rm.frames + 1 ≤ R.frames ∧ 8 + (5 + 11) + rm.locals ≤ R.locals) (hf : cells + rm.cells ≤ R.cells ∧ slots + rm.slots ≤ R.slots) : va_Run p l e R s m args below meth c H locs cells slots rm.cells rm.slots (F0 m pc ls st0) rest (Qc (Value.ref b :: As).toArray) (fun q => eB E ≤ q) := rn_U (y := y_Dc_addLine) (x := ⟨"BaselineText$Type", "addLine", "(LBaselineText$Row;ZI)V"⟩) (owner := "BaselineText$Declaration") tw_683 tw_678 tw_679 tw_682 tw_681 tw_11 rfl ⟨by decide, by decide, by rfl⟩ cx hM (hrecv.recv cx.K rfl) hn hsize hst hW hdg hR hf
theorem iv_Bl_75_Bl (cx : Cx E p s m args meth c "BaselineText$Baseline" cc nL ret) (hM : Ct l E y_Bl_addMemberLines b_Bl_addMemberLines 5 none rm (.ref b :: As) H Qc) (hrecv : hOb (eD E) classes H b 5 fs) (hn : As.length = 2) (hsize : ls.size = nL) (hst : st0 = As.reverse ++ .ref b :: rest) (hW : (rest.map fun v => v.category).sum ≤ 8) (hdg : decode cc pc = .ok (.invokevirtual 75, 3)) (hR : rm.frames + 1 ≤ R.frames ∧ 8 + (5 + 11) + rm.locals ≤ R.locals) (hf : cells + rm.cells ≤ R.cells ∧ slots + rm.slots ≤ R.slots) : va_Run p l e R s m args below meth c H locs cells slots rm.cells rm.slots (F0 m pc ls st0) rest (Qc (Value.ref b :: As).toArray) (fun q => eB E ≤ q) := rn_V (y := y_Bl_addMemberLines) tw_697 tw_694 tw_696 ps_Bl_addMemberLines tw_4 ⟨by decide, by decide, by rfl⟩ cx hM (hrecv.recv cx.K rfl) hn hsize hst hW hdg hR hf
theorem iv_Bl_79_Dc (cx : Cx E p s m args meth c "BaselineText$Baseline" cc nL ret) (hM : Ct l E y_Dc_addLine b_Dc_addLine 5 none rm (.ref b :: As) H Qc) (hrecv : hOb (eD E) classes H b 1 fs) (hn : As.length = 3) (hsize : ls.size = nL) (hst : st0 = As.reverse ++ .ref b :: rest) (hW : (rest.map fun v => v.category).sum ≤ 8) (hdg : decode cc pc = .ok (.invokevirtual 79, 3)) (hR : rm.frames + 1 ≤ R.frames ∧ 8 + (5 + 11) + rm.locals ≤ R.locals) (hf : cells + rm.cells ≤ R.cells ∧ slots + rm.slots ≤ R.slots) : va_Run p l e R s m args below meth c H locs cells slots rm.cells rm.slots (F0 m pc ls st0) rest (Qc (Value.ref b :: As).toArray) (fun q => eB E ≤ q) := rn_V (y := y_Dc_addLine) tw_683 tw_698 tw_682 tw_1095 tw_11 ⟨by decide, by decide, by rfl⟩ cx hM (hrecv.recv cx.K rfl) hn hsize hst hW hdg hR hf
theorem iv_Bl_79_Tp (cx : Cx E p s m args meth c "BaselineText$Baseline" cc nL ret) (hM : Ct l E y_Dc_addLine b_Dc_addLine 5 none rm (.ref b :: As) H Qc) (hrecv : hOb (eD E) classes H b 2 fs) (hn : As.length = 3) (hsize : ls.size = nL) (hst : st0 = As.reverse ++ .ref b :: rest) (hW : (rest.map fun v => v.category).sum ≤ 8) (hdg : decode cc pc = .ok (.invokevirtual 79, 3)) (hR : rm.frames + 1 ≤ R.frames ∧ 8 + (5 + 11) + rm.locals ≤ R.locals) (hf : cells + rm.cells ≤ R.cells ∧ slots + rm.slots ≤ R.slots) : va_Run p l e R s m args below meth c H locs cells slots rm.cells rm.slots (F0 m pc ls st0) rest (Qc (Value.ref b :: As).toArray) (fun q => eB E ≤ q) := rn_V (y := y_Dc_addLine) tw_683 tw_698 tw_682 tw_1096 tw_11 ⟨by decide, by decide, by rfl⟩ cx hM (hrecv.recv cx.K rfl) hn hsize hst hW hdg hR hf
theorem iv_Bl_82_Tp (cx : Cx E p s m args meth c "BaselineText$Baseline" cc nL ret) (hM : Ct l E y_Dc_isSame b_Dc_isSame 2 (some .boolean) rm (.ref b :: As) H Qc) (hrecv : hOb (eD E) classes H b 2 fs) (hn : As.length = 1) (hsize : ls.size = nL) (hst : st0 = As.reverse ++ .ref b :: rest) (hW : (rest.map fun v => v.category).sum ≤ 8) (hdg : decode cc pc = .ok (.invokevirtual 82, 3)) (hR : rm.frames + 1 ≤ R.frames ∧ 8 + (2 + 11) + rm.locals ≤ R.locals) (hf : cells + rm.cells ≤ R.cells ∧ slots + rm.slots ≤ R.slots) : va_Run p l e R s m args below meth c H locs cells slots rm.cells rm.slots (F0 m pc ls st0) rest (Qc (Value.ref b :: As).toArray) (fun q => eB E ≤ q) := rn_U (y := y_Dc_isSame) (x := ⟨"BaselineText$Type", "isSame", "(LBaselineText$Declaration;)Z"⟩) (owner := "BaselineText$Declaration") tw_758 tw_753 tw_754 tw_757 tw_756 tw_11 rfl ⟨by decide, by decide, by rfl⟩ cx hM (hrecv.recv cx.K rfl) hn hsize hst hW hdg hR hf
theorem iv_Bl_86 (cx : Cx E p s m args meth c "BaselineText$Baseline" cc nL ret) (hM : Ct l E y_Bl_sameMembers b_Bl_sameMembers 6 (some .int) rm As H Qc) (hn : As.length = 2) (hsize : ls.size = nL) (hst : st0 = As.reverse ++ rest) (hW : (rest.map fun v => v.category).sum ≤ 8) (hdg : decode cc pc = .ok (.invokestatic 86, 3)) (hR : rm.frames + 1 ≤ R.frames ∧ 8 + (6 + 11) + rm.locals ≤ R.locals) (hf : cells + rm.cells ≤ R.cells ∧ slots + rm.slots ≤ R.slots) : va_Run p l e R s m args below meth c H locs cells slots rm.cells rm.slots (F0 m pc ls st0) rest (Qc (As).toArray) (fun q => eB E ≤ q) := rn_S (y := y_Bl_sameMembers) tw_762 tw_760 tw_761 tw_4 ⟨by decide, by decide, by rfl⟩ cx hM hn hsize hst hW hdg hR hf
theorem iv_Bl_90 (cx : Cx E p s m args meth c "BaselineText$Baseline" cc nL ret) (hM : Ct l E y_Ma_max b_Ma_max 2 (some .int) rm As H Qc) (hn : As.length = 2) (hsize : ls.size = nL) (hst : st0 = As.reverse ++ rest) (hW : (rest.map fun v => v.category).sum ≤ 8) (hdg : decode cc pc = .ok (.invokestatic 90, 3)) (hR : rm.frames + 1 ≤ R.frames ∧ 8 + (2 + 11) + rm.locals ≤ R.locals) (hf : cells + rm.cells ≤ R.cells ∧ slots + rm.slots ≤ R.slots) : va_Run p l e R s m args below meth c H locs cells slots rm.cells rm.slots (F0 m pc ls st0) rest (Qc (As).toArray) (fun q => eB E ≤ q) := rn_S (y := y_Ma_max) tw_582 tw_765 tw_581 tw_22 ⟨by decide, by decide, by rfl⟩ cx hM hn hsize hst hW hdg hR hf
theorem iv_Bl_96 (cx : Cx E p s m args meth c "BaselineText$Baseline" cc nL ret) (hM : Ct l E y_Ma_min b_Ma_min 2 (some .int) rm As H Qc) (hn : As.length = 2) (hsize : ls.size = nL) (hst : st0 = As.reverse ++ rest) (hW : (rest.map fun v => v.category).sum ≤ 8) (hdg : decode cc pc = .ok (.invokestatic 96, 3)) (hR : rm.frames + 1 ≤ R.frames ∧ 8 + (2 + 11) + rm.locals ≤ R.locals) (hf : cells + rm.cells ≤ R.cells ∧ slots + rm.slots ≤ R.slots) : va_Run p l e R s m args below meth c H locs cells slots rm.cells rm.slots (F0 m pc ls st0) rest (Qc (As).toArray) (fun q => eB E ≤ q) := rn_S (y := y_Ma_min) tw_613 tw_763 tw_612 tw_22 ⟨by decide, by decide, by rfl⟩ cx hM hn hsize hst hW hdg hR hf
theorem iv_Bl_99_Dc (cx : Cx E p s m args meth c "BaselineText$Baseline" cc nL ret) (hM : Ct l E y_Dc_isSame b_Dc_isSame 2 (some .boolean) rm (.ref b :: As) H Qc) (hrecv : hOb (eD E) classes H b 1 fs) (hn : As.length = 1) (hsize : ls.size = nL) (hst : st0 = As.reverse ++ .ref b :: rest) (hW : (rest.map fun v => v.category).sum ≤ 8) (hdg : decode cc pc = .ok (.invokevirtual 99, 3)) (hR : rm.frames + 1 ≤ R.frames ∧ 8 + (2 + 11) + rm.locals ≤ R.locals) (hf : cells + rm.cells ≤ R.cells ∧ slots + rm.slots ≤ R.slots) : va_Run p l e R s m args below meth c H locs cells slots rm.cells rm.slots (F0 m pc ls st0) rest (Qc (Value.ref b :: As).toArray) (fun q => eB E ≤ q) := rn_V (y := y_Dc_isSame) tw_758 tw_764 tw_757 tw_1098 tw_11 ⟨by decide, by decide, by rfl⟩ cx hM (hrecv.recv cx.K rfl) hn hsize hst hW hdg hR hf
theorem iv_Bl_99_Tp (cx : Cx E p s m args meth c "BaselineText$Baseline" cc nL ret) (hM : Ct l E y_Dc_isSame b_Dc_isSame 2 (some .boolean) rm (.ref b :: As) H Qc) (hrecv : hOb (eD E) classes H b 2 fs) (hn : As.length = 1) (hsize : ls.size = nL) (hst : st0 = As.reverse ++ .ref b :: rest) (hW : (rest.map fun v => v.category).sum ≤ 8) (hdg : decode cc pc = .ok (.invokevirtual 99, 3)) (hR : rm.frames + 1 ≤ R.frames ∧ 8 + (2 + 11) + rm.locals ≤ R.locals) (hf : cells + rm.cells ≤ R.cells ∧ slots + rm.slots ≤ R.slots) : va_Run p l e R s m args below meth c H locs cells slots rm.cells rm.slots (F0 m pc ls st0) rest (Qc (Value.ref b :: As).toArray) (fun q => eB E ≤ q) := rn_V (y := y_Dc_isSame) tw_758 tw_764 tw_757 tw_1099 tw_11 ⟨by decide, by decide, by rfl⟩ cx hM (hrecv.recv cx.K rfl) hn hsize hst hW hdg hR hf
theorem iv_Bl_100_Bl (cx : Cx E p s m args meth c "BaselineText$Baseline" cc nL ret) (hM : Ct l E y_Bl_named b_Bl_named 4 (some (.object "BaselineText$Type")) rm (.ref b :: As) H Qc) (hrecv : hOb (eD E) classes H b 5 fs) (hn : As.length = 1) (hsize : ls.size = nL) (hst : st0 = As.reverse ++ .ref b :: rest) (hW : (rest.map fun v => v.category).sum ≤ 8) (hdg : decode cc pc = .ok (.invokevirtual 100, 3)) (hR : rm.frames + 1 ≤ R.frames ∧ 8 + (4 + 11) + rm.locals ≤ R.locals) (hf : cells + rm.cells ≤ R.cells ∧ slots + rm.slots ≤ R.slots) : va_Run p l e R s m args below meth c H locs cells slots rm.cells rm.slots (F0 m pc ls st0) rest (Qc (Value.ref b :: As).toArray) (fun q => eB E ≤ q) := rn_V (y := y_Bl_named) tw_624 tw_774 tw_622 tw_623 tw_4 ⟨by decide, by decide, by rfl⟩ cx hM (hrecv.recv cx.K rfl) hn hsize hst hW hdg hR hf
theorem iv_Bl_104 (cx : Cx E p s m args meth c "BaselineText$Baseline" cc nL ret) (hM : Ct l E y_Bl_isSameLine b_Bl_isSameLine 3 (some .boolean) rm As H Qc) (hn : As.length = 3) (hsize : ls.size = nL) (hst : st0 = As.reverse ++ rest) (hW : (rest.map fun v => v.category).sum ≤ 8) (hdg : decode cc pc = .ok (.invokestatic 104, 3)) (hR : rm.frames + 1 ≤ R.frames ∧ 8 + (3 + 11) + rm.locals ≤ R.locals) (hf : cells + rm.cells ≤ R.cells ∧ slots + rm.slots ≤ R.slots) : va_Run p l e R s m args below meth c H locs cells slots rm.cells rm.slots (F0 m pc ls st0) rest (Qc (As).toArray) (fun q => eB E ≤ q) := rn_S (y := y_Bl_isSameLine) tw_777 tw_775 tw_776 tw_4 ⟨by decide, by decide, by rfl⟩ cx hM hn hsize hst hW hdg hR hf
theorem iv_Bl_108 (cx : Cx E p s m args meth c "BaselineText$Baseline" cc nL ret) (hM : Ct l E y_Bl_membersMissingIn b_Bl_membersMissingIn 6 (some .int) rm As H Qc) (hn : As.length = 3) (hsize : ls.size = nL) (hst : st0 = As.reverse ++ rest) (hW : (rest.map fun v => v.category).sum ≤ 8) (hdg : decode cc pc = .ok (.invokestatic 108, 3)) (hR : rm.frames + 1 ≤ R.frames ∧ 8 + (6 + 11) + rm.locals ≤ R.locals) (hf : cells + rm.cells ≤ R.cells ∧ slots + rm.slots ≤ R.slots) : va_Run p l e R s m args below meth c H locs cells slots rm.cells rm.slots (F0 m pc ls st0) rest (Qc (As).toArray) (fun q => eB E ≤ q) := rn_S (y := y_Bl_membersMissingIn) tw_790 tw_788 tw_789 tw_4 ⟨by decide, by decide, by rfl⟩ cx hM hn hsize hst hW hdg hR hf
theorem iv_Bl_112_Sf (cx : Cx E p s m args meth c "BaselineText$Baseline" cc nL ret) (hM : Ct l E y_Sf_alike b_Sf_alike 4 (some (.object "BaselineText$Declaration")) rm (.ref b :: As) H Qc) (hrecv : hOb (eD E) classes H b 3 fs) (hn : As.length = 1) (hsize : ls.size = nL) (hst : st0 = As.reverse ++ .ref b :: rest) (hW : (rest.map fun v => v.category).sum ≤ 8) (hdg : decode cc pc = .ok (.invokevirtual 112, 3)) (hR : rm.frames + 1 ≤ R.frames ∧ 8 + (4 + 11) + rm.locals ≤ R.locals) (hf : cells + rm.cells ≤ R.cells ∧ slots + rm.slots ≤ R.slots) : va_Run p l e R s m args below meth c H locs cells slots rm.cells rm.slots (F0 m pc ls st0) rest (Qc (Value.ref b :: As).toArray) (fun q => eB E ≤ q) := rn_V (y := y_Sf_alike) tw_488 tw_791 tw_486 tw_487 tw_5 ⟨by decide, by decide, by rfl⟩ cx hM (hrecv.recv cx.K rfl) hn hsize hst hW hdg hR hf
theorem iv_Bl_116_Dc (cx : Cx E p s m args meth c "BaselineText$Baseline" cc nL ret) (hM : Ct l E y_Dc_isFormatFree b_Dc_isFormatFree 1 (some .boolean) rm (.ref b :: As) H Qc) (hrecv : hOb (eD E) classes H b 1 fs) (hn : As.length = 0) (hsize : ls.size = nL) (hst : st0 = As.reverse ++ .ref b :: rest) (hW : (rest.map fun v => v.category).sum ≤ 8) (hdg : decode cc pc = .ok (.invokevirtual 116, 3)) (hR : rm.frames + 1 ≤ R.frames ∧ 8 + (1 + 11) + rm.locals ≤ R.locals) (hf : cells + rm.cells ≤ R.cells ∧ slots + rm.slots ≤ R.slots) : va_Run p l e R s m args below meth c H locs cells slots rm.cells rm.slots (F0 m pc ls st0) rest (Qc (Value.ref b :: As).toArray) (fun q => eB E ≤ q) := rn_V (y := y_Dc_isFormatFree) tw_783 tw_778 tw_779 tw_780 tw_11 ⟨by decide, by decide, by rfl⟩ cx hM (hrecv.recv cx.K rfl) hn hsize hst hW hdg hR hf
theorem iv_Bl_116_Tp (cx : Cx E p s m args meth c "BaselineText$Baseline" cc nL ret) (hM : Ct l E y_Dc_isFormatFree b_Dc_isFormatFree 1 (some .boolean) rm (.ref b :: As) H Qc) (hrecv : hOb (eD E) classes H b 2 fs) (hn : As.length = 0) (hsize : ls.size = nL) (hst : st0 = As.reverse ++ .ref b :: rest) (hW : (rest.map fun v => v.category).sum ≤ 8) (hdg : decode cc pc = .ok (.invokevirtual 116, 3)) (hR : rm.frames + 1 ≤ R.frames ∧ 8 + (1 + 11) + rm.locals ≤ R.locals) (hf : cells + rm.cells ≤ R.cells ∧ slots + rm.slots ≤ R.slots) : va_Run p l e R s m args below meth c H locs cells slots rm.cells rm.slots (F0 m pc ls st0) rest (Qc (Value.ref b :: As).toArray) (fun q => eB E ≤ q) := rn_V (y := y_Dc_isFormatFree) tw_783 tw_778 tw_779 tw_782 tw_11 ⟨by decide, by decide, by rfl⟩ cx hM (hrecv.recv cx.K rfl) hn hsize hst hW hdg hR hf
theorem nw_Dc_9 (cx : Cx E p s m args meth c "BaselineText$Declaration" cc nL ret) (hcells : cells + 1 ≤ R.cells) (hslots : slots + 3 ≤ R.slots) (hdg : decode cc pc = .ok (.new 9, 3)) (kk : ∀ H1 : Heap, hOb (eD E) classes H1 H.size 0 [.null, .int 0, .int 0] → H1.size = H.size + 1 → (∀ q : Nat, q < H.size → H1[q]? = H[q]?) → W p l e R s m args below meth c H1 locs (cells + 1) (slots + 3) Q (F0 m (pc + 3) ls (.ref H.size :: rest))) : W p l e R s m args below meth c H locs cells slots Q (F0 m pc ls rest) := hx_new cx.x cx.b cx.ts i_Rw t_Rw t_Rw_ok cx.o (cx.ts _ tw_206) (cx.ts _ tw_34) (cx.ts _ tw_2) cx.K rfl (fun j hj => by match j, hj with | 0, _ => rfl | 1, _ => rfl | 2, _ => rfl | j + 3, hj => exact absurd hj (by omega)) hcells hslots hdg kk
theorem iv_Dc_11 (cx : Cx E p s m args meth c "BaselineText$Declaration" cc nL ret) (hM : Ct l E y_Rw_init b_Rw_init 2 none rm (.ref b :: As) H Qc) (hn : As.length = 1) (hsize : ls.size = nL) (hst : st0 = As.reverse ++ .ref b :: rest) (hW : (rest.map fun v => v.category).sum ≤ 8) (hdg : decode cc pc = .ok (.invokespecial 11, 3)) (hR : rm.frames + 1 ≤ R.frames ∧ 8 + (2 + 11) + rm.locals ≤ R.locals) (hf : cells + rm.cells ≤ R.cells ∧ slots + rm.slots ≤ R.slots) : va_Run p l e R s m args below meth c H locs cells slots rm.cells rm.slots (F0 m pc ls st0) rest (Qc (Value.ref b :: As).toArray) (fun q => eB E ≤ q) := rn_I (y := y_Rw_init) tw_37 tw_207 tw_36 tw_2 rfl ⟨by decide, by decide, by rfl⟩ cx hM hn hsize hst hW hdg hR hf
theorem gf_Dc_14_Dc (cx : Cx E p s m args meth c "BaselineText$Declaration" cc nL ret) (he : hOb (eD E) classes H a 1 fs) {v : Value} (hv : fs[0]? = some v) (hdg : decode cc pc = .ok (.getfield 14, 3)) (kk : W p l e R s m args below meth c H locs cells slots Q (F0 m (pc + 3) ls (v :: rest))) : W p l e R s m args below meth c H locs cells slots Q (F0 m pc ls (.ref a :: rest)) := hx_get cx.x cx.b cx.ts i_Dc cx.o cx.K he rfl 0 (by decide) (cx.ts _ tw_208) (fun _ h => h) hv hdg kk
theorem pf_Dc_14_Dc (cx : Cx E p s m args meth c "BaselineText$Declaration" cc nL ret) (hin2 : meth.name = "<init>") (he : hOb (eD E) classes H a 1 fs) (hlo : hLo (eB E) locs) (hB : eB E ≤ a) {x : Option Nat} (hl : 0 < fs.length) (hdg : decode cc pc = .ok (.putfield 14, 3)) (kk : ∀ (H1 : Heap) (locs1 : List Loc), hOb (eD E) classes H1 a 1 (fs.set 0 (va_rf x)) → H1.size = H.size → (∀ q : Nat, q ≠ a → H1[q]? = H[q]?) → hLo (eB E) locs1 → W p l e R s m args below meth c H1 locs1 cells slots Q (F0 m (pc + 3) ls (rest))) : W p l e R s m args below meth c H locs cells slots Q (F0 m pc ls (va_rf x :: .ref a :: rest)) := hx_putF cx.x cx.b cx.ts i_Dc t_Dc t_Dc_ok n_Dc cx.o cx.K he hlo hB rfl 0 (by decide) (cx.ts _ tw_208) (fun _ h => h) rfl hin2 rfl (t_Dc_ok 0 (by decide)) (by cases x <;> rfl) (by cases x <;> rfl) hl hdg kk
theorem gf_Dc_14_Tp (cx : Cx E p s m args meth c "BaselineText$Declaration" cc nL ret) (he : hOb (eD E) classes H a 2 fs) {v : Value} (hv : fs[0]? = some v) (hdg : decode cc pc = .ok (.getfield 14, 3)) (kk : W p l e R s m args below meth c H locs cells slots Q (F0 m (pc + 3) ls (v :: rest))) : W p l e R s m args below meth c H locs cells slots Q (F0 m pc ls (.ref a :: rest)) := hx_get cx.x cx.b cx.ts i_Tp cx.o cx.K he rfl 0 (by decide) (cx.ts _ tw_208) (fun _ h => h) hv hdg kk
theorem pf_Dc_14_Tp (cx : Cx E p s m args meth c "BaselineText$Declaration" cc nL ret) (hin2 : meth.name = "<init>") (he : hOb (eD E) classes H a 2 fs) (hlo : hLo (eB E) locs) (hB : eB E ≤ a) {x : Option Nat} (hl : 0 < fs.length) (hdg : decode cc pc = .ok (.putfield 14, 3)) (kk : ∀ (H1 : Heap) (locs1 : List Loc), hOb (eD E) classes H1 a 2 (fs.set 0 (va_rf x)) → H1.size = H.size → (∀ q : Nat, q ≠ a → H1[q]? = H[q]?) → hLo (eB E) locs1 → W p l e R s m args below meth c H1 locs1 cells slots Q (F0 m (pc + 3) ls (rest))) : W p l e R s m args below meth c H locs cells slots Q (F0 m pc ls (va_rf x :: .ref a :: rest)) := hx_putF cx.x cx.b cx.ts i_Tp t_Tp t_Tp_ok n_Tp cx.o cx.K he hlo hB rfl 0 (by decide) (cx.ts _ tw_208) (fun _ h => h) rfl hin2 rfl (t_Tp_ok 0 (by decide)) (by cases x <;> rfl) (by cases x <;> rfl) hl hdg kk
theorem gf_Dc_20_Dc (cx : Cx E p s m args meth c "BaselineText$Declaration" cc nL ret) (he : hOb (eD E) classes H a 1 fs) {v : Value} (hv : fs[1]? = some v) (hdg : decode cc pc = .ok (.getfield 20, 3)) (kk : W p l e R s m args below meth c H locs cells slots Q (F0 m (pc + 3) ls (v :: rest))) : W p l e R s m args below meth c H locs cells slots Q (F0 m pc ls (.ref a :: rest)) := hx_get cx.x cx.b cx.ts i_Dc cx.o cx.K he rfl 1 (by decide) (cx.ts _ tw_214) (fun _ h => h) hv hdg kk
theorem pf_Dc_20_Dc (cx : Cx E p s m args meth c "BaselineText$Declaration" cc nL ret) (hin2 : meth.name = "<init>") (he : hOb (eD E) classes H a 1 fs) (hlo : hLo (eB E) locs) (hB : eB E ≤ a) {x : Option Nat} (hl : 1 < fs.length) (hdg : decode cc pc = .ok (.putfield 20, 3)) (kk : ∀ (H1 : Heap) (locs1 : List Loc), hOb (eD E) classes H1 a 1 (fs.set 1 (va_rf x)) → H1.size = H.size → (∀ q : Nat, q ≠ a → H1[q]? = H[q]?) → hLo (eB E) locs1 → W p l e R s m args below meth c H1 locs1 cells slots Q (F0 m (pc + 3) ls (rest))) : W p l e R s m args below meth c H locs cells slots Q (F0 m pc ls (va_rf x :: .ref a :: rest)) := hx_putF cx.x cx.b cx.ts i_Dc t_Dc t_Dc_ok n_Dc cx.o cx.K he hlo hB rfl 1 (by decide) (cx.ts _ tw_214) (fun _ h => h) rfl hin2 rfl (t_Dc_ok 1 (by decide)) (by cases x <;> rfl) (by cases x <;> rfl) hl hdg kk
theorem gf_Dc_20_Tp (cx : Cx E p s m args meth c "BaselineText$Declaration" cc nL ret) (he : hOb (eD E) classes H a 2 fs) {v : Value} (hv : fs[1]? = some v) (hdg : decode cc pc = .ok (.getfield 20, 3)) (kk : W p l e R s m args below meth c H locs cells slots Q (F0 m (pc + 3) ls (v :: rest))) : W p l e R s m args below meth c H locs cells slots Q (F0 m pc ls (.ref a :: rest)) := hx_get cx.x cx.b cx.ts i_Tp cx.o cx.K he rfl 1 (by decide) (cx.ts _ tw_214) (fun _ h => h) hv hdg kk
theorem pf_Dc_20_Tp (cx : Cx E p s m args meth c "BaselineText$Declaration" cc nL ret) (hin2 : meth.name = "<init>") (he : hOb (eD E) classes H a 2 fs) (hlo : hLo (eB E) locs) (hB : eB E ≤ a) {x : Option Nat} (hl : 1 < fs.length) (hdg : decode cc pc = .ok (.putfield 20, 3)) (kk : ∀ (H1 : Heap) (locs1 : List Loc), hOb (eD E) classes H1 a 2 (fs.set 1 (va_rf x)) → H1.size = H.size → (∀ q : Nat, q ≠ a → H1[q]? = H[q]?) → hLo (eB E) locs1 → W p l e R s m args below meth c H1 locs1 cells slots Q (F0 m (pc + 3) ls (rest))) : W p l e R s m args below meth c H locs cells slots Q (F0 m pc ls (va_rf x :: .ref a :: rest)) := hx_putF cx.x cx.b cx.ts i_Tp t_Tp t_Tp_ok n_Tp cx.o cx.K he hlo hB rfl 1 (by decide) (cx.ts _ tw_214) (fun _ h => h) rfl hin2 rfl (t_Tp_ok 1 (by decide)) (by cases x <;> rfl) (by cases x <;> rfl) hl hdg kk
theorem iv_Dc_23_Rw (cx : Cx E p s m args meth c "BaselineText$Declaration" cc nL ret) (hM : Ct l E y_Rw_copy b_Rw_copy 3 none rm (.ref b :: As) H Qc) (hrecv : hOb (eD E) classes H b 0 fs) (hn : As.length = 1) (hsize : ls.size = nL) (hst : st0 = As.reverse ++ .ref b :: rest) (hW : (rest.map fun v => v.category).sum ≤ 8) (hdg : decode cc pc = .ok (.invokevirtual 23, 3)) (hR : rm.frames + 1 ≤ R.frames ∧ 8 + (3 + 11) + rm.locals ≤ R.locals) (hf : cells + rm.cells ≤ R.cells ∧ slots + rm.slots ≤ R.slots) : va_Run p l e R s m args below meth c H locs cells slots rm.cells rm.slots (F0 m pc ls st0) rest (Qc (Value.ref b :: As).toArray) (fun q => eB E ≤ q) := rn_V (y := y_Rw_copy) tw_554 tw_551 tw_552 tw_553 tw_2 ⟨by decide, by decide, by rfl⟩ cx hM (hrecv.recv cx.K rfl) hn hsize hst hW hdg hR hf
theorem gf_Dc_27_Dc (cx : Cx E p s m args meth c "BaselineText$Declaration" cc nL ret) (he : hOb (eD E) classes H a 1 fs) {v : Value} (hv : fs[2]? = some v) (hdg : decode cc pc = .ok (.getfield 27, 3)) (kk : W p l e R s m args below meth c H locs cells slots Q (F0 m (pc + 3) ls (v :: rest))) : W p l e R s m args below meth c H locs cells slots Q (F0 m pc ls (.ref a :: rest)) := hx_get cx.x cx.b cx.ts i_Dc cx.o cx.K he rfl 2 (by decide) (cx.ts _ tw_217) (fun _ h => h) hv hdg kk
theorem pf_Dc_27_Dc (cx : Cx E p s m args meth c "BaselineText$Declaration" cc nL ret) (he : hOb (eD E) classes H a 1 fs) (hlo : hLo (eB E) locs) (hB : eB E ≤ a) {x : Int32} (hl : 2 < fs.length) (hdg : decode cc pc = .ok (.putfield 27, 3)) (kk : ∀ (H1 : Heap) (locs1 : List Loc), hOb (eD E) classes H1 a 1 (fs.set 2 (.int x)) → H1.size = H.size → (∀ q : Nat, q ≠ a → H1[q]? = H[q]?) → hLo (eB E) locs1 → W p l e R s m args below meth c H1 locs1 cells slots Q (F0 m (pc + 3) ls (rest))) : W p l e R s m args below meth c H locs cells slots Q (F0 m pc ls (.int x :: .ref a :: rest)) := hx_put cx.x cx.b cx.ts i_Dc t_Dc t_Dc_ok n_Dc cx.o cx.K he hlo hB rfl 2 (by decide) (cx.ts _ tw_217) (fun _ h => h) rfl (t_Dc_ok 2 (by decide)) rfl rfl hl hdg kk
theorem gf_Dc_27_Tp (cx : Cx E p s m args meth c "BaselineText$Declaration" cc nL ret) (he : hOb (eD E) classes H a 2 fs) {v : Value} (hv : fs[2]? = some v) (hdg : decode cc pc = .ok (.getfield 27, 3)) (kk : W p l e R s m args below meth c H locs cells slots Q (F0 m (pc + 3) ls (v :: rest))) : W p l e R s m args below meth c H locs cells slots Q (F0 m pc ls (.ref a :: rest)) := hx_get cx.x cx.b cx.ts i_Tp cx.o cx.K he rfl 2 (by decide) (cx.ts _ tw_217) (fun _ h => h) hv hdg kk
theorem pf_Dc_27_Tp (cx : Cx E p s m args meth c "BaselineText$Declaration" cc nL ret) (he : hOb (eD E) classes H a 2 fs) (hlo : hLo (eB E) locs) (hB : eB E ≤ a) {x : Int32} (hl : 2 < fs.length) (hdg : decode cc pc = .ok (.putfield 27, 3)) (kk : ∀ (H1 : Heap) (locs1 : List Loc), hOb (eD E) classes H1 a 2 (fs.set 2 (.int x)) → H1.size = H.size → (∀ q : Nat, q ≠ a → H1[q]? = H[q]?) → hLo (eB E) locs1 → W p l e R s m args below meth c H1 locs1 cells slots Q (F0 m (pc + 3) ls (rest))) : W p l e R s m args below meth c H locs cells slots Q (F0 m pc ls (.int x :: .ref a :: rest)) := hx_put cx.x cx.b cx.ts i_Tp t_Tp t_Tp_ok n_Tp cx.o cx.K he hlo hB rfl 2 (by decide) (cx.ts _ tw_217) (fun _ h => h) rfl (t_Tp_ok 2 (by decide)) rfl rfl hl hdg kk
theorem gf_Dc_31_Dc (cx : Cx E p s m args meth c "BaselineText$Declaration" cc nL ret) (he : hOb (eD E) classes H a 1 fs) {v : Value} (hv : fs[3]? = some v) (hdg : decode cc pc = .ok (.getfield 31, 3)) (kk : W p l e R s m args below meth c H locs cells slots Q (F0 m (pc + 3) ls (v :: rest))) : W p l e R s m args below meth c H locs cells slots Q (F0 m pc ls (.ref a :: rest)) := hx_get cx.x cx.b cx.ts i_Dc cx.o cx.K he rfl 3 (by decide) (cx.ts _ tw_222) (fun _ h => h) hv hdg kk
theorem pf_Dc_31_Dc (cx : Cx E p s m args meth c "BaselineText$Declaration" cc nL ret) (he : hOb (eD E) classes H a 1 fs) (hlo : hLo (eB E) locs) (hB : eB E ≤ a) {x : Int32} (hl : 3 < fs.length) (hdg : decode cc pc = .ok (.putfield 31, 3)) (kk : ∀ (H1 : Heap) (locs1 : List Loc), hOb (eD E) classes H1 a 1 (fs.set 3 (.int x)) → H1.size = H.size → (∀ q : Nat, q ≠ a → H1[q]? = H[q]?) → hLo (eB E) locs1 → W p l e R s m args below meth c H1 locs1 cells slots Q (F0 m (pc + 3) ls (rest))) : W p l e R s m args below meth c H locs cells slots Q (F0 m pc ls (.int x :: .ref a :: rest)) := hx_put cx.x cx.b cx.ts i_Dc t_Dc t_Dc_ok n_Dc cx.o cx.K he hlo hB rfl 3 (by decide) (cx.ts _ tw_222) (fun _ h => h) rfl (t_Dc_ok 3 (by decide)) rfl rfl hl hdg kk
theorem gf_Dc_31_Tp (cx : Cx E p s m args meth c "BaselineText$Declaration" cc nL ret) (he : hOb (eD E) classes H a 2 fs) {v : Value} (hv : fs[3]? = some v) (hdg : decode cc pc = .ok (.getfield 31, 3)) (kk : W p l e R s m args below meth c H locs cells slots Q (F0 m (pc + 3) ls (v :: rest))) : W p l e R s m args below meth c H locs cells slots Q (F0 m pc ls (.ref a :: rest)) := hx_get cx.x cx.b cx.ts i_Tp cx.o cx.K he rfl 3 (by decide) (cx.ts _ tw_222) (fun _ h => h) hv hdg kk
theorem pf_Dc_31_Tp (cx : Cx E p s m args meth c "BaselineText$Declaration" cc nL ret) (he : hOb (eD E) classes H a 2 fs) (hlo : hLo (eB E) locs) (hB : eB E ≤ a) {x : Int32} (hl : 3 < fs.length) (hdg : decode cc pc = .ok (.putfield 31, 3)) (kk : ∀ (H1 : Heap) (locs1 : List Loc), hOb (eD E) classes H1 a 2 (fs.set 3 (.int x)) → H1.size = H.size → (∀ q : Nat, q ≠ a → H1[q]? = H[q]?) → hLo (eB E) locs1 → W p l e R s m args below meth c H1 locs1 cells slots Q (F0 m (pc + 3) ls (rest))) : W p l e R s m args below meth c H locs cells slots Q (F0 m pc ls (.int x :: .ref a :: rest)) := hx_put cx.x cx.b cx.ts i_Tp t_Tp t_Tp_ok n_Tp cx.o cx.K he hlo hB rfl 3 (by decide) (cx.ts _ tw_222) (fun _ h => h) rfl (t_Tp_ok 3 (by decide)) rfl rfl hl hdg kk
theorem iv_Dc_34_Rw (cx : Cx E p s m args meth c "BaselineText$Declaration" cc nL ret) (hM : Ct l E y_Rw_compare b_Rw_compare 3 (some .int) rm (.ref b :: As) H Qc) (hrecv : hOb (eD E) classes H b 0 fs) (hn : As.length = 1) (hsize : ls.size = nL) (hst : st0 = As.reverse ++ .ref b :: rest) (hW : (rest.map fun v => v.category).sum ≤ 8) (hdg : decode cc pc = .ok (.invokevirtual 34, 3)) (hR : rm.frames + 1 ≤ R.frames ∧ 8 + (3 + 11) + rm.locals ≤ R.locals) (hf : cells + rm.cells ≤ R.cells ∧ slots + rm.slots ≤ R.slots) : va_Run p l e R s m args below meth c H locs cells slots rm.cells rm.slots (F0 m pc ls st0) rest (Qc (Value.ref b :: As).toArray) (fun q => eB E ≤ q) := rn_V (y := y_Rw_compare) tw_519 tw_516 tw_517 tw_518 tw_2 ⟨by decide, by decide, by rfl⟩ cx hM (hrecv.recv cx.K rfl) hn hsize hst hW hdg hR hf
theorem iv_Dc_38_Dc (cx : Cx E p s m args meth c "BaselineText$Declaration" cc nL ret) (hM : Ct l E y_Dc_compare b_Dc_compare 3 (some .int) rm (.ref b :: As) H Qc) (hrecv : hOb (eD E) classes H b 1 fs) (hn : As.length = 1) (hsize : ls.size = nL) (hst : st0 = As.reverse ++ .ref b :: rest) (hW : (rest.map fun v => v.category).sum ≤ 8) (hdg : decode cc pc = .ok (.invokevirtual 38, 3)) (hR : rm.frames + 1 ≤ R.frames ∧ 8 + (3 + 11) + rm.locals ≤ R.locals) (hf : cells + rm.cells ≤ R.cells ∧ slots + rm.slots ≤ R.slots) : va_Run p l e R s m args below meth c H locs cells slots rm.cells rm.slots (F0 m pc ls st0) rest (Qc (Value.ref b :: As).toArray) (fun q => eB E ≤ q) := rn_V (y := y_Dc_compare) tw_515 tw_759 tw_511 tw_512 tw_11 ⟨by decide, by decide, by rfl⟩ cx hM (hrecv.recv cx.K rfl) hn hsize hst hW hdg hR hf
theorem iv_Dc_38_Tp (cx : Cx E p s m args meth c "BaselineText$Declaration" cc nL ret) (hM : Ct l E y_Dc_compare b_Dc_compare 3 (some .int) rm (.ref b :: As) H Qc) (hrecv : hOb (eD E) classes H b 2 fs) (hn : As.length = 1) (hsize : ls.size = nL) (hst : st0 = As.reverse ++ .ref b :: rest) (hW : (rest.map fun v => v.category).sum ≤ 8) (hdg : decode cc pc = .ok (.invokevirtual 38, 3)) (hR : rm.frames + 1 ≤ R.frames ∧ 8 + (3 + 11) + rm.locals ≤ R.locals) (hf : cells + rm.cells ≤ R.cells ∧ slots + rm.slots ≤ R.slots) : va_Run p l e R s m args below meth c H locs cells slots rm.cells rm.slots (F0 m pc ls st0) rest (Qc (Value.ref b :: As).toArray) (fun q => eB E ≤ q) := rn_V (y := y_Dc_compare) tw_515 tw_759 tw_511 tw_514 tw_11 ⟨by decide, by decide, by rfl⟩ cx hM (hrecv.recv cx.K rfl) hn hsize hst hW hdg hR hf
theorem iv_Dc_41_Rw (cx : Cx E p s m args meth c "BaselineText$Declaration" cc nL ret) (hM : Ct l E y_Rw_contains b_Rw_contains 3 (some .boolean) rm (.ref b :: As) H Qc) (hrecv : hOb (eD E) classes H b 0 fs) (hn : As.length = 1) (hsize : ls.size = nL) (hst : st0 = As.reverse ++ .ref b :: rest) (hW : (rest.map fun v => v.category).sum ≤ 8) (hdg : decode cc pc = .ok (.invokevirtual 41, 3)) (hR : rm.frames + 1 ≤ R.frames ∧ 8 + (3 + 11) + rm.locals ≤ R.locals) (hf : cells + rm.cells ≤ R.cells ∧ slots + rm.slots ≤ R.slots) : va_Run p l e R s m args below meth c H locs cells slots rm.cells rm.slots (F0 m pc ls st0) rest (Qc (Value.ref b :: As).toArray) (fun q => eB E ≤ q) := rn_V (y := y_Rw_contains) tw_787 tw_784 tw_785 tw_786 tw_2 ⟨by decide, by decide, by rfl⟩ cx hM (hrecv.recv cx.K rfl) hn hsize hst hW hdg hR hf
theorem iv_Dc_47_Rw (cx : Cx E p s m args meth c "BaselineText$Declaration" cc nL ret) (hM : Ct l E y_Rw_addWord b_Rw_addWord 3 none rm (.ref b :: As) H Qc) (hrecv : hOb (eD E) classes H b 0 fs) (hn : As.length = 1) (hsize : ls.size = nL) (hst : st0 = As.reverse ++ .ref b :: rest) (hW : (rest.map fun v => v.category).sum ≤ 8) (hdg : decode cc pc = .ok (.invokevirtual 47, 3)) (hR : rm.frames + 1 ≤ R.frames ∧ 8 + (3 + 11) + rm.locals ≤ R.locals) (hf : cells + rm.cells ≤ R.cells ∧ slots + rm.slots ≤ R.slots) : va_Run p l e R s m args below meth c H locs cells slots rm.cells rm.slots (F0 m pc ls st0) rest (Qc (Value.ref b :: As).toArray) (fun q => eB E ≤ q) := rn_V (y := y_Rw_addWord) tw_676 tw_685 tw_674 tw_675 tw_2 ⟨by decide, by decide, by rfl⟩ cx hM (hrecv.recv cx.K rfl) hn hsize hst hW hdg hR hf
theorem iv_Dc_51 (cx : Cx E p s m args meth c "BaselineText$Declaration" cc nL ret) (hM : Ct l E y_Vo_marks b_Vo_marks 1 (some .int) rm As H Qc) (hn : As.length = 1) (hsize : ls.size = nL) (hst : st0 = As.reverse ++ rest) (hW : (rest.map fun v => v.category).sum ≤ 8) (hdg : decode cc pc = .ok (.invokestatic 51, 3)) (hR : rm.frames + 1 ≤ R.frames ∧ 8 + (1 + 11) + rm.locals ≤ R.locals) (hf : cells + rm.cells ≤ R.cells ∧ slots + rm.slots ≤ R.slots) : va_Run p l e R s m args below meth c H locs cells slots rm.cells rm.slots (F0 m pc ls st0) rest (Qc (As).toArray) (fun q => eB E ≤ q) := rn_S (y := y_Vo_marks) tw_396 tw_686 tw_395 tw_17 ⟨by decide, by decide, by rfl⟩ cx hM hn hsize hst hW hdg hR hf
theorem iv_Dc_56 (cx : Cx E p s m args meth c "BaselineText$Declaration" cc nL ret) (hM : Ct l E y_Vo_mark b_Vo_mark 2 (some (.object "java/lang/String")) rm As H Qc) (hn : As.length = 2) (hsize : ls.size = nL) (hst : st0 = As.reverse ++ rest) (hW : (rest.map fun v => v.category).sum ≤ 8) (hdg : decode cc pc = .ok (.invokestatic 56, 3)) (hR : rm.frames + 1 ≤ R.frames ∧ 8 + (2 + 11) + rm.locals ≤ R.locals) (hf : cells + rm.cells ≤ R.cells ∧ slots + rm.slots ≤ R.slots) : va_Run p l e R s m args below meth c H locs cells slots rm.cells rm.slots (F0 m pc ls st0) rest (Qc (As).toArray) (fun q => eB E ≤ q) := rn_S (y := y_Vo_mark) tw_403 tw_687 tw_402 tw_17 ⟨by decide, by decide, by rfl⟩ cx hM hn hsize hst hW hdg hR hf
theorem iv_Dc_60_Rw (cx : Cx E p s m args meth c "BaselineText$Declaration" cc nL ret) (hM : Ct l E y_Rw_add b_Rw_add 2 none rm (.ref b :: As) H Qc) (hrecv : hOb (eD E) classes H b 0 fs) (hn : As.length = 1) (hsize : ls.size = nL) (hst : st0 = As.reverse ++ .ref b :: rest) (hW : (rest.map fun v => v.category).sum ≤ 8) (hdg : decode cc pc = .ok (.invokevirtual 60, 3)) (hR : rm.frames + 1 ≤ R.frames ∧ 8 + (2 + 11) + rm.locals ≤ R.locals) (hf : cells + rm.cells ≤ R.cells ∧ slots + rm.slots ≤ R.slots) : va_Run p l e R s m args below meth c H locs cells slots rm.cells rm.slots (F0 m pc ls st0) rest (Qc (Value.ref b :: As).toArray) (fun q => eB E ≤ q) := rn_V (y := y_Rw_add) tw_165 tw_688 tw_163 tw_164 tw_2 ⟨by decide, by decide, by rfl⟩ cx hM (hrecv.recv cx.K rfl) hn hsize hst hW hdg hR hf
theorem iv_Dc_63 (cx : Cx E p s m args meth c "BaselineText$Declaration" cc nL ret) (hM : Ct l E y_Vo_kind b_Vo_kind 2 (some (.object "java/lang/String")) rm As H Qc) (hn : As.length = 2) (hsize : ls.size = nL) (hst : st0 = As.reverse ++ rest) (hW : (rest.map fun v => v.category).sum ≤ 8) (hdg : decode cc pc = .ok (.invokestatic 63, 3)) (hR : rm.frames + 1 ≤ R.frames ∧ 8 + (2 + 11) + rm.locals ≤ R.locals) (hf : cells + rm.cells ≤ R.cells ∧ slots + rm.slots ≤ R.slots) : va_Run p l e R s m args below meth c H locs cells slots rm.cells rm.slots (F0 m pc ls st0) rest (Qc (As).toArray) (fun q => eB E ≤ q) := rn_S (y := y_Vo_kind) tw_424 tw_689 tw_423 tw_17 ⟨by decide, by decide, by rfl⟩ cx hM hn hsize hst hW hdg hR hf
theorem iv_Dc_65_Rw (cx : Cx E p s m args meth c "BaselineText$Declaration" cc nL ret) (hM : Ct l E y_Rw_addName b_Rw_addName 4 none rm (.ref b :: As) H Qc) (hrecv : hOb (eD E) classes H b 0 fs) (hn : As.length = 2) (hsize : ls.size = nL) (hst : st0 = As.reverse ++ .ref b :: rest) (hW : (rest.map fun v => v.category).sum ≤ 8) (hdg : decode cc pc = .ok (.invokevirtual 65, 3)) (hR : rm.frames + 1 ≤ R.frames ∧ 8 + (4 + 11) + rm.locals ≤ R.locals) (hf : cells + rm.cells ≤ R.cells ∧ slots + rm.slots ≤ R.slots) : va_Run p l e R s m args below meth c H locs cells slots rm.cells rm.slots (F0 m pc ls st0) rest (Qc (Value.ref b :: As).toArray) (fun q => eB E ≤ q) := rn_V (y := y_Rw_addName) tw_693 tw_690 tw_691 tw_692 tw_2 ⟨by decide, by decide, by rfl⟩ cx hM (hrecv.recv cx.K rfl) hn hsize hst hW hdg hR hf
theorem gf_Dg_9_Dg (cx : Cx E p s m args meth c "BaselineText$Diagnostics" cc nL ret) (he : hOb (eD E) classes H a 6 fs) {v : Value} (hv : fs[0]? = some v) (hdg : decode cc pc = .ok (.getfield 9, 3)) (kk : W p l e R s m args below meth c H locs cells slots Q (F0 m (pc + 3) ls (v :: rest))) : W p l e R s m args below meth c H locs cells slots Q (F0 m pc ls (.ref a :: rest)) := hx_get cx.x cx.b cx.ts i_Dg cx.o cx.K he rfl 0 (by decide) (cx.ts _ tw_56) (fun _ h => h) hv hdg kk
theorem pf_Dg_9_Dg (cx : Cx E p s m args meth c "BaselineText$Diagnostics" cc nL ret) (hin2 : meth.name = "<init>") (he : hOb (eD E) classes H a 6 fs) (hlo : hLo (eB E) locs) (hB : eB E ≤ a) {x : Option Nat} (hl : 0 < fs.length) (hdg : decode cc pc = .ok (.putfield 9, 3)) (kk : ∀ (H1 : Heap) (locs1 : List Loc), hOb (eD E) classes H1 a 6 (fs.set 0 (va_rf x)) → H1.size = H.size → (∀ q : Nat, q ≠ a → H1[q]? = H[q]?) → hLo (eB E) locs1 → W p l e R s m args below meth c H1 locs1 cells slots Q (F0 m (pc + 3) ls (rest))) : W p l e R s m args below meth c H locs cells slots Q (F0 m pc ls (va_rf x :: .ref a :: rest)) := hx_putF cx.x cx.b cx.ts i_Dg t_Dg t_Dg_ok n_Dg cx.o cx.K he hlo hB rfl 0 (by decide) (cx.ts _ tw_56) (fun _ h => h) rfl hin2 rfl (t_Dg_ok 0 (by decide)) (by cases x <;> rfl) (by cases x <;> rfl) hl hdg kk
theorem gf_Dg_15_Dg (cx : Cx E p s m args meth c "BaselineText$Diagnostics" cc nL ret) (he : hOb (eD E) classes H a 6 fs) {v : Value} (hv : fs[1]? = some v) (hdg : decode cc pc = .ok (.getfield 15, 3)) (kk : W p l e R s m args below meth c H locs cells slots Q (F0 m (pc + 3) ls (v :: rest))) : W p l e R s m args below meth c H locs cells slots Q (F0 m pc ls (.ref a :: rest)) := hx_get cx.x cx.b cx.ts i_Dg cx.o cx.K he rfl 1 (by decide) (cx.ts _ tw_58) (fun _ h => h) hv hdg kk
theorem pf_Dg_15_Dg (cx : Cx E p s m args meth c "BaselineText$Diagnostics" cc nL ret) (hin2 : meth.name = "<init>") (he : hOb (eD E) classes H a 6 fs) (hlo : hLo (eB E) locs) (hB : eB E ≤ a) {x : Option Nat} (hl : 1 < fs.length) (hdg : decode cc pc = .ok (.putfield 15, 3)) (kk : ∀ (H1 : Heap) (locs1 : List Loc), hOb (eD E) classes H1 a 6 (fs.set 1 (va_rf x)) → H1.size = H.size → (∀ q : Nat, q ≠ a → H1[q]? = H[q]?) → hLo (eB E) locs1 → W p l e R s m args below meth c H1 locs1 cells slots Q (F0 m (pc + 3) ls (rest))) : W p l e R s m args below meth c H locs cells slots Q (F0 m pc ls (va_rf x :: .ref a :: rest)) := hx_putF cx.x cx.b cx.ts i_Dg t_Dg t_Dg_ok n_Dg cx.o cx.K he hlo hB rfl 1 (by decide) (cx.ts _ tw_58) (fun _ h => h) rfl hin2 rfl (t_Dg_ok 1 (by decide)) (by cases x <;> rfl) (by cases x <;> rfl) hl hdg kk
theorem gf_Dg_18_Dg (cx : Cx E p s m args meth c "BaselineText$Diagnostics" cc nL ret) (he : hOb (eD E) classes H a 6 fs) {v : Value} (hv : fs[2]? = some v) (hdg : decode cc pc = .ok (.getfield 18, 3)) (kk : W p l e R s m args below meth c H locs cells slots Q (F0 m (pc + 3) ls (v :: rest))) : W p l e R s m args below meth c H locs cells slots Q (F0 m pc ls (.ref a :: rest)) := hx_get cx.x cx.b cx.ts i_Dg cx.o cx.K he rfl 2 (by decide) (cx.ts _ tw_60) (fun _ h => h) hv hdg kk
theorem pf_Dg_18_Dg (cx : Cx E p s m args meth c "BaselineText$Diagnostics" cc nL ret) (hin2 : meth.name = "<init>") (he : hOb (eD E) classes H a 6 fs) (hlo : hLo (eB E) locs) (hB : eB E ≤ a) {x : Option Nat} (hl : 2 < fs.length) (hdg : decode cc pc = .ok (.putfield 18, 3)) (kk : ∀ (H1 : Heap) (locs1 : List Loc), hOb (eD E) classes H1 a 6 (fs.set 2 (va_rf x)) → H1.size = H.size → (∀ q : Nat, q ≠ a → H1[q]? = H[q]?) → hLo (eB E) locs1 → W p l e R s m args below meth c H1 locs1 cells slots Q (F0 m (pc + 3) ls (rest))) : W p l e R s m args below meth c H locs cells slots Q (F0 m pc ls (va_rf x :: .ref a :: rest)) := hx_putF cx.x cx.b cx.ts i_Dg t_Dg t_Dg_ok n_Dg cx.o cx.K he hlo hB rfl 2 (by decide) (cx.ts _ tw_60) (fun _ h => h) rfl hin2 rfl (t_Dg_ok 2 (by decide)) (by cases x <;> rfl) (by cases x <;> rfl) hl hdg kk
theorem gf_Dg_21_Dg (cx : Cx E p s m args meth c "BaselineText$Diagnostics" cc nL ret) (he : hOb (eD E) classes H a 6 fs) {v : Value} (hv : fs[3]? = some v) (hdg : decode cc pc = .ok (.getfield 21, 3)) (kk : W p l e R s m args below meth c H locs cells slots Q (F0 m (pc + 3) ls (v :: rest))) : W p l e R s m args below meth c H locs cells slots Q (F0 m pc ls (.ref a :: rest)) := hx_get cx.x cx.b cx.ts i_Dg cx.o cx.K he rfl 3 (by decide) (cx.ts _ tw_62) (fun _ h => h) hv hdg kk
theorem pf_Dg_21_Dg (cx : Cx E p s m args meth c "BaselineText$Diagnostics" cc nL ret) (he : hOb (eD E) classes H a 6 fs) (hlo : hLo (eB E) locs) (hB : eB E ≤ a) {x : Int32} (hl : 3 < fs.length) (hdg : decode cc pc = .ok (.putfield 21, 3)) (kk : ∀ (H1 : Heap) (locs1 : List Loc), hOb (eD E) classes H1 a 6 (fs.set 3 (.int x)) → H1.size = H.size → (∀ q : Nat, q ≠ a → H1[q]? = H[q]?) → hLo (eB E) locs1 → W p l e R s m args below meth c H1 locs1 cells slots Q (F0 m (pc + 3) ls (rest))) : W p l e R s m args below meth c H locs cells slots Q (F0 m pc ls (.int x :: .ref a :: rest)) := hx_put cx.x cx.b cx.ts i_Dg t_Dg t_Dg_ok n_Dg cx.o cx.K he hlo hB rfl 3 (by decide) (cx.ts _ tw_62) (fun _ h => h) rfl (t_Dg_ok 3 (by decide)) rfl rfl hl hdg kk
theorem iv_Dg_25 (cx : Cx E p s m args meth c "BaselineText$Diagnostics" cc nL ret) (hM : Ct l E y_Ma_min b_Ma_min 2 (some .int) rm As H Qc) (hn : As.length = 2) (hsize : ls.size = nL) (hst : st0 = As.reverse ++ rest) (hW : (rest.map fun v => v.category).sum ≤ 8) (hdg : decode cc pc = .ok (.invokestatic 25, 3)) (hR : rm.frames + 1 ≤ R.frames ∧ 8 + (2 + 11) + rm.locals ≤ R.locals) (hf : cells + rm.cells ≤ R.cells ∧ slots + rm.slots ≤ R.slots) : va_Run p l e R s m args below meth c H locs cells slots rm.cells rm.slots (F0 m pc ls st0) rest (Qc (As).toArray) (fun q => eB E ≤ q) := rn_S (y := y_Ma_min) tw_613 tw_717 tw_612 tw_22 ⟨by decide, by decide, by rfl⟩ cx hM hn hsize hst hW hdg hR hf
theorem iv_Gr_10_Rw (cx : Cx E p s m args meth c "BaselineText$Grammar" cc nL ret) (hM : Ct l E y_Rw_isWord b_Rw_isWord 3 (some .boolean) rm (.ref b :: As) H Qc) (hrecv : hOb (eD E) classes H b 0 fs) (hn : As.length = 1) (hsize : ls.size = nL) (hst : st0 = As.reverse ++ .ref b :: rest) (hW : (rest.map fun v => v.category).sum ≤ 8) (hdg : decode cc pc = .ok (.invokevirtual 10, 3)) (hR : rm.frames + 1 ≤ R.frames ∧ 8 + (3 + 11) + rm.locals ≤ R.locals) (hf : cells + rm.cells ≤ R.cells ∧ slots + rm.slots ≤ R.slots) : va_Run p l e R s m args below meth c H locs cells slots rm.cells rm.slots (F0 m pc ls st0) rest (Qc (Value.ref b :: As).toArray) (fun q => eB E ≤ q) := rn_V (y := y_Rw_isWord) tw_450 tw_447 tw_448 tw_449 tw_2 ⟨by decide, by decide, by rfl⟩ cx hM (hrecv.recv cx.K rfl) hn hsize hst hW hdg hR hf
theorem iv_Gr_18_Rw (cx : Cx E p s m args meth c "BaselineText$Grammar" cc nL ret) (hM : Ct l E y_Rw_fits b_Rw_fits 1 (some .boolean) rm (.ref b :: As) H Qc) (hrecv : hOb (eD E) classes H b 0 fs) (hn : As.length = 0) (hsize : ls.size = nL) (hst : st0 = As.reverse ++ .ref b :: rest) (hW : (rest.map fun v => v.category).sum ≤ 8) (hdg : decode cc pc = .ok (.invokevirtual 18, 3)) (hR : rm.frames + 1 ≤ R.frames ∧ 8 + (1 + 11) + rm.locals ≤ R.locals) (hf : cells + rm.cells ≤ R.cells ∧ slots + rm.slots ≤ R.slots) : va_Run p l e R s m args below meth c H locs cells slots rm.cells rm.slots (F0 m pc ls st0) rest (Qc (Value.ref b :: As).toArray) (fun q => eB E ≤ q) := rn_V (y := y_Rw_fits) tw_456 tw_453 tw_454 tw_455 tw_2 ⟨by decide, by decide, by rfl⟩ cx hM (hrecv.recv cx.K rfl) hn hsize hst hW hdg hR hf
theorem iv_Gr_22 (cx : Cx E p s m args meth c "BaselineText$Grammar" cc nL ret) (hM : Ct l E y_Gr_nameEnd b_Gr_nameEnd 6 (some .int) rm As H Qc) (hn : As.length = 3) (hsize : ls.size = nL) (hst : st0 = As.reverse ++ rest) (hW : (rest.map fun v => v.category).sum ≤ 8) (hdg : decode cc pc = .ok (.invokestatic 22, 3)) (hR : rm.frames + 1 ≤ R.frames ∧ 8 + (6 + 11) + rm.locals ≤ R.locals) (hf : cells + rm.cells ≤ R.cells ∧ slots + rm.slots ≤ R.slots) : va_Run p l e R s m args below meth c H locs cells slots rm.cells rm.slots (F0 m pc ls st0) rest (Qc (As).toArray) (fun q => eB E ≤ q) := rn_S (y := y_Gr_nameEnd) tw_459 tw_457 tw_458 tw_18 ⟨by decide, by decide, by rfl⟩ cx hM hn hsize hst hW hdg hR hf
theorem iv_Gr_26_Rw (cx : Cx E p s m args meth c "BaselineText$Grammar" cc nL ret) (hM : Ct l E y_Rw_length b_Rw_length 1 (some .int) rm (.ref b :: As) H Qc) (hrecv : hOb (eD E) classes H b 0 fs) (hn : As.length = 0) (hsize : ls.size = nL) (hst : st0 = As.reverse ++ .ref b :: rest) (hW : (rest.map fun v => v.category).sum ≤ 8) (hdg : decode cc pc = .ok (.invokevirtual 26, 3)) (hR : rm.frames + 1 ≤ R.frames ∧ 8 + (1 + 11) + rm.locals ≤ R.locals) (hf : cells + rm.cells ≤ R.cells ∧ slots + rm.slots ≤ R.slots) : va_Run p l e R s m args below meth c H locs cells slots rm.cells rm.slots (F0 m pc ls st0) rest (Qc (Value.ref b :: As).toArray) (fun q => eB E ≤ q) := rn_V (y := y_Rw_length) tw_155 tw_460 tw_153 tw_154 tw_2 ⟨by decide, by decide, by rfl⟩ cx hM (hrecv.recv cx.K rfl) hn hsize hst hW hdg hR hf
theorem iv_Gr_30 (cx : Cx E p s m args meth c "BaselineText$Grammar" cc nL ret) (hM : Ct l E y_Gr_fieldEnd b_Gr_fieldEnd 4 (some .int) rm As H Qc) (hn : As.length = 2) (hsize : ls.size = nL) (hst : st0 = As.reverse ++ rest) (hW : (rest.map fun v => v.category).sum ≤ 8) (hdg : decode cc pc = .ok (.invokestatic 30, 3)) (hR : rm.frames + 1 ≤ R.frames ∧ 8 + (4 + 11) + rm.locals ≤ R.locals) (hf : cells + rm.cells ≤ R.cells ∧ slots + rm.slots ≤ R.slots) : va_Run p l e R s m args below meth c H locs cells slots rm.cells rm.slots (F0 m pc ls st0) rest (Qc (As).toArray) (fun q => eB E ≤ q) := rn_S (y := y_Gr_fieldEnd) tw_474 tw_472 tw_473 tw_18 ⟨by decide, by decide, by rfl⟩ cx hM hn hsize hst hW hdg hR hf
theorem iv_Gr_34_Rw (cx : Cx E p s m args meth c "BaselineText$Grammar" cc nL ret) (hM : Ct l E y_Rw_at b_Rw_at 2 (some .int) rm (.ref b :: As) H Qc) (hrecv : hOb (eD E) classes H b 0 fs) (hn : As.length = 1) (hsize : ls.size = nL) (hst : st0 = As.reverse ++ .ref b :: rest) (hW : (rest.map fun v => v.category).sum ≤ 8) (hdg : decode cc pc = .ok (.invokevirtual 34, 3)) (hR : rm.frames + 1 ≤ R.frames ∧ 8 + (2 + 11) + rm.locals ≤ R.locals) (hf : cells + rm.cells ≤ R.cells ∧ slots + rm.slots ≤ R.slots) : va_Run p l e R s m args below meth c H locs cells slots rm.cells rm.slots (F0 m pc ls st0) rest (Qc (Value.ref b :: As).toArray) (fun q => eB E ≤ q) := rn_V (y := y_Rw_at) tw_286 tw_461 tw_284 tw_285 tw_2 ⟨by decide, by decide, by rfl⟩ cx hM (hrecv.recv cx.K rfl) hn hsize hst hW hdg hR hf
theorem iv_Gr_38 (cx : Cx E p s m args meth c "BaselineText$Grammar" cc nL ret) (hM : Ct l E y_Gr_isBase b_Gr_isBase 1 (some .boolean) rm As H Qc) (hn : As.length = 1) (hsize : ls.size = nL) (hst : st0 = As.reverse ++ rest) (hW : (rest.map fun v => v.category).sum ≤ 8) (hdg : decode cc pc = .ok (.invokestatic 38, 3)) (hR : rm.frames + 1 ≤ R.frames ∧ 8 + (1 + 11) + rm.locals ≤ R.locals) (hf : cells + rm.cells ≤ R.cells ∧ slots + rm.slots ≤ R.slots) : va_Run p l e R s m args below meth c H locs cells slots rm.cells rm.slots (F0 m pc ls st0) rest (Qc (As).toArray) (fun q => eB E ≤ q) := rn_S (y := y_Gr_isBase) tw_477 tw_475 tw_476 tw_18 ⟨by decide, by decide, by rfl⟩ cx hM hn hsize hst hW hdg hR hf
theorem iv_Gr_42 (cx : Cx E p s m args meth c "BaselineText$Grammar" cc nL ret) (hM : Ct l E y_Gr_isLetter b_Gr_isLetter 1 (some .boolean) rm As H Qc) (hn : As.length = 1) (hsize : ls.size = nL) (hst : st0 = As.reverse ++ rest) (hW : (rest.map fun v => v.category).sum ≤ 8) (hdg : decode cc pc = .ok (.invokestatic 42, 3)) (hR : rm.frames + 1 ≤ R.frames ∧ 8 + (1 + 11) + rm.locals ≤ R.locals) (hf : cells + rm.cells ≤ R.cells ∧ slots + rm.slots ≤ R.slots) : va_Run p l e R s m args below meth c H locs cells slots rm.cells rm.slots (F0 m pc ls st0) rest (Qc (As).toArray) (fun q => eB E ≤ q) := rn_S (y := y_Gr_isLetter) tw_464 tw_462 tw_463 tw_18 ⟨by decide, by decide, by rfl⟩ cx hM hn hsize hst hW hdg hR hf
theorem iv_Gr_45 (cx : Cx E p s m args meth c "BaselineText$Grammar" cc nL ret) (hM : Ct l E y_Gr_isDigit b_Gr_isDigit 1 (some .boolean) rm As H Qc) (hn : As.length = 1) (hsize : ls.size = nL) (hst : st0 = As.reverse ++ rest) (hW : (rest.map fun v => v.category).sum ≤ 8) (hdg : decode cc pc = .ok (.invokestatic 45, 3)) (hR : rm.frames + 1 ≤ R.frames ∧ 8 + (1 + 11) + rm.locals ≤ R.locals) (hf : cells + rm.cells ≤ R.cells ∧ slots + rm.slots ≤ R.slots) : va_Run p l e R s m args below meth c H locs cells slots rm.cells rm.slots (F0 m pc ls st0) rest (Qc (As).toArray) (fun q => eB E ≤ q) := rn_S (y := y_Gr_isDigit) tw_467 tw_465 tw_466 tw_18 ⟨by decide, by decide, by rfl⟩ cx hM hn hsize hst hW hdg hR hf
theorem gf_Ln_9_Ln (cx : Cx E p s m args meth c "BaselineText$Line" cc nL ret) (he : hOb (eD E) classes H a 7 fs) {v : Value} (hv : fs[0]? = some v) (hdg : decode cc pc = .ok (.getfield 9, 3)) (kk : W p l e R s m args below meth c H locs cells slots Q (F0 m (pc + 3) ls (v :: rest))) : W p l e R s m args below meth c H locs cells slots Q (F0 m pc ls (.ref a :: rest)) := hx_get cx.x cx.b cx.ts i_Ln cx.o cx.K he rfl 0 (by decide) (cx.ts _ tw_242) (fun _ h => h) hv hdg kk
theorem pf_Ln_9_Ln (cx : Cx E p s m args meth c "BaselineText$Line" cc nL ret) (hin2 : meth.name = "<init>") (he : hOb (eD E) classes H a 7 fs) (hlo : hLo (eB E) locs) (hB : eB E ≤ a) {x : Option Nat} (hl : 0 < fs.length) (hdg : decode cc pc = .ok (.putfield 9, 3)) (kk : ∀ (H1 : Heap) (locs1 : List Loc), hOb (eD E) classes H1 a 7 (fs.set 0 (va_rf x)) → H1.size = H.size → (∀ q : Nat, q ≠ a → H1[q]? = H[q]?) → hLo (eB E) locs1 → W p l e R s m args below meth c H1 locs1 cells slots Q (F0 m (pc + 3) ls (rest))) : W p l e R s m args below meth c H locs cells slots Q (F0 m pc ls (va_rf x :: .ref a :: rest)) := hx_putF cx.x cx.b cx.ts i_Ln t_Ln t_Ln_ok n_Ln cx.o cx.K he hlo hB rfl 0 (by decide) (cx.ts _ tw_242) (fun _ h => h) rfl hin2 rfl (t_Ln_ok 0 (by decide)) (by cases x <;> rfl) (by cases x <;> rfl) hl hdg kk
theorem gf_Ln_15_Ln (cx : Cx E p s m args meth c "BaselineText$Line" cc nL ret) (he : hOb (eD E) classes H a 7 fs) {v : Value} (hv : fs[1]? = some v) (hdg : decode cc pc = .ok (.getfield 15, 3)) (kk : W p l e R s m args below meth c H locs cells slots Q (F0 m (pc + 3) ls (v :: rest))) : W p l e R s m args below meth c H locs cells slots Q (F0 m pc ls (.ref a :: rest)) := hx_get cx.x cx.b cx.ts i_Ln cx.o cx.K he rfl 1 (by decide) (cx.ts _ tw_243) (fun _ h => h) hv hdg kk
theorem pf_Ln_15_Ln (cx : Cx E p s m args meth c "BaselineText$Line" cc nL ret) (he : hOb (eD E) classes H a 7 fs) (hlo : hLo (eB E) locs) (hB : eB E ≤ a) {x : Int32} (hl : 1 < fs.length) (hdg : decode cc pc = .ok (.putfield 15, 3)) (kk : ∀ (H1 : Heap) (locs1 : List Loc), hOb (eD E) classes H1 a 7 (fs.set 1 (.int x)) → H1.size = H.size → (∀ q : Nat, q ≠ a → H1[q]? = H[q]?) → hLo (eB E) locs1 → W p l e R s m args below meth c H1 locs1 cells slots Q (F0 m (pc + 3) ls (rest))) : W p l e R s m args below meth c H locs cells slots Q (F0 m pc ls (.int x :: .ref a :: rest)) := hx_put cx.x cx.b cx.ts i_Ln t_Ln t_Ln_ok n_Ln cx.o cx.K he hlo hB rfl 1 (by decide) (cx.ts _ tw_243) (fun _ h => h) rfl (t_Ln_ok 1 (by decide)) rfl rfl hl hdg kk
theorem gf_Ln_19_Ln (cx : Cx E p s m args meth c "BaselineText$Line" cc nL ret) (he : hOb (eD E) classes H a 7 fs) {v : Value} (hv : fs[2]? = some v) (hdg : decode cc pc = .ok (.getfield 19, 3)) (kk : W p l e R s m args below meth c H locs cells slots Q (F0 m (pc + 3) ls (v :: rest))) : W p l e R s m args below meth c H locs cells slots Q (F0 m pc ls (.ref a :: rest)) := hx_get cx.x cx.b cx.ts i_Ln cx.o cx.K he rfl 2 (by decide) (cx.ts _ tw_244) (fun _ h => h) hv hdg kk
theorem pf_Ln_19_Ln (cx : Cx E p s m args meth c "BaselineText$Line" cc nL ret) (he : hOb (eD E) classes H a 7 fs) (hlo : hLo (eB E) locs) (hB : eB E ≤ a) {x : Int32} (hl : 2 < fs.length) (hdg : decode cc pc = .ok (.putfield 19, 3)) (kk : ∀ (H1 : Heap) (locs1 : List Loc), hOb (eD E) classes H1 a 7 (fs.set 2 (.int x)) → H1.size = H.size → (∀ q : Nat, q ≠ a → H1[q]? = H[q]?) → hLo (eB E) locs1 → W p l e R s m args below meth c H1 locs1 cells slots Q (F0 m (pc + 3) ls (rest))) : W p l e R s m args below meth c H locs cells slots Q (F0 m pc ls (.int x :: .ref a :: rest)) := hx_put cx.x cx.b cx.ts i_Ln t_Ln t_Ln_ok n_Ln cx.o cx.K he hlo hB rfl 2 (by decide) (cx.ts _ tw_244) (fun _ h => h) rfl (t_Ln_ok 2 (by decide)) rfl rfl hl hdg kk
theorem iv_Ln_22_Rw (cx : Cx E p s m args meth c "BaselineText$Line" cc nL ret) (hM : Ct l E y_Rw_at b_Rw_at 2 (some .int) rm (.ref b :: As) H Qc) (hrecv : hOb (eD E) classes H b 0 fs) (hn : As.length = 1) (hsize : ls.size = nL) (hst : st0 = As.reverse ++ .ref b :: rest) (hW : (rest.map fun v => v.category).sum ≤ 8) (hdg : decode cc pc = .ok (.invokevirtual 22, 3)) (hR : rm.frames + 1 ≤ R.frames ∧ 8 + (2 + 11) + rm.locals ≤ R.locals) (hf : cells + rm.cells ≤ R.cells ∧ slots + rm.slots ≤ R.slots) : va_Run p l e R s m args below meth c H locs cells slots rm.cells rm.slots (F0 m pc ls st0) rest (Qc (Value.ref b :: As).toArray) (fun q => eB E ≤ q) := rn_V (y := y_Rw_at) tw_286 tw_295 tw_284 tw_285 tw_2 ⟨by decide, by decide, by rfl⟩ cx hM (hrecv.recv cx.K rfl) hn hsize hst hW hdg hR hf
theorem iv_Ln_28_Ln (cx : Cx E p s m args meth c "BaselineText$Line" cc nL ret) (hM : Ct l E y_Ln_toFirstWord b_Ln_toFirstWord 1 none rm (.ref b :: As) H Qc) (hrecv : hOb (eD E) classes H b 7 fs) (hn : As.length = 0) (hsize : ls.size = nL) (hst : st0 = As.reverse ++ .ref b :: rest) (hW : (rest.map fun v => v.category).sum ≤ 8) (hdg : decode cc pc = .ok (.invokevirtual 28, 3)) (hR : rm.frames + 1 ≤ R.frames ∧ 8 + (1 + 11) + rm.locals ≤ R.locals) (hf : cells + rm.cells ≤ R.cells ∧ slots + rm.slots ≤ R.slots) : va_Run p l e R s m args below meth c H locs cells slots rm.cells rm.slots (F0 m pc ls st0) rest (Qc (Value.ref b :: As).toArray) (fun q => eB E ≤ q) := rn_V (y := y_Ln_toFirstWord) tw_299 tw_296 tw_297 tw_298 tw_12 ⟨by decide, by decide, by rfl⟩ cx hM (hrecv.recv cx.K rfl) hn hsize hst hW hdg hR hf
theorem gf_Ln_31_Ln (cx : Cx E p s m args meth c "BaselineText$Line" cc nL ret) (he : hOb (eD E) classes H a 7 fs) {v : Value} (hv : fs[4]? = some v) (hdg : decode cc pc = .ok (.getfield 31, 3)) (kk : W p l e R s m args below meth c H locs cells slots Q (F0 m (pc + 3) ls (v :: rest))) : W p l e R s m args below meth c H locs cells slots Q (F0 m pc ls (.ref a :: rest)) := hx_get cx.x cx.b cx.ts i_Ln cx.o cx.K he rfl 4 (by decide) (cx.ts _ tw_246) (fun _ h => h) hv hdg kk
theorem pf_Ln_31_Ln (cx : Cx E p s m args meth c "BaselineText$Line" cc nL ret) (he : hOb (eD E) classes H a 7 fs) (hlo : hLo (eB E) locs) (hB : eB E ≤ a) {x : Int32} (hl : 4 < fs.length) (hdg : decode cc pc = .ok (.putfield 31, 3)) (kk : ∀ (H1 : Heap) (locs1 : List Loc), hOb (eD E) classes H1 a 7 (fs.set 4 (.int x)) → H1.size = H.size → (∀ q : Nat, q ≠ a → H1[q]? = H[q]?) → hLo (eB E) locs1 → W p l e R s m args below meth c H1 locs1 cells slots Q (F0 m (pc + 3) ls (rest))) : W p l e R s m args below meth c H locs cells slots Q (F0 m pc ls (.int x :: .ref a :: rest)) := hx_put cx.x cx.b cx.ts i_Ln t_Ln t_Ln_ok n_Ln cx.o cx.K he hlo hB rfl 4 (by decide) (cx.ts _ tw_246) (fun _ h => h) rfl (t_Ln_ok 4 (by decide)) rfl rfl hl hdg kk
theorem iv_Ln_34_Ln (cx : Cx E p s m args meth c "BaselineText$Line" cc nL ret) (hM : Ct l E y_Ln_toNextWord b_Ln_toNextWord 1 none rm (.ref b :: As) H Qc) (hrecv : hOb (eD E) classes H b 7 fs) (hn : As.length = 0) (hsize : ls.size = nL) (hst : st0 = As.reverse ++ .ref b :: rest) (hW : (rest.map fun v => v.category).sum ≤ 8) (hdg : decode cc pc = .ok (.invokevirtual 34, 3)) (hR : rm.frames + 1 ≤ R.frames ∧ 8 + (1 + 11) + rm.locals ≤ R.locals) (hf : cells + rm.cells ≤ R.cells ∧ slots + rm.slots ≤ R.slots) : va_Run p l e R s m args below meth c H locs cells slots rm.cells rm.slots (F0 m pc ls st0) rest (Qc (Value.ref b :: As).toArray) (fun q => eB E ≤ q) := rn_V (y := y_Ln_toNextWord) tw_303 tw_300 tw_301 tw_302 tw_12 ⟨by decide, by decide, by rfl⟩ cx hM (hrecv.recv cx.K rfl) hn hsize hst hW hdg hR hf
theorem gf_Ln_37_Ln (cx : Cx E p s m args meth c "BaselineText$Line" cc nL ret) (he : hOb (eD E) classes H a 7 fs) {v : Value} (hv : fs[3]? = some v) (hdg : decode cc pc = .ok (.getfield 37, 3)) (kk : W p l e R s m args below meth c H locs cells slots Q (F0 m (pc + 3) ls (v :: rest))) : W p l e R s m args below meth c H locs cells slots Q (F0 m pc ls (.ref a :: rest)) := hx_get cx.x cx.b cx.ts i_Ln cx.o cx.K he rfl 3 (by decide) (cx.ts _ tw_245) (fun _ h => h) hv hdg kk
theorem pf_Ln_37_Ln (cx : Cx E p s m args meth c "BaselineText$Line" cc nL ret) (he : hOb (eD E) classes H a 7 fs) (hlo : hLo (eB E) locs) (hB : eB E ≤ a) {x : Int32} (hl : 3 < fs.length) (hdg : decode cc pc = .ok (.putfield 37, 3)) (kk : ∀ (H1 : Heap) (locs1 : List Loc), hOb (eD E) classes H1 a 7 (fs.set 3 (.int x)) → H1.size = H.size → (∀ q : Nat, q ≠ a → H1[q]? = H[q]?) → hLo (eB E) locs1 → W p l e R s m args below meth c H1 locs1 cells slots Q (F0 m (pc + 3) ls (rest))) : W p l e R s m args below meth c H locs cells slots Q (F0 m pc ls (.int x :: .ref a :: rest)) := hx_put cx.x cx.b cx.ts i_Ln t_Ln t_Ln_ok n_Ln cx.o cx.K he hlo hB rfl 3 (by decide) (cx.ts _ tw_245) (fun _ h => h) rfl (t_Ln_ok 3 (by decide)) rfl rfl hl hdg kk
theorem iv_Ln_40_Ln (cx : Cx E p s m args meth c "BaselineText$Line" cc nL ret) (hM : Ct l E y_Ln_hasWord b_Ln_hasWord 1 (some .boolean) rm (.ref b :: As) H Qc) (hrecv : hOb (eD E) classes H b 7 fs) (hn : As.length = 0) (hsize : ls.size = nL) (hst : st0 = As.reverse ++ .ref b :: rest) (hW : (rest.map fun v => v.category).sum ≤ 8) (hdg : decode cc pc = .ok (.invokevirtual 40, 3)) (hR : rm.frames + 1 ≤ R.frames ∧ 8 + (1 + 11) + rm.locals ≤ R.locals) (hf : cells + rm.cells ≤ R.cells ∧ slots + rm.slots ≤ R.slots) : va_Run p l e R s m args below meth c H locs cells slots rm.cells rm.slots (F0 m pc ls st0) rest (Qc (Value.ref b :: As).toArray) (fun q => eB E ≤ q) := rn_V (y := y_Ln_hasWord) tw_311 tw_308 tw_309 tw_310 tw_12 ⟨by decide, by decide, by rfl⟩ cx hM (hrecv.recv cx.K rfl) hn hsize hst hW hdg hR hf
theorem iv_Ln_44_St (cx : Cx E p s m args meth c "BaselineText$Line" cc nL ret) (hM : Ct l E y_St_length b_St_length 1 (some .int) rm (.ref b :: As) H Qc) (hrecv : ∃ cell : Cell, H[b]? = some cell ∧ cell.vm.isStatics = false ∧ s.vm.findClass "java/lang/String" = some cell.cls) (hn : As.length = 0) (hsize : ls.size = nL) (hst : st0 = As.reverse ++ .ref b :: rest) (hW : (rest.map fun v => v.category).sum ≤ 8) (hdg : decode cc pc = .ok (.invokevirtual 44, 3)) (hR : rm.frames + 1 ≤ R.frames ∧ 8 + (1 + 11) + rm.locals ≤ R.locals) (hf : cells + rm.cells ≤ R.cells ∧ slots + rm.slots ≤ R.slots) : va_Run p l e R s m args below meth c H locs cells slots rm.cells rm.slots (F0 m pc ls st0) rest (Qc (Value.ref b :: As).toArray) (fun q => eB E ≤ q) := rn_V (y := y_St_length) tw_328 tw_325 tw_326 tw_327 tw_13 ⟨by decide, by decide, by rfl⟩ cx hM hrecv hn hsize hst hW hdg hR hf
theorem iv_Ln_50_St (cx : Cx E p s m args meth c "BaselineText$Line" cc nL ret) (hM : Ct l E y_St_charAt b_St_charAt 2 (some .char) rm (.ref b :: As) H Qc) (hrecv : ∃ cell : Cell, H[b]? = some cell ∧ cell.vm.isStatics = false ∧ s.vm.findClass "java/lang/String" = some cell.cls) (hn : As.length = 1) (hsize : ls.size = nL) (hst : st0 = As.reverse ++ .ref b :: rest) (hW : (rest.map fun v => v.category).sum ≤ 8) (hdg : decode cc pc = .ok (.invokevirtual 50, 3)) (hR : rm.frames + 1 ≤ R.frames ∧ 8 + (2 + 11) + rm.locals ≤ R.locals) (hf : cells + rm.cells ≤ R.cells ∧ slots + rm.slots ≤ R.slots) : va_Run p l e R s m args below meth c H locs cells slots rm.cells rm.slots (F0 m pc ls st0) rest (Qc (Value.ref b :: As).toArray) (fun q => eB E ≤ q) := rn_V (y := y_St_charAt) tw_338 tw_335 tw_336 tw_337 tw_13 ⟨by decide, by decide, by rfl⟩ cx hM hrecv hn hsize hst hW hdg hR hf
theorem iv_Ln_54_Rw (cx : Cx E p s m args meth c "BaselineText$Line" cc nL ret) (hM : Ct l E y_Rw_empty b_Rw_empty 1 none rm (.ref b :: As) H Qc) (hrecv : hOb (eD E) classes H b 0 fs) (hn : As.length = 0) (hsize : ls.size = nL) (hst : st0 = As.reverse ++ .ref b :: rest) (hW : (rest.map fun v => v.category).sum ≤ 8) (hdg : decode cc pc = .ok (.invokevirtual 54, 3)) (hR : rm.frames + 1 ≤ R.frames ∧ 8 + (1 + 11) + rm.locals ≤ R.locals) (hf : cells + rm.cells ≤ R.cells ∧ slots + rm.slots ≤ R.slots) : va_Run p l e R s m args below meth c H locs cells slots rm.cells rm.slots (F0 m pc ls st0) rest (Qc (Value.ref b :: As).toArray) (fun q => eB E ≤ q) := rn_V (y := y_Rw_empty) tw_173 tw_441 tw_171 tw_172 tw_2 ⟨by decide, by decide, by rfl⟩ cx hM (hrecv.recv cx.K rfl) hn hsize hst hW hdg hR hf
theorem iv_Ln_57_Rw (cx : Cx E p s m args meth c "BaselineText$Line" cc nL ret) (hM : Ct l E y_Rw_add b_Rw_add 2 none rm (.ref b :: As) H Qc) (hrecv : hOb (eD E) classes H b 0 fs) (hn : As.length = 1) (hsize : ls.size = nL) (hst : st0 = As.reverse ++ .ref b :: rest) (hW : (rest.map fun v => v.category).sum ≤ 8) (hdg : decode cc pc = .ok (.invokevirtual 57, 3)) (hR : rm.frames + 1 ≤ R.frames ∧ 8 + (2 + 11) + rm.locals ≤ R.locals) (hf : cells + rm.cells ≤ R.cells ∧ slots + rm.slots ≤ R.slots) : va_Run p l e R s m args below meth c H locs cells slots rm.cells rm.slots (F0 m pc ls st0) rest (Qc (Value.ref b :: As).toArray) (fun q => eB E ≤ q) := rn_V (y := y_Rw_add) tw_165 tw_442 tw_163 tw_164 tw_2 ⟨by decide, by decide, by rfl⟩ cx hM (hrecv.recv cx.K rfl) hn hsize hst hW hdg hR hf
theorem nw_Rd_9 (cx : Cx E p s m args meth c "BaselineText$Reader" cc nL ret) (hcells : cells + 1 ≤ R.cells) (hslots : slots + 4 ≤ R.slots) (hdg : decode cc pc = .ok (.new 9, 3)) (kk : ∀ H1 : Heap, hOb (eD E) classes H1 H.size 1 [.null, .null, .int 0, .int 0] → H1.size = H.size + 1 → (∀ q : Nat, q < H.size → H1[q]? = H[q]?) → W p l e R s m args below meth c H1 locs (cells + 1) (slots + 4) Q (F0 m (pc + 3) ls (.ref H.size :: rest))) : W p l e R s m args below meth c H locs cells slots Q (F0 m pc ls rest) := hx_new cx.x cx.b cx.ts i_Dc t_Dc t_Dc_ok cx.o (cx.ts _ tw_200) (cx.ts _ tw_201) (cx.ts _ tw_11) cx.K rfl (fun j hj => by match j, hj with | 0, _ => rfl | 1, _ => rfl | 2, _ => rfl | 3, _ => rfl | j + 4, hj => exact absurd hj (by omega)) hcells hslots hdg kk
theorem iv_Rd_11 (cx : Cx E p s m args meth c "BaselineText$Reader" cc nL ret) (hM : Ct l E y_Dc_init b_Dc_init 1 none rm (.ref b :: As) H Qc) (hn : As.length = 0) (hsize : ls.size = nL) (hst : st0 = As.reverse ++ .ref b :: rest) (hW : (rest.map fun v => v.category).sum ≤ 8) (hdg : decode cc pc = .ok (.invokespecial 11, 3)) (hR : rm.frames + 1 ≤ R.frames ∧ 8 + (1 + 11) + rm.locals ≤ R.locals) (hf : cells + rm.cells ≤ R.cells ∧ slots + rm.slots ≤ R.slots) : va_Run p l e R s m args below meth c H locs cells slots rm.cells rm.slots (F0 m pc ls st0) rest (Qc (Value.ref b :: As).toArray) (fun q => eB E ≤ q) := rn_IN (y := y_Dc_init) tw_204 (List.mem_of_getElem? (i := 2) rfl) tw_203 tw_11 rfl ⟨by decide, by decide, by rfl⟩ cx hM hn hsize hst hW hdg hR hf
theorem gf_Rd_12_Rd (cx : Cx E p s m args meth c "BaselineText$Reader" cc nL ret) (he : hOb (eD E) classes H a 8 fs) {v : Value} (hv : fs[3]? = some v) (hdg : decode cc pc = .ok (.getfield 12, 3)) (kk : W p l e R s m args below meth c H locs cells slots Q (F0 m (pc + 3) ls (v :: rest))) : W p l e R s m args below meth c H locs cells slots Q (F0 m pc ls (.ref a :: rest)) := hx_get cx.x cx.b cx.ts i_Rd cx.o cx.K he rfl 3 (by decide) (cx.ts _ tw_261) (fun _ h => h) hv hdg kk
theorem pf_Rd_12_Rd (cx : Cx E p s m args meth c "BaselineText$Reader" cc nL ret) (hin2 : meth.name = "<init>") (he : hOb (eD E) classes H a 8 fs) (hlo : hLo (eB E) locs) (hB : eB E ≤ a) {x : Option Nat} (hl : 3 < fs.length) (hdg : decode cc pc = .ok (.putfield 12, 3)) (kk : ∀ (H1 : Heap) (locs1 : List Loc), hOb (eD E) classes H1 a 8 (fs.set 3 (va_rf x)) → H1.size = H.size → (∀ q : Nat, q ≠ a → H1[q]? = H[q]?) → hLo (eB E) locs1 → W p l e R s m args below meth c H1 locs1 cells slots Q (F0 m (pc + 3) ls (rest))) : W p l e R s m args below meth c H locs cells slots Q (F0 m pc ls (va_rf x :: .ref a :: rest)) := hx_putF cx.x cx.b cx.ts i_Rd t_Rd t_Rd_ok n_Rd cx.o cx.K he hlo hB rfl 3 (by decide) (cx.ts _ tw_261) (fun _ h => h) rfl hin2 rfl (t_Rd_ok 3 (by decide)) (by cases x <;> rfl) (by cases x <;> rfl) hl hdg kk
theorem nw_Rd_18 (cx : Cx E p s m args meth c "BaselineText$Reader" cc nL ret) (hcells : cells + 1 ≤ R.cells) (hslots : slots + 5 ≤ R.slots) (hdg : decode cc pc = .ok (.new 18, 3)) (kk : ∀ H1 : Heap, hOb (eD E) classes H1 H.size 7 [.null, .int 0, .int 0, .int 0, .int 0] → H1.size = H.size + 1 → (∀ q : Nat, q < H.size → H1[q]? = H[q]?) → W p l e R s m args below meth c H1 locs (cells + 1) (slots + 5) Q (F0 m (pc + 3) ls (.ref H.size :: rest))) : W p l e R s m args below meth c H locs cells slots Q (F0 m pc ls rest) := hx_new cx.x cx.b cx.ts i_Ln t_Ln t_Ln_ok cx.o (cx.ts _ tw_236) (cx.ts _ tw_237) (cx.ts _ tw_12) cx.K rfl (fun j hj => by match j, hj with | 0, _ => rfl | 1, _ => rfl | 2, _ => rfl | 3, _ => rfl | 4, _ => rfl | j + 5, hj => exact absurd hj (by omega)) hcells hslots hdg kk
theorem iv_Rd_20 (cx : Cx E p s m args meth c "BaselineText$Reader" cc nL ret) (hM : Ct l E y_Ln_init b_Ln_init 2 none rm (.ref b :: As) H Qc) (hn : As.length = 1) (hsize : ls.size = nL) (hst : st0 = As.reverse ++ .ref b :: rest) (hW : (rest.map fun v => v.category).sum ≤ 8) (hdg : decode cc pc = .ok (.invokespecial 20, 3)) (hR : rm.frames + 1 ≤ R.frames ∧ 8 + (2 + 11) + rm.locals ≤ R.locals) (hf : cells + rm.cells ≤ R.cells ∧ slots + rm.slots ≤ R.slots) : va_Run p l e R s m args below meth c H locs cells slots rm.cells rm.slots (F0 m pc ls st0) rest (Qc (Value.ref b :: As).toArray) (fun q => eB E ≤ q) := rn_I (y := y_Ln_init) tw_240 tw_238 tw_239 tw_12 rfl ⟨by decide, by decide, by rfl⟩ cx hM hn hsize hst hW hdg hR hf
theorem gf_Rd_23_Rd (cx : Cx E p s m args meth c "BaselineText$Reader" cc nL ret) (he : hOb (eD E) classes H a 8 fs) {v : Value} (hv : fs[0]? = some v) (hdg : decode cc pc = .ok (.getfield 23, 3)) (kk : W p l e R s m args below meth c H locs cells slots Q (F0 m (pc + 3) ls (v :: rest))) : W p l e R s m args below meth c H locs cells slots Q (F0 m pc ls (.ref a :: rest)) := hx_get cx.x cx.b cx.ts i_Rd cx.o cx.K he rfl 0 (by decide) (cx.ts _ tw_258) (fun _ h => h) hv hdg kk
theorem pf_Rd_23_Rd (cx : Cx E p s m args meth c "BaselineText$Reader" cc nL ret) (hin2 : meth.name = "<init>") (he : hOb (eD E) classes H a 8 fs) (hlo : hLo (eB E) locs) (hB : eB E ≤ a) {x : Option Nat} (hl : 0 < fs.length) (hdg : decode cc pc = .ok (.putfield 23, 3)) (kk : ∀ (H1 : Heap) (locs1 : List Loc), hOb (eD E) classes H1 a 8 (fs.set 0 (va_rf x)) → H1.size = H.size → (∀ q : Nat, q ≠ a → H1[q]? = H[q]?) → hLo (eB E) locs1 → W p l e R s m args below meth c H1 locs1 cells slots Q (F0 m (pc + 3) ls (rest))) : W p l e R s m args below meth c H locs cells slots Q (F0 m pc ls (va_rf x :: .ref a :: rest)) := hx_putF cx.x cx.b cx.ts i_Rd t_Rd t_Rd_ok n_Rd cx.o cx.K he hlo hB rfl 0 (by decide) (cx.ts _ tw_258) (fun _ h => h) rfl hin2 rfl (t_Rd_ok 0 (by decide)) (by cases x <;> rfl) (by cases x <;> rfl) hl hdg kk
theorem gf_Rd_27_Rd (cx : Cx E p s m args meth c "BaselineText$Reader" cc nL ret) (he : hOb (eD E) classes H a 8 fs) {v : Value} (hv : fs[1]? = some v) (hdg : decode cc pc = .ok (.getfield 27, 3)) (kk : W p l e R s m args below meth c H locs cells slots Q (F0 m (pc + 3) ls (v :: rest))) : W p l e R s m args below meth c H locs cells slots Q (F0 m pc ls (.ref a :: rest)) := hx_get cx.x cx.b cx.ts i_Rd cx.o cx.K he rfl 1 (by decide) (cx.ts _ tw_259) (fun _ h => h) hv hdg kk
theorem pf_Rd_27_Rd (cx : Cx E p s m args meth c "BaselineText$Reader" cc nL ret) (hin2 : meth.name = "<init>") (he : hOb (eD E) classes H a 8 fs) (hlo : hLo (eB E) locs) (hB : eB E ≤ a) {x : Option Nat} (hl : 1 < fs.length) (hdg : decode cc pc = .ok (.putfield 27, 3)) (kk : ∀ (H1 : Heap) (locs1 : List Loc), hOb (eD E) classes H1 a 8 (fs.set 1 (va_rf x)) → H1.size = H.size → (∀ q : Nat, q ≠ a → H1[q]? = H[q]?) → hLo (eB E) locs1 → W p l e R s m args below meth c H1 locs1 cells slots Q (F0 m (pc + 3) ls (rest))) : W p l e R s m args below meth c H locs cells slots Q (F0 m pc ls (va_rf x :: .ref a :: rest)) := hx_putF cx.x cx.b cx.ts i_Rd t_Rd t_Rd_ok n_Rd cx.o cx.K he hlo hB rfl 1 (by decide) (cx.ts _ tw_259) (fun _ h => h) rfl hin2 rfl (t_Rd_ok 1 (by decide)) (by cases x <;> rfl) (by cases x <;> rfl) hl hdg kk
theorem gf_Rd_31_Rd (cx : Cx E p s m args meth c "BaselineText$Reader" cc nL ret) (he : hOb (eD E) classes H a 8 fs) {v : Value} (hv : fs[2]? = some v) (hdg : decode cc pc = .ok (.getfield 31, 3)) (kk : W p l e R s m args below meth c H locs cells slots Q (F0 m (pc + 3) ls (v :: rest))) : W p l e R s m args below meth c H locs cells slots Q (F0 m pc ls (.ref a :: rest)) := hx_get cx.x cx.b cx.ts i_Rd cx.o cx.K he rfl 2 (by decide) (cx.ts _ tw_260) (fun _ h => h) hv hdg kk
theorem pf_Rd_31_Rd (cx : Cx E p s m args meth c "BaselineText$Reader" cc nL ret) (hin2 : meth.name = "<init>") (he : hOb (eD E) classes H a 8 fs) (hlo : hLo (eB E) locs) (hB : eB E ≤ a) {x : Option Nat} (hl : 2 < fs.length) (hdg : decode cc pc = .ok (.putfield 31, 3)) (kk : ∀ (H1 : Heap) (locs1 : List Loc), hOb (eD E) classes H1 a 8 (fs.set 2 (va_rf x)) → H1.size = H.size → (∀ q : Nat, q ≠ a → H1[q]? = H[q]?) → hLo (eB E) locs1 → W p l e R s m args below meth c H1 locs1 cells slots Q (F0 m (pc + 3) ls (rest))) : W p l e R s m args below meth c H locs cells slots Q (F0 m pc ls (va_rf x :: .ref a :: rest)) := hx_putF cx.x cx.b cx.ts i_Rd t_Rd t_Rd_ok n_Rd cx.o cx.K he hlo hB rfl 2 (by decide) (cx.ts _ tw_260) (fun _ h => h) rfl hin2 rfl (t_Rd_ok 2 (by decide)) (by cases x <;> rfl) (by cases x <;> rfl) hl hdg kk
theorem gf_Rd_35_Rd (cx : Cx E p s m args meth c "BaselineText$Reader" cc nL ret) (he : hOb (eD E) classes H a 8 fs) {v : Value} (hv : fs[4]? = some v) (hdg : decode cc pc = .ok (.getfield 35, 3)) (kk : W p l e R s m args below meth c H locs cells slots Q (F0 m (pc + 3) ls (v :: rest))) : W p l e R s m args below meth c H locs cells slots Q (F0 m pc ls (.ref a :: rest)) := hx_get cx.x cx.b cx.ts i_Rd cx.o cx.K he rfl 4 (by decide) (cx.ts _ tw_262) (fun _ h => h) hv hdg kk
theorem pf_Rd_35_Rd (cx : Cx E p s m args meth c "BaselineText$Reader" cc nL ret) (he : hOb (eD E) classes H a 8 fs) (hlo : hLo (eB E) locs) (hB : eB E ≤ a) {x : Int32} (hl : 4 < fs.length) (hdg : decode cc pc = .ok (.putfield 35, 3)) (kk : ∀ (H1 : Heap) (locs1 : List Loc), hOb (eD E) classes H1 a 8 (fs.set 4 (.int x)) → H1.size = H.size → (∀ q : Nat, q ≠ a → H1[q]? = H[q]?) → hLo (eB E) locs1 → W p l e R s m args below meth c H1 locs1 cells slots Q (F0 m (pc + 3) ls (rest))) : W p l e R s m args below meth c H locs cells slots Q (F0 m pc ls (.int x :: .ref a :: rest)) := hx_put cx.x cx.b cx.ts i_Rd t_Rd t_Rd_ok n_Rd cx.o cx.K he hlo hB rfl 4 (by decide) (cx.ts _ tw_262) (fun _ h => h) rfl (t_Rd_ok 4 (by decide)) rfl rfl hl hdg kk
theorem iv_Rd_39_Ln (cx : Cx E p s m args meth c "BaselineText$Reader" cc nL ret) (hM : Ct l E y_Ln_frame b_Ln_frame 3 none rm (.ref b :: As) H Qc) (hrecv : hOb (eD E) classes H b 7 fs) (hn : As.length = 2) (hsize : ls.size = nL) (hst : st0 = As.reverse ++ .ref b :: rest) (hW : (rest.map fun v => v.category).sum ≤ 8) (hdg : decode cc pc = .ok (.invokevirtual 39, 3)) (hR : rm.frames + 1 ≤ R.frames ∧ 8 + (3 + 11) + rm.locals ≤ R.locals) (hf : cells + rm.cells ≤ R.cells ∧ slots + rm.slots ≤ R.slots) : va_Run p l e R s m args below meth c H locs cells slots rm.cells rm.slots (F0 m pc ls st0) rest (Qc (Value.ref b :: As).toArray) (fun q => eB E ≤ q) := rn_V (y := y_Ln_frame) tw_294 tw_291 tw_292 tw_293 tw_12 ⟨by decide, by decide, by rfl⟩ cx hM (hrecv.recv cx.K rfl) hn hsize hst hW hdg hR hf
theorem iv_Rd_43_Ln (cx : Cx E p s m args meth c "BaselineText$Reader" cc nL ret) (hM : Ct l E y_Ln_isSkipped b_Ln_isSkipped 1 (some .boolean) rm (.ref b :: As) H Qc) (hrecv : hOb (eD E) classes H b 7 fs) (hn : As.length = 0) (hsize : ls.size = nL) (hst : st0 = As.reverse ++ .ref b :: rest) (hW : (rest.map fun v => v.category).sum ≤ 8) (hdg : decode cc pc = .ok (.invokevirtual 43, 3)) (hR : rm.frames + 1 ≤ R.frames ∧ 8 + (1 + 11) + rm.locals ≤ R.locals) (hf : cells + rm.cells ≤ R.cells ∧ slots + rm.slots ≤ R.slots) : va_Run p l e R s m args below meth c H locs cells slots rm.cells rm.slots (F0 m pc ls st0) rest (Qc (Value.ref b :: As).toArray) (fun q => eB E ≤ q) := rn_V (y := y_Ln_isSkipped) tw_307 tw_304 tw_305 tw_306 tw_12 ⟨by decide, by decide, by rfl⟩ cx hM (hrecv.recv cx.K rfl) hn hsize hst hW hdg hR hf
theorem iv_Rd_47_Rd (cx : Cx E p s m args meth c "BaselineText$Reader" cc nL ret) (hM : Ct l E y_Rd_readFirst b_Rd_readFirst 1 (some .boolean) rm (.ref b :: As) H Qc) (hrecv : hOb (eD E) classes H b 8 fs) (hn : As.length = 0) (hsize : ls.size = nL) (hst : st0 = As.reverse ++ .ref b :: rest) (hW : (rest.map fun v => v.category).sum ≤ 8) (hdg : decode cc pc = .ok (.invokevirtual 47, 3)) (hR : rm.frames + 1 ≤ R.frames ∧ 8 + (1 + 11) + rm.locals ≤ R.locals) (hf : cells + rm.cells ≤ R.cells ∧ slots + rm.slots ≤ R.slots) : va_Run p l e R s m args below meth c H locs cells slots rm.cells rm.slots (F0 m pc ls st0) rest (Qc (Value.ref b :: As).toArray) (fun q => eB E ≤ q) := rn_V (y := y_Rd_readFirst) tw_315 tw_312 tw_314 ps_Rd_readFirst tw_10 ⟨by decide, by decide, by rfl⟩ cx hM (hrecv.recv cx.K rfl) hn hsize hst hW hdg hR hf
theorem iv_Rd_50_Ln (cx : Cx E p s m args meth c "BaselineText$Reader" cc nL ret) (hM : Ct l E y_Ln_place b_Ln_place 1 (some .int) rm (.ref b :: As) H Qc) (hrecv : hOb (eD E) classes H b 7 fs) (hn : As.length = 0) (hsize : ls.size = nL) (hst : st0 = As.reverse ++ .ref b :: rest) (hW : (rest.map fun v => v.category).sum ≤ 8) (hdg : decode cc pc = .ok (.invokevirtual 50, 3)) (hR : rm.frames + 1 ≤ R.frames ∧ 8 + (1 + 11) + rm.locals ≤ R.locals) (hf : cells + rm.cells ≤ R.cells ∧ slots + rm.slots ≤ R.slots) : va_Run p l e R s m args below meth c H locs cells slots rm.cells rm.slots (F0 m pc ls st0) rest (Qc (Value.ref b :: As).toArray) (fun q => eB E ≤ q) := rn_V (y := y_Ln_place) tw_381 tw_378 tw_379 tw_380 tw_12 ⟨by decide, by decide, by rfl⟩ cx hM (hrecv.recv cx.K rfl) hn hsize hst hW hdg hR hf
theorem gf_Rd_54_Rd (cx : Cx E p s m args meth c "BaselineText$Reader" cc nL ret) (he : hOb (eD E) classes H a 8 fs) {v : Value} (hv : fs[6]? = some v) (hdg : decode cc pc = .ok (.getfield 54, 3)) (kk : W p l e R s m args below meth c H locs cells slots Q (F0 m (pc + 3) ls (v :: rest))) : W p l e R s m args below meth c H locs cells slots Q (F0 m pc ls (.ref a :: rest)) := hx_get cx.x cx.b cx.ts i_Rd cx.o cx.K he rfl 6 (by decide) (cx.ts _ tw_264) (fun _ h => h) hv hdg kk
theorem pf_Rd_54_Rd (cx : Cx E p s m args meth c "BaselineText$Reader" cc nL ret) (he : hOb (eD E) classes H a 8 fs) (hlo : hLo (eB E) locs) (hB : eB E ≤ a) {x : Int32} (hz : narrow .boolean (.int x) = .int x ∧ fits .boolean (.int x) = true) (hl : 6 < fs.length) (hdg : decode cc pc = .ok (.putfield 54, 3)) (kk : ∀ (H1 : Heap) (locs1 : List Loc), hOb (eD E) classes H1 a 8 (fs.set 6 (.int x)) → H1.size = H.size → (∀ q : Nat, q ≠ a → H1[q]? = H[q]?) → hLo (eB E) locs1 → W p l e R s m args below meth c H1 locs1 cells slots Q (F0 m (pc + 3) ls (rest))) : W p l e R s m args below meth c H locs cells slots Q (F0 m pc ls (.int x :: .ref a :: rest)) := hx_put cx.x cx.b cx.ts i_Rd t_Rd t_Rd_ok n_Rd cx.o cx.K he hlo hB rfl 6 (by decide) (cx.ts _ tw_264) (fun _ h => h) rfl (t_Rd_ok 6 (by decide)) hz.1 hz.2 hl hdg kk
theorem iv_Rd_58_Rd (cx : Cx E p s m args meth c "BaselineText$Reader" cc nL ret) (hM : Ct l E y_Rd_readWords b_Rd_readWords 3 (some .int) rm (.ref b :: As) H Qc) (hrecv : hOb (eD E) classes H b 8 fs) (hn : As.length = 1) (hsize : ls.size = nL) (hst : st0 = As.reverse ++ .ref b :: rest) (hW : (rest.map fun v => v.category).sum ≤ 8) (hdg : decode cc pc = .ok (.invokevirtual 58, 3)) (hR : rm.frames + 1 ≤ R.frames ∧ 8 + (3 + 11) + rm.locals ≤ R.locals) (hf : cells + rm.cells ≤ R.cells ∧ slots + rm.slots ≤ R.slots) : va_Run p l e R s m args below meth c H locs cells slots rm.cells rm.slots (F0 m pc ls st0) rest (Qc (Value.ref b :: As).toArray) (fun q => eB E ≤ q) := rn_V (y := y_Rd_readWords) tw_389 tw_386 tw_388 ps_Rd_readWords tw_10 ⟨by decide, by decide, by rfl⟩ cx hM (hrecv.recv cx.K rfl) hn hsize hst hW hdg hR hf
theorem iv_Rd_62_Ln (cx : Cx E p s m args meth c "BaselineText$Reader" cc nL ret) (hM : Ct l E y_Ln_toFirstWord b_Ln_toFirstWord 1 none rm (.ref b :: As) H Qc) (hrecv : hOb (eD E) classes H b 7 fs) (hn : As.length = 0) (hsize : ls.size = nL) (hst : st0 = As.reverse ++ .ref b :: rest) (hW : (rest.map fun v => v.category).sum ≤ 8) (hdg : decode cc pc = .ok (.invokevirtual 62, 3)) (hR : rm.frames + 1 ≤ R.frames ∧ 8 + (1 + 11) + rm.locals ≤ R.locals) (hf : cells + rm.cells ≤ R.cells ∧ slots + rm.slots ≤ R.slots) : va_Run p l e R s m args below meth c H locs cells slots rm.cells rm.slots (F0 m pc ls st0) rest (Qc (Value.ref b :: As).toArray) (fun q => eB E ≤ q) := rn_V (y := y_Ln_toFirstWord) tw_299 tw_377 tw_297 tw_298 tw_12 ⟨by decide, by decide, by rfl⟩ cx hM (hrecv.recv cx.K rfl) hn hsize hst hW hdg hR hf
theorem iv_Rd_65_Rd (cx : Cx E p s m args meth c "BaselineText$Reader" cc nL ret) (hM : Ct l E y_Rd_takeMember b_Rd_takeMember 1 (some .int) rm (.ref b :: As) H Qc) (hrecv : hOb (eD E) classes H b 8 fs) (hn : As.length = 0) (hsize : ls.size = nL) (hst : st0 = As.reverse ++ .ref b :: rest) (hW : (rest.map fun v => v.category).sum ≤ 8) (hdg : decode cc pc = .ok (.invokevirtual 65, 3)) (hR : rm.frames + 1 ≤ R.frames ∧ 8 + (1 + 11) + rm.locals ≤ R.locals) (hf : cells + rm.cells ≤ R.cells ∧ slots + rm.slots ≤ R.slots) : va_Run p l e R s m args below meth c H locs cells slots rm.cells rm.slots (F0 m pc ls st0) rest (Qc (Value.ref b :: As).toArray) (fun q => eB E ≤ q) := rn_V (y := y_Rd_takeMember) tw_484 tw_481 tw_483 ps_Rd_takeMember tw_10 ⟨by decide, by decide, by rfl⟩ cx hM (hrecv.recv cx.K rfl) hn hsize hst hW hdg hR hf
theorem iv_Rd_68_Rd (cx : Cx E p s m args meth c "BaselineText$Reader" cc nL ret) (hM : Ct l E y_Rd_takeType b_Rd_takeType 1 (some .int) rm (.ref b :: As) H Qc) (hrecv : hOb (eD E) classes H b 8 fs) (hn : As.length = 0) (hsize : ls.size = nL) (hst : st0 = As.reverse ++ .ref b :: rest) (hW : (rest.map fun v => v.category).sum ≤ 8) (hdg : decode cc pc = .ok (.invokevirtual 68, 3)) (hR : rm.frames + 1 ≤ R.frames ∧ 8 + (1 + 11) + rm.locals ≤ R.locals) (hf : cells + rm.cells ≤ R.cells ∧ slots + rm.slots ≤ R.slots) : va_Run p l e R s m args below meth c H locs cells slots rm.cells rm.slots (F0 m pc ls st0) rest (Qc (Value.ref b :: As).toArray) (fun q => eB E ≤ q) := rn_V (y := y_Rd_takeType) tw_620 tw_617 tw_619 ps_Rd_takeType tw_10 ⟨by decide, by decide, by rfl⟩ cx hM (hrecv.recv cx.K rfl) hn hsize hst hW hdg hR hf
theorem iv_Rd_71_Dg (cx : Cx E p s m args meth c "BaselineText$Reader" cc nL ret) (hM : Ct l E y_Dg_add b_Dg_add 4 none rm (.ref b :: As) H Qc) (hrecv : hOb (eD E) classes H b 6 fs) (hn : As.length = 3) (hsize : ls.size = nL) (hst : st0 = As.reverse ++ .ref b :: rest) (hW : (rest.map fun v => v.category).sum ≤ 8) (hdg : decode cc pc = .ok (.invokevirtual 71, 3)) (hR : rm.frames + 1 ≤ R.frames ∧ 8 + (4 + 11) + rm.locals ≤ R.locals) (hf : cells + rm.cells ≤ R.cells ∧ slots + rm.slots ≤ R.slots) : va_Run p l e R s m args below meth c H locs cells slots rm.cells rm.slots (F0 m pc ls st0) rest (Qc (Value.ref b :: As).toArray) (fun q => eB E ≤ q) := rn_V (y := y_Dg_add) tw_385 tw_382 tw_383 tw_384 tw_3 ⟨by decide, by decide, by rfl⟩ cx hM (hrecv.recv cx.K rfl) hn hsize hst hW hdg hR hf
theorem gf_Rd_77_Rd (cx : Cx E p s m args meth c "BaselineText$Reader" cc nL ret) (he : hOb (eD E) classes H a 8 fs) {v : Value} (hv : fs[5]? = some v) (hdg : decode cc pc = .ok (.getfield 77, 3)) (kk : W p l e R s m args below meth c H locs cells slots Q (F0 m (pc + 3) ls (v :: rest))) : W p l e R s m args below meth c H locs cells slots Q (F0 m pc ls (.ref a :: rest)) := hx_get cx.x cx.b cx.ts i_Rd cx.o cx.K he rfl 5 (by decide) (cx.ts _ tw_263) (fun _ h => h) hv hdg kk
theorem pf_Rd_77_Rd (cx : Cx E p s m args meth c "BaselineText$Reader" cc nL ret) (he : hOb (eD E) classes H a 8 fs) (hlo : hLo (eB E) locs) (hB : eB E ≤ a) {x : Int32} (hz : narrow .boolean (.int x) = .int x ∧ fits .boolean (.int x) = true) (hl : 5 < fs.length) (hdg : decode cc pc = .ok (.putfield 77, 3)) (kk : ∀ (H1 : Heap) (locs1 : List Loc), hOb (eD E) classes H1 a 8 (fs.set 5 (.int x)) → H1.size = H.size → (∀ q : Nat, q ≠ a → H1[q]? = H[q]?) → hLo (eB E) locs1 → W p l e R s m args below meth c H1 locs1 cells slots Q (F0 m (pc + 3) ls (rest))) : W p l e R s m args below meth c H locs cells slots Q (F0 m pc ls (.int x :: .ref a :: rest)) := hx_put cx.x cx.b cx.ts i_Rd t_Rd t_Rd_ok n_Rd cx.o cx.K he hlo hB rfl 5 (by decide) (cx.ts _ tw_263) (fun _ h => h) rfl (t_Rd_ok 5 (by decide)) hz.1 hz.2 hl hdg kk
theorem iv_Rd_80_Rd (cx : Cx E p s m args meth c "BaselineText$Reader" cc nL ret) (hM : Ct l E y_Rd_readFormat b_Rd_readFormat 2 (some .boolean) rm (.ref b :: As) H Qc) (hrecv : hOb (eD E) classes H b 8 fs) (hn : As.length = 0) (hsize : ls.size = nL) (hst : st0 = As.reverse ++ .ref b :: rest) (hW : (rest.map fun v => v.category).sum ≤ 8) (hdg : decode cc pc = .ok (.invokevirtual 80, 3)) (hR : rm.frames + 1 ≤ R.frames ∧ 8 + (2 + 11) + rm.locals ≤ R.locals) (hf : cells + rm.cells ≤ R.cells ∧ slots + rm.slots ≤ R.slots) : va_Run p l e R s m args below meth c H locs cells slots rm.cells rm.slots (F0 m pc ls st0) rest (Qc (Value.ref b :: As).toArray) (fun q => eB E ≤ q) := rn_V (y := y_Rd_readFormat) tw_319 tw_316 tw_318 ps_Rd_readFormat tw_10 ⟨by decide, by decide, by rfl⟩ cx hM (hrecv.recv cx.K rfl) hn hsize hst hW hdg hR hf
theorem iv_Rd_85_Ln (cx : Cx E p s m args meth c "BaselineText$Reader" cc nL ret) (hM : Ct l E y_Ln_isAt b_Ln_isAt 3 (some .boolean) rm (.ref b :: As) H Qc) (hrecv : hOb (eD E) classes H b 7 fs) (hn : As.length = 1) (hsize : ls.size = nL) (hst : st0 = As.reverse ++ .ref b :: rest) (hW : (rest.map fun v => v.category).sum ≤ 8) (hdg : decode cc pc = .ok (.invokevirtual 85, 3)) (hR : rm.frames + 1 ≤ R.frames ∧ 8 + (3 + 11) + rm.locals ≤ R.locals) (hf : cells + rm.cells ≤ R.cells ∧ slots + rm.slots ≤ R.slots) : va_Run p l e R s m args below meth c H locs cells slots rm.cells rm.slots (F0 m pc ls st0) rest (Qc (Value.ref b :: As).toArray) (fun q => eB E ≤ q) := rn_V (y := y_Ln_isAt) tw_324 tw_321 tw_322 tw_323 tw_12 ⟨by decide, by decide, by rfl⟩ cx hM (hrecv.recv cx.K rfl) hn hsize hst hW hdg hR hf
theorem iv_Rd_89_Ln (cx : Cx E p s m args meth c "BaselineText$Reader" cc nL ret) (hM : Ct l E y_Ln_toNextWord b_Ln_toNextWord 1 none rm (.ref b :: As) H Qc) (hrecv : hOb (eD E) classes H b 7 fs) (hn : As.length = 0) (hsize : ls.size = nL) (hst : st0 = As.reverse ++ .ref b :: rest) (hW : (rest.map fun v => v.category).sum ≤ 8) (hdg : decode cc pc = .ok (.invokevirtual 89, 3)) (hR : rm.frames + 1 ≤ R.frames ∧ 8 + (1 + 11) + rm.locals ≤ R.locals) (hf : cells + rm.cells ≤ R.cells ∧ slots + rm.slots ≤ R.slots) : va_Run p l e R s m args below meth c H locs cells slots rm.cells rm.slots (F0 m pc ls st0) rest (Qc (Value.ref b :: As).toArray) (fun q => eB E ≤ q) := rn_V (y := y_Ln_toNextWord) tw_303 tw_373 tw_301 tw_302 tw_12 ⟨by decide, by decide, by rfl⟩ cx hM (hrecv.recv cx.K rfl) hn hsize hst hW hdg hR hf
theorem iv_Rd_96_Ln (cx : Cx E p s m args meth c "BaselineText$Reader" cc nL ret) (hM : Ct l E y_Ln_hasWord b_Ln_hasWord 1 (some .boolean) rm (.ref b :: As) H Qc) (hrecv : hOb (eD E) classes H b 7 fs) (hn : As.length = 0) (hsize : ls.size = nL) (hst : st0 = As.reverse ++ .ref b :: rest) (hW : (rest.map fun v => v.category).sum ≤ 8) (hdg : decode cc pc = .ok (.invokevirtual 96, 3)) (hR : rm.frames + 1 ≤ R.frames ∧ 8 + (1 + 11) + rm.locals ≤ R.locals) (hf : cells + rm.cells ≤ R.cells ∧ slots + rm.slots ≤ R.slots) : va_Run p l e R s m args below meth c H locs cells slots rm.cells rm.slots (F0 m pc ls st0) rest (Qc (Value.ref b :: As).toArray) (fun q => eB E ≤ q) := rn_V (y := y_Ln_hasWord) tw_311 tw_376 tw_309 tw_310 tw_12 ⟨by decide, by decide, by rfl⟩ cx hM (hrecv.recv cx.K rfl) hn hsize hst hW hdg hR hf
theorem gf_Rd_99_Bl (cx : Cx E p s m args meth c "BaselineText$Reader" cc nL ret) (he : hOb (eD E) classes H a 5 fs) {v : Value} (hv : fs[1]? = some v) (hdg : decode cc pc = .ok (.getfield 99, 3)) (kk : W p l e R s m args below meth c H locs cells slots Q (F0 m (pc + 3) ls (v :: rest))) : W p l e R s m args below meth c H locs cells slots Q (F0 m pc ls (.ref a :: rest)) := hx_get cx.x cx.b cx.ts i_Bl cx.o cx.K he rfl 1 (by decide) (cx.ts _ tw_125) (fun _ h => h) hv hdg kk
theorem pf_Rd_99_Bl (cx : Cx E p s m args meth c "BaselineText$Reader" cc nL ret) (he : hOb (eD E) classes H a 5 fs) (hlo : hLo (eB E) locs) (hB : eB E ≤ a) {x : Int32} (hl : 1 < fs.length) (hdg : decode cc pc = .ok (.putfield 99, 3)) (kk : ∀ (H1 : Heap) (locs1 : List Loc), hOb (eD E) classes H1 a 5 (fs.set 1 (.int x)) → H1.size = H.size → (∀ q : Nat, q ≠ a → H1[q]? = H[q]?) → hLo (eB E) locs1 → W p l e R s m args below meth c H1 locs1 cells slots Q (F0 m (pc + 3) ls (rest))) : W p l e R s m args below meth c H locs cells slots Q (F0 m pc ls (.int x :: .ref a :: rest)) := hx_put cx.x cx.b cx.ts i_Bl t_Bl t_Bl_ok n_Bl cx.o cx.K he hlo hB rfl 1 (by decide) (cx.ts _ tw_125) (fun _ h => h) rfl (t_Bl_ok 1 (by decide)) rfl rfl hl hdg kk
theorem iv_Rd_104_Rd (cx : Cx E p s m args meth c "BaselineText$Reader" cc nL ret) (hM : Ct l E y_Rd_readMarks b_Rd_readMarks 4 (some .boolean) rm (.ref b :: As) H Qc) (hrecv : hOb (eD E) classes H b 8 fs) (hn : As.length = 1) (hsize : ls.size = nL) (hst : st0 = As.reverse ++ .ref b :: rest) (hW : (rest.map fun v => v.category).sum ≤ 8) (hdg : decode cc pc = .ok (.invokevirtual 104, 3)) (hR : rm.frames + 1 ≤ R.frames ∧ 8 + (4 + 11) + rm.locals ≤ R.locals) (hf : cells + rm.cells ≤ R.cells ∧ slots + rm.slots ≤ R.slots) : va_Run p l e R s m args below meth c H locs cells slots rm.cells rm.slots (F0 m pc ls st0) rest (Qc (Value.ref b :: As).toArray) (fun q => eB E ≤ q) := rn_V (y := y_Rd_readMarks) tw_393 tw_390 tw_392 ps_Rd_readMarks tw_10 ⟨by decide, by decide, by rfl⟩ cx hM (hrecv.recv cx.K rfl) hn hsize hst hW hdg hR hf
theorem iv_Rd_108_Rd (cx : Cx E p s m args meth c "BaselineText$Reader" cc nL ret) (hM : Ct l E y_Rd_kindHere b_Rd_kindHere 3 (some .int) rm (.ref b :: As) H Qc) (hrecv : hOb (eD E) classes H b 8 fs) (hn : As.length = 1) (hsize : ls.size = nL) (hst : st0 = As.reverse ++ .ref b :: rest) (hW : (rest.map fun v => v.category).sum ≤ 8) (hdg : decode cc pc = .ok (.invokevirtual 108, 3)) (hR : rm.frames + 1 ≤ R.frames ∧ 8 + (3 + 11) + rm.locals ≤ R.locals) (hf : cells + rm.cells ≤ R.cells ∧ slots + rm.slots ≤ R.slots) : va_Run p l e R s m args below meth c H locs cells slots rm.cells rm.slots (F0 m pc ls st0) rest (Qc (Value.ref b :: As).toArray) (fun q => eB E ≤ q) := rn_V (y := y_Rd_kindHere) tw_418 tw_415 tw_417 ps_Rd_kindHere tw_10 ⟨by decide, by decide, by rfl⟩ cx hM (hrecv.recv cx.K rfl) hn hsize hst hW hdg hR hf
theorem gf_Rd_111_Dc (cx : Cx E p s m args meth c "BaselineText$Reader" cc nL ret) (he : hOb (eD E) classes H a 1 fs) {v : Value} (hv : fs[2]? = some v) (hdg : decode cc pc = .ok (.getfield 111, 3)) (kk : W p l e R s m args below meth c H locs cells slots Q (F0 m (pc + 3) ls (v :: rest))) : W p l e R s m args below meth c H locs cells slots Q (F0 m pc ls (.ref a :: rest)) := hx_get cx.x cx.b cx.ts i_Dc cx.o cx.K he rfl 2 (by decide) (cx.ts _ tw_218) (fun _ h => h) hv hdg kk
theorem pf_Rd_111_Dc (cx : Cx E p s m args meth c "BaselineText$Reader" cc nL ret) (he : hOb (eD E) classes H a 1 fs) (hlo : hLo (eB E) locs) (hB : eB E ≤ a) {x : Int32} (hl : 2 < fs.length) (hdg : decode cc pc = .ok (.putfield 111, 3)) (kk : ∀ (H1 : Heap) (locs1 : List Loc), hOb (eD E) classes H1 a 1 (fs.set 2 (.int x)) → H1.size = H.size → (∀ q : Nat, q ≠ a → H1[q]? = H[q]?) → hLo (eB E) locs1 → W p l e R s m args below meth c H1 locs1 cells slots Q (F0 m (pc + 3) ls (rest))) : W p l e R s m args below meth c H locs cells slots Q (F0 m pc ls (.int x :: .ref a :: rest)) := hx_put cx.x cx.b cx.ts i_Dc t_Dc t_Dc_ok n_Dc cx.o cx.K he hlo hB rfl 2 (by decide) (cx.ts _ tw_218) (fun _ h => h) rfl (t_Dc_ok 2 (by decide)) rfl rfl hl hdg kk
theorem gf_Rd_111_Tp (cx : Cx E p s m args meth c "BaselineText$Reader" cc nL ret) (he : hOb (eD E) classes H a 2 fs) {v : Value} (hv : fs[2]? = some v) (hdg : decode cc pc = .ok (.getfield 111, 3)) (kk : W p l e R s m args below meth c H locs cells slots Q (F0 m (pc + 3) ls (v :: rest))) : W p l e R s m args below meth c H locs cells slots Q (F0 m pc ls (.ref a :: rest)) := hx_get cx.x cx.b cx.ts i_Tp cx.o cx.K he rfl 2 (by decide) (cx.ts _ tw_218) (fun _ h => h) hv hdg kk
theorem pf_Rd_111_Tp (cx : Cx E p s m args meth c "BaselineText$Reader" cc nL ret) (he : hOb (eD E) classes H a 2 fs) (hlo : hLo (eB E) locs) (hB : eB E ≤ a) {x : Int32} (hl : 2 < fs.length) (hdg : decode cc pc = .ok (.putfield 111, 3)) (kk : ∀ (H1 : Heap) (locs1 : List Loc), hOb (eD E) classes H1 a 2 (fs.set 2 (.int x)) → H1.size = H.size → (∀ q : Nat, q ≠ a → H1[q]? = H[q]?) → hLo (eB E) locs1 → W p l e R s m args below meth c H1 locs1 cells slots Q (F0 m (pc + 3) ls (rest))) : W p l e R s m args below meth c H locs cells slots Q (F0 m pc ls (.int x :: .ref a :: rest)) := hx_put cx.x cx.b cx.ts i_Tp t_Tp t_Tp_ok n_Tp cx.o cx.K he hlo hB rfl 2 (by decide) (cx.ts _ tw_218) (fun _ h => h) rfl (t_Tp_ok 2 (by decide)) rfl rfl hl hdg kk
theorem gf_Rd_114_Dc (cx : Cx E p s m args meth c "BaselineText$Reader" cc nL ret) (he : hOb (eD E) classes H a 1 fs) {v : Value} (hv : fs[0]? = some v) (hdg : decode cc pc = .ok (.getfield 114, 3)) (kk : W p l e R s m args below meth c H locs cells slots Q (F0 m (pc + 3) ls (v :: rest))) : W p l e R s m args below meth c H locs cells slots Q (F0 m pc ls (.ref a :: rest)) := hx_get cx.x cx.b cx.ts i_Dc cx.o cx.K he rfl 0 (by decide) (cx.ts _ tw_211) (fun _ h => h) hv hdg kk
theorem gf_Rd_114_Tp (cx : Cx E p s m args meth c "BaselineText$Reader" cc nL ret) (he : hOb (eD E) classes H a 2 fs) {v : Value} (hv : fs[0]? = some v) (hdg : decode cc pc = .ok (.getfield 114, 3)) (kk : W p l e R s m args below meth c H locs cells slots Q (F0 m (pc + 3) ls (v :: rest))) : W p l e R s m args below meth c H locs cells slots Q (F0 m pc ls (.ref a :: rest)) := hx_get cx.x cx.b cx.ts i_Tp cx.o cx.K he rfl 0 (by decide) (cx.ts _ tw_211) (fun _ h => h) hv hdg kk
theorem iv_Rd_118_Ln (cx : Cx E p s m args meth c "BaselineText$Reader" cc nL ret) (hM : Ct l E y_Ln_copyName b_Ln_copyName 8 none rm (.ref b :: As) H Qc) (hrecv : hOb (eD E) classes H b 7 fs) (hn : As.length = 2) (hsize : ls.size = nL) (hst : st0 = As.reverse ++ .ref b :: rest) (hW : (rest.map fun v => v.category).sum ≤ 8) (hdg : decode cc pc = .ok (.invokevirtual 118, 3)) (hR : rm.frames + 1 ≤ R.frames ∧ 8 + (8 + 11) + rm.locals ≤ R.locals) (hf : cells + rm.cells ≤ R.cells ∧ slots + rm.slots ≤ R.slots) : va_Run p l e R s m args below meth c H locs cells slots rm.cells rm.slots (F0 m pc ls st0) rest (Qc (Value.ref b :: As).toArray) (fun q => eB E ≤ q) := rn_V (y := y_Ln_copyName) tw_440 tw_437 tw_438 tw_439 tw_12 ⟨by decide, by decide, by rfl⟩ cx hM (hrecv.recv cx.K rfl) hn hsize hst hW hdg hR hf
theorem iv_Rd_122 (cx : Cx E p s m args meth c "BaselineText$Reader" cc nL ret) (hM : Ct l E y_Gr_isName b_Gr_isName 4 (some .boolean) rm As H Qc) (hn : As.length = 3) (hsize : ls.size = nL) (hst : st0 = As.reverse ++ rest) (hW : (rest.map fun v => v.category).sum ≤ 8) (hdg : decode cc pc = .ok (.invokestatic 122, 3)) (hR : rm.frames + 1 ≤ R.frames ∧ 8 + (4 + 11) + rm.locals ≤ R.locals) (hf : cells + rm.cells ≤ R.cells ∧ slots + rm.slots ≤ R.slots) : va_Run p l e R s m args below meth c H locs cells slots rm.cells rm.slots (F0 m pc ls st0) rest (Qc (As).toArray) (fun q => eB E ≤ q) := rn_S (y := y_Gr_isName) tw_445 tw_443 tw_444 tw_18 ⟨by decide, by decide, by rfl⟩ cx hM hn hsize hst hW hdg hR hf
theorem gf_Rd_128_Dc (cx : Cx E p s m args meth c "BaselineText$Reader" cc nL ret) (he : hOb (eD E) classes H a 1 fs) {v : Value} (hv : fs[1]? = some v) (hdg : decode cc pc = .ok (.getfield 128, 3)) (kk : W p l e R s m args below meth c H locs cells slots Q (F0 m (pc + 3) ls (v :: rest))) : W p l e R s m args below meth c H locs cells slots Q (F0 m pc ls (.ref a :: rest)) := hx_get cx.x cx.b cx.ts i_Dc cx.o cx.K he rfl 1 (by decide) (cx.ts _ tw_215) (fun _ h => h) hv hdg kk
theorem gf_Rd_128_Tp (cx : Cx E p s m args meth c "BaselineText$Reader" cc nL ret) (he : hOb (eD E) classes H a 2 fs) {v : Value} (hv : fs[1]? = some v) (hdg : decode cc pc = .ok (.getfield 128, 3)) (kk : W p l e R s m args below meth c H locs cells slots Q (F0 m (pc + 3) ls (v :: rest))) : W p l e R s m args below meth c H locs cells slots Q (F0 m pc ls (.ref a :: rest)) := hx_get cx.x cx.b cx.ts i_Tp cx.o cx.K he rfl 1 (by decide) (cx.ts _ tw_215) (fun _ h => h) hv hdg kk
theorem iv_Rd_131_Rw (cx : Cx E p s m args meth c "BaselineText$Reader" cc nL ret) (hM : Ct l E y_Rw_empty b_Rw_empty 1 none rm (.ref b :: As) H Qc) (hrecv : hOb (eD E) classes H b 0 fs) (hn : As.length = 0) (hsize : ls.size = nL) (hst : st0 = As.reverse ++ .ref b :: rest) (hW : (rest.map fun v => v.category).sum ≤ 8) (hdg : decode cc pc = .ok (.invokevirtual 131, 3)) (hR : rm.frames + 1 ≤ R.frames ∧ 8 + (1 + 11) + rm.locals ≤ R.locals) (hf : cells + rm.cells ≤ R.cells ∧ slots + rm.slots ≤ R.slots) : va_Run p l e R s m args below meth c H locs cells slots rm.cells rm.slots (F0 m pc ls st0) rest (Qc (Value.ref b :: As).toArray) (fun q => eB E ≤ q) := rn_V (y := y_Rw_empty) tw_173 tw_468 tw_171 tw_172 tw_2 ⟨by decide, by decide, by rfl⟩ cx hM (hrecv.recv cx.K rfl) hn hsize hst hW hdg hR hf
theorem iv_Rd_136 (cx : Cx E p s m args meth c "BaselineText$Reader" cc nL ret) (hM : Ct l E y_Gr_isMethodDescriptor b_Gr_isMethodDescriptor 3 (some .boolean) rm As H Qc) (hn : As.length = 1) (hsize : ls.size = nL) (hst : st0 = As.reverse ++ rest) (hW : (rest.map fun v => v.category).sum ≤ 8) (hdg : decode cc pc = .ok (.invokestatic 136, 3)) (hR : rm.frames + 1 ≤ R.frames ∧ 8 + (3 + 11) + rm.locals ≤ R.locals) (hf : cells + rm.cells ≤ R.cells ∧ slots + rm.slots ≤ R.slots) : va_Run p l e R s m args below meth c H locs cells slots rm.cells rm.slots (F0 m pc ls st0) rest (Qc (As).toArray) (fun q => eB E ≤ q) := rn_S (y := y_Gr_isMethodDescriptor) tw_471 tw_469 tw_470 tw_18 ⟨by decide, by decide, by rfl⟩ cx hM hn hsize hst hW hdg hR hf
theorem iv_Rd_140 (cx : Cx E p s m args meth c "BaselineText$Reader" cc nL ret) (hM : Ct l E y_Gr_isFieldDescriptor b_Gr_isFieldDescriptor 1 (some .boolean) rm As H Qc) (hn : As.length = 1) (hsize : ls.size = nL) (hst : st0 = As.reverse ++ rest) (hW : (rest.map fun v => v.category).sum ≤ 8) (hdg : decode cc pc = .ok (.invokestatic 140, 3)) (hR : rm.frames + 1 ≤ R.frames ∧ 8 + (1 + 11) + rm.locals ≤ R.locals) (hf : cells + rm.cells ≤ R.cells ∧ slots + rm.slots ≤ R.slots) : va_Run p l e R s m args below meth c H locs cells slots rm.cells rm.slots (F0 m pc ls st0) rest (Qc (As).toArray) (fun q => eB E ≤ q) := rn_S (y := y_Gr_isFieldDescriptor) tw_480 tw_478 tw_479 tw_18 ⟨by decide, by decide, by rfl⟩ cx hM hn hsize hst hW hdg hR hf
theorem gf_Rd_143_Dc (cx : Cx E p s m args meth c "BaselineText$Reader" cc nL ret) (he : hOb (eD E) classes H a 1 fs) {v : Value} (hv : fs[3]? = some v) (hdg : decode cc pc = .ok (.getfield 143, 3)) (kk : W p l e R s m args below meth c H locs cells slots Q (F0 m (pc + 3) ls (v :: rest))) : W p l e R s m args below meth c H locs cells slots Q (F0 m pc ls (.ref a :: rest)) := hx_get cx.x cx.b cx.ts i_Dc cx.o cx.K he rfl 3 (by decide) (cx.ts _ tw_223) (fun _ h => h) hv hdg kk
theorem pf_Rd_143_Dc (cx : Cx E p s m args meth c "BaselineText$Reader" cc nL ret) (he : hOb (eD E) classes H a 1 fs) (hlo : hLo (eB E) locs) (hB : eB E ≤ a) {x : Int32} (hl : 3 < fs.length) (hdg : decode cc pc = .ok (.putfield 143, 3)) (kk : ∀ (H1 : Heap) (locs1 : List Loc), hOb (eD E) classes H1 a 1 (fs.set 3 (.int x)) → H1.size = H.size → (∀ q : Nat, q ≠ a → H1[q]? = H[q]?) → hLo (eB E) locs1 → W p l e R s m args below meth c H1 locs1 cells slots Q (F0 m (pc + 3) ls (rest))) : W p l e R s m args below meth c H locs cells slots Q (F0 m pc ls (.int x :: .ref a :: rest)) := hx_put cx.x cx.b cx.ts i_Dc t_Dc t_Dc_ok n_Dc cx.o cx.K he hlo hB rfl 3 (by decide) (cx.ts _ tw_223) (fun _ h => h) rfl (t_Dc_ok 3 (by decide)) rfl rfl hl hdg kk
theorem gf_Rd_143_Tp (cx : Cx E p s m args meth c "BaselineText$Reader" cc nL ret) (he : hOb (eD E) classes H a 2 fs) {v : Value} (hv : fs[3]? = some v) (hdg : decode cc pc = .ok (.getfield 143, 3)) (kk : W p l e R s m args below meth c H locs cells slots Q (F0 m (pc + 3) ls (v :: rest))) : W p l e R s m args below meth c H locs cells slots Q (F0 m pc ls (.ref a :: rest)) := hx_get cx.x cx.b cx.ts i_Tp cx.o cx.K he rfl 3 (by decide) (cx.ts _ tw_223) (fun _ h => h) hv hdg kk
theorem pf_Rd_143_Tp (cx : Cx E p s m args meth c "BaselineText$Reader" cc nL ret) (he : hOb (eD E) classes H a 2 fs) (hlo : hLo (eB E) locs) (hB : eB E ≤ a) {x : Int32} (hl : 3 < fs.length) (hdg : decode cc pc = .ok (.putfield 143, 3)) (kk : ∀ (H1 : Heap) (locs1 : List Loc), hOb (eD E) classes H1 a 2 (fs.set 3 (.int x)) → H1.size = H.size → (∀ q : Nat, q ≠ a → H1[q]? = H[q]?) → hLo (eB E) locs1 → W p l e R s m args below meth c H1 locs1 cells slots Q (F0 m (pc + 3) ls (rest))) : W p l e R s m args below meth c H locs cells slots Q (F0 m pc ls (.int x :: .ref a :: rest)) := hx_put cx.x cx.b cx.ts i_Tp t_Tp t_Tp_ok n_Tp cx.o cx.K he hlo hB rfl 3 (by decide) (cx.ts _ tw_223) (fun _ h => h) rfl (t_Tp_ok 3 (by decide)) rfl rfl hl hdg kk
theorem iv_Rd_146 (cx : Cx E p s m args meth c "BaselineText$Reader" cc nL ret) (hM : Ct l E y_Vo_marks b_Vo_marks 1 (some .int) rm As H Qc) (hn : As.length = 1) (hsize : ls.size = nL) (hst : st0 = As.reverse ++ rest) (hW : (rest.map fun v => v.category).sum ≤ 8) (hdg : decode cc pc = .ok (.invokestatic 146, 3)) (hR : rm.frames + 1 ≤ R.frames ∧ 8 + (1 + 11) + rm.locals ≤ R.locals) (hf : cells + rm.cells ≤ R.cells ∧ slots + rm.slots ≤ R.slots) : va_Run p l e R s m args below meth c H locs cells slots rm.cells rm.slots (F0 m pc ls st0) rest (Qc (As).toArray) (fun q => eB E ≤ q) := rn_S (y := y_Vo_marks) tw_396 tw_394 tw_395 tw_17 ⟨by decide, by decide, by rfl⟩ cx hM hn hsize hst hW hdg hR hf
theorem iv_Rd_150_Rd (cx : Cx E p s m args meth c "BaselineText$Reader" cc nL ret) (hM : Ct l E y_Rd_markHere b_Rd_markHere 3 (some .int) rm (.ref b :: As) H Qc) (hrecv : hOb (eD E) classes H b 8 fs) (hn : As.length = 1) (hsize : ls.size = nL) (hst : st0 = As.reverse ++ .ref b :: rest) (hW : (rest.map fun v => v.category).sum ≤ 8) (hdg : decode cc pc = .ok (.invokevirtual 150, 3)) (hR : rm.frames + 1 ≤ R.frames ∧ 8 + (3 + 11) + rm.locals ≤ R.locals) (hf : cells + rm.cells ≤ R.cells ∧ slots + rm.slots ≤ R.slots) : va_Run p l e R s m args below meth c H locs cells slots rm.cells rm.slots (F0 m pc ls st0) rest (Qc (Value.ref b :: As).toArray) (fun q => eB E ≤ q) := rn_V (y := y_Rd_markHere) tw_400 tw_397 tw_399 ps_Rd_markHere tw_10 ⟨by decide, by decide, by rfl⟩ cx hM (hrecv.recv cx.K rfl) hn hsize hst hW hdg hR hf
theorem iv_Rd_153 (cx : Cx E p s m args meth c "BaselineText$Reader" cc nL ret) (hM : Ct l E y_Vo_mark b_Vo_mark 2 (some (.object "java/lang/String")) rm As H Qc) (hn : As.length = 2) (hsize : ls.size = nL) (hst : st0 = As.reverse ++ rest) (hW : (rest.map fun v => v.category).sum ≤ 8) (hdg : decode cc pc = .ok (.invokestatic 153, 3)) (hR : rm.frames + 1 ≤ R.frames ∧ 8 + (2 + 11) + rm.locals ≤ R.locals) (hf : cells + rm.cells ≤ R.cells ∧ slots + rm.slots ≤ R.slots) : va_Run p l e R s m args below meth c H locs cells slots rm.cells rm.slots (F0 m pc ls st0) rest (Qc (As).toArray) (fun q => eB E ≤ q) := rn_S (y := y_Vo_mark) tw_403 tw_401 tw_402 tw_17 ⟨by decide, by decide, by rfl⟩ cx hM hn hsize hst hW hdg hR hf
theorem iv_Rd_157 (cx : Cx E p s m args meth c "BaselineText$Reader" cc nL ret) (hM : Ct l E y_Vo_kinds b_Vo_kinds 1 (some .int) rm As H Qc) (hn : As.length = 1) (hsize : ls.size = nL) (hst : st0 = As.reverse ++ rest) (hW : (rest.map fun v => v.category).sum ≤ 8) (hdg : decode cc pc = .ok (.invokestatic 157, 3)) (hR : rm.frames + 1 ≤ R.frames ∧ 8 + (1 + 11) + rm.locals ≤ R.locals) (hf : cells + rm.cells ≤ R.cells ∧ slots + rm.slots ≤ R.slots) : va_Run p l e R s m args below meth c H locs cells slots rm.cells rm.slots (F0 m pc ls st0) rest (Qc (As).toArray) (fun q => eB E ≤ q) := rn_S (y := y_Vo_kinds) tw_421 tw_419 tw_420 tw_17 ⟨by decide, by decide, by rfl⟩ cx hM hn hsize hst hW hdg hR hf
theorem iv_Rd_160 (cx : Cx E p s m args meth c "BaselineText$Reader" cc nL ret) (hM : Ct l E y_Vo_kind b_Vo_kind 2 (some (.object "java/lang/String")) rm As H Qc) (hn : As.length = 2) (hsize : ls.size = nL) (hst : st0 = As.reverse ++ rest) (hW : (rest.map fun v => v.category).sum ≤ 8) (hdg : decode cc pc = .ok (.invokestatic 160, 3)) (hR : rm.frames + 1 ≤ R.frames ∧ 8 + (2 + 11) + rm.locals ≤ R.locals) (hf : cells + rm.cells ≤ R.cells ∧ slots + rm.slots ≤ R.slots) : va_Run p l e R s m args below meth c H locs cells slots rm.cells rm.slots (F0 m pc ls st0) rest (Qc (As).toArray) (fun q => eB E ≤ q) := rn_S (y := y_Vo_kind) tw_424 tw_422 tw_423 tw_17 ⟨by decide, by decide, by rfl⟩ cx hM hn hsize hst hW hdg hR hf
theorem iv_Rd_162_Bl (cx : Cx E p s m args meth c "BaselineText$Reader" cc nL ret) (hM : Ct l E y_Bl_named b_Bl_named 4 (some (.object "BaselineText$Type")) rm (.ref b :: As) H Qc) (hrecv : hOb (eD E) classes H b 5 fs) (hn : As.length = 1) (hsize : ls.size = nL) (hst : st0 = As.reverse ++ .ref b :: rest) (hW : (rest.map fun v => v.category).sum ≤ 8) (hdg : decode cc pc = .ok (.invokevirtual 162, 3)) (hR : rm.frames + 1 ≤ R.frames ∧ 8 + (4 + 11) + rm.locals ≤ R.locals) (hf : cells + rm.cells ≤ R.cells ∧ slots + rm.slots ≤ R.slots) : va_Run p l e R s m args below meth c H locs cells slots rm.cells rm.slots (F0 m pc ls st0) rest (Qc (Value.ref b :: As).toArray) (fun q => eB E ≤ q) := rn_V (y := y_Bl_named) tw_624 tw_621 tw_622 tw_623 tw_4 ⟨by decide, by decide, by rfl⟩ cx hM (hrecv.recv cx.K rfl) hn hsize hst hW hdg hR hf
theorem gf_Rd_166_Bl (cx : Cx E p s m args meth c "BaselineText$Reader" cc nL ret) (he : hOb (eD E) classes H a 5 fs) {v : Value} (hv : fs[0]? = some v) (hdg : decode cc pc = .ok (.getfield 166, 3)) (kk : W p l e R s m args below meth c H locs cells slots Q (F0 m (pc + 3) ls (v :: rest))) : W p l e R s m args below meth c H locs cells slots Q (F0 m pc ls (.ref a :: rest)) := hx_get cx.x cx.b cx.ts i_Bl cx.o cx.K he rfl 0 (by decide) (cx.ts _ tw_123) (fun _ h => h) hv hdg kk
theorem iv_Rd_170_Sf (cx : Cx E p s m args meth c "BaselineText$Reader" cc nL ret) (hM : Ct l E y_Sf_isFull b_Sf_isFull 1 (some .boolean) rm (.ref b :: As) H Qc) (hrecv : hOb (eD E) classes H b 3 fs) (hn : As.length = 0) (hsize : ls.size = nL) (hst : st0 = As.reverse ++ .ref b :: rest) (hW : (rest.map fun v => v.category).sum ≤ 8) (hdg : decode cc pc = .ok (.invokevirtual 170, 3)) (hR : rm.frames + 1 ≤ R.frames ∧ 8 + (1 + 11) + rm.locals ≤ R.locals) (hf : cells + rm.cells ≤ R.cells ∧ slots + rm.slots ≤ R.slots) : va_Run p l e R s m args below meth c H locs cells slots rm.cells rm.slots (F0 m pc ls st0) rest (Qc (Value.ref b :: As).toArray) (fun q => eB E ≤ q) := rn_V (y := y_Sf_isFull) tw_523 tw_520 tw_521 tw_522 tw_5 ⟨by decide, by decide, by rfl⟩ cx hM (hrecv.recv cx.K rfl) hn hsize hst hW hdg hR hf
theorem iv_Rd_175_Bl (cx : Cx E p s m args meth c "BaselineText$Reader" cc nL ret) (hM : Ct l E y_Bl_addType b_Bl_addType 4 (some (.object "BaselineText$Type")) rm (.ref b :: As) H Qc) (hrecv : hOb (eD E) classes H b 5 fs) (hn : As.length = 1) (hsize : ls.size = nL) (hst : st0 = As.reverse ++ .ref b :: rest) (hW : (rest.map fun v => v.category).sum ≤ 8) (hdg : decode cc pc = .ok (.invokevirtual 175, 3)) (hR : rm.frames + 1 ≤ R.frames ∧ 8 + (4 + 11) + rm.locals ≤ R.locals) (hf : cells + rm.cells ≤ R.cells ∧ slots + rm.slots ≤ R.slots) : va_Run p l e R s m args below meth c H locs cells slots rm.cells rm.slots (F0 m pc ls st0) rest (Qc (Value.ref b :: As).toArray) (fun q => eB E ≤ q) := rn_V (y := y_Bl_addType) tw_635 tw_632 tw_633 tw_634 tw_4 ⟨by decide, by decide, by rfl⟩ cx hM (hrecv.recv cx.K rfl) hn hsize hst hW hdg hR hf
theorem gf_Rd_179_Rd (cx : Cx E p s m args meth c "BaselineText$Reader" cc nL ret) (he : hOb (eD E) classes H a 8 fs) {v : Value} (hv : fs[7]? = some v) (hdg : decode cc pc = .ok (.getfield 179, 3)) (kk : W p l e R s m args below meth c H locs cells slots Q (F0 m (pc + 3) ls (v :: rest))) : W p l e R s m args below meth c H locs cells slots Q (F0 m pc ls (.ref a :: rest)) := hx_get cx.x cx.b cx.ts i_Rd cx.o cx.K he rfl 7 (by decide) (cx.ts _ tw_265) (fun _ h => h) hv hdg kk
theorem pf_Rd_179_Rd (cx : Cx E p s m args meth c "BaselineText$Reader" cc nL ret) (he : hOb (eD E) classes H a 8 fs) (hlo : hLo (eB E) locs) (hB : eB E ≤ a) {x : Option Nat} (hl : 7 < fs.length) (hdg : decode cc pc = .ok (.putfield 179, 3)) (kk : ∀ (H1 : Heap) (locs1 : List Loc), hOb (eD E) classes H1 a 8 (fs.set 7 (va_rf x)) → H1.size = H.size → (∀ q : Nat, q ≠ a → H1[q]? = H[q]?) → hLo (eB E) locs1 → W p l e R s m args below meth c H1 locs1 cells slots Q (F0 m (pc + 3) ls (rest))) : W p l e R s m args below meth c H locs cells slots Q (F0 m pc ls (va_rf x :: .ref a :: rest)) := hx_put cx.x cx.b cx.ts i_Rd t_Rd t_Rd_ok n_Rd cx.o cx.K he hlo hB rfl 7 (by decide) (cx.ts _ tw_265) (fun _ h => h) rfl (t_Rd_ok 7 (by decide)) (by cases x <;> rfl) (by cases x <;> rfl) hl hdg kk
theorem gf_Rd_183_Tp (cx : Cx E p s m args meth c "BaselineText$Reader" cc nL ret) (he : hOb (eD E) classes H a 2 fs) {v : Value} (hv : fs[4]? = some v) (hdg : decode cc pc = .ok (.getfield 183, 3)) (kk : W p l e R s m args below meth c H locs cells slots Q (F0 m (pc + 3) ls (v :: rest))) : W p l e R s m args below meth c H locs cells slots Q (F0 m pc ls (.ref a :: rest)) := hx_get cx.x cx.b cx.ts i_Tp cx.o cx.K he rfl 4 (by decide) (cx.ts _ tw_645) (fun _ h => h) hv hdg kk
theorem iv_Rd_188_Sf (cx : Cx E p s m args meth c "BaselineText$Reader" cc nL ret) (hM : Ct l E y_Sf_alike b_Sf_alike 4 (some (.object "BaselineText$Declaration")) rm (.ref b :: As) H Qc) (hrecv : hOb (eD E) classes H b 3 fs) (hn : As.length = 1) (hsize : ls.size = nL) (hst : st0 = As.reverse ++ .ref b :: rest) (hW : (rest.map fun v => v.category).sum ≤ 8) (hdg : decode cc pc = .ok (.invokevirtual 188, 3)) (hR : rm.frames + 1 ≤ R.frames ∧ 8 + (4 + 11) + rm.locals ≤ R.locals) (hf : cells + rm.cells ≤ R.cells ∧ slots + rm.slots ≤ R.slots) : va_Run p l e R s m args below meth c H locs cells slots rm.cells rm.slots (F0 m pc ls st0) rest (Qc (Value.ref b :: As).toArray) (fun q => eB E ≤ q) := rn_V (y := y_Sf_alike) tw_488 tw_485 tw_486 tw_487 tw_5 ⟨by decide, by decide, by rfl⟩ cx hM (hrecv.recv cx.K rfl) hn hsize hst hW hdg hR hf
theorem iv_Rd_192_Tp (cx : Cx E p s m args meth c "BaselineText$Reader" cc nL ret) (hM : Ct l E y_Tp_addMember b_Tp_addMember 4 none rm (.ref b :: As) H Qc) (hrecv : hOb (eD E) classes H b 2 fs) (hn : As.length = 1) (hsize : ls.size = nL) (hst : st0 = As.reverse ++ .ref b :: rest) (hW : (rest.map fun v => v.category).sum ≤ 8) (hdg : decode cc pc = .ok (.invokevirtual 192, 3)) (hR : rm.frames + 1 ≤ R.frames ∧ 8 + (4 + 11) + rm.locals ≤ R.locals) (hf : cells + rm.cells ≤ R.cells ∧ slots + rm.slots ≤ R.slots) : va_Run p l e R s m args below meth c H locs cells slots rm.cells rm.slots (F0 m pc ls st0) rest (Qc (Value.ref b :: As).toArray) (fun q => eB E ≤ q) := rn_V (y := y_Tp_addMember) tw_527 tw_524 tw_525 tw_526 tw_24 ⟨by decide, by decide, by rfl⟩ cx hM (hrecv.recv cx.K rfl) hn hsize hst hW hdg hR hf
theorem gf_Rw_9_Rw (cx : Cx E p s m args meth c "BaselineText$Row" cc nL ret) (he : hOb (eD E) classes H a 0 fs) {v : Value} (hv : fs[0]? = some v) (hdg : decode cc pc = .ok (.getfield 9, 3)) (kk : W p l e R s m args below meth c H locs cells slots Q (F0 m (pc + 3) ls (v :: rest))) : W p l e R s m args below meth c H locs cells slots Q (F0 m pc ls (.ref a :: rest)) := hx_get cx.x cx.b cx.ts i_Rw cx.o cx.K he rfl 0 (by decide) (cx.ts _ tw_39) (fun _ h => h) hv hdg kk
theorem pf_Rw_9_Rw (cx : Cx E p s m args meth c "BaselineText$Row" cc nL ret) (hin2 : meth.name = "<init>") (he : hOb (eD E) classes H a 0 fs) (hlo : hLo (eB E) locs) (hB : eB E ≤ a) {x : Option Nat} (hl : 0 < fs.length) (hdg : decode cc pc = .ok (.putfield 9, 3)) (kk : ∀ (H1 : Heap) (locs1 : List Loc), hOb (eD E) classes H1 a 0 (fs.set 0 (va_rf x)) → H1.size = H.size → (∀ q : Nat, q ≠ a → H1[q]? = H[q]?) → hLo (eB E) locs1 → W p l e R s m args below meth c H1 locs1 cells slots Q (F0 m (pc + 3) ls (rest))) : W p l e R s m args below meth c H locs cells slots Q (F0 m pc ls (va_rf x :: .ref a :: rest)) := hx_putF cx.x cx.b cx.ts i_Rw t_Rw t_Rw_ok n_Rw cx.o cx.K he hlo hB rfl 0 (by decide) (cx.ts _ tw_39) (fun _ h => h) rfl hin2 rfl (t_Rw_ok 0 (by decide)) (by cases x <;> rfl) (by cases x <;> rfl) hl hdg kk
theorem gf_Rw_15_Rw (cx : Cx E p s m args meth c "BaselineText$Row" cc nL ret) (he : hOb (eD E) classes H a 0 fs) {v : Value} (hv : fs[1]? = some v) (hdg : decode cc pc = .ok (.getfield 15, 3)) (kk : W p l e R s m args below meth c H locs cells slots Q (F0 m (pc + 3) ls (v :: rest))) : W p l e R s m args below meth c H locs cells slots Q (F0 m pc ls (.ref a :: rest)) := hx_get cx.x cx.b cx.ts i_Rw cx.o cx.K he rfl 1 (by decide) (cx.ts _ tw_40) (fun _ h => h) hv hdg kk
theorem pf_Rw_15_Rw (cx : Cx E p s m args meth c "BaselineText$Row" cc nL ret) (he : hOb (eD E) classes H a 0 fs) (hlo : hLo (eB E) locs) (hB : eB E ≤ a) {x : Int32} (hl : 1 < fs.length) (hdg : decode cc pc = .ok (.putfield 15, 3)) (kk : ∀ (H1 : Heap) (locs1 : List Loc), hOb (eD E) classes H1 a 0 (fs.set 1 (.int x)) → H1.size = H.size → (∀ q : Nat, q ≠ a → H1[q]? = H[q]?) → hLo (eB E) locs1 → W p l e R s m args below meth c H1 locs1 cells slots Q (F0 m (pc + 3) ls (rest))) : W p l e R s m args below meth c H locs cells slots Q (F0 m pc ls (.int x :: .ref a :: rest)) := hx_put cx.x cx.b cx.ts i_Rw t_Rw t_Rw_ok n_Rw cx.o cx.K he hlo hB rfl 1 (by decide) (cx.ts _ tw_40) (fun _ h => h) rfl (t_Rw_ok 1 (by decide)) rfl rfl hl hdg kk
theorem gf_Rw_19_Rw (cx : Cx E p s m args meth c "BaselineText$Row" cc nL ret) (he : hOb (eD E) classes H a 0 fs) {v : Value} (hv : fs[2]? = some v) (hdg : decode cc pc = .ok (.getfield 19, 3)) (kk : W p l e R s m args below meth c H locs cells slots Q (F0 m (pc + 3) ls (v :: rest))) : W p l e R s m args below meth c H locs cells slots Q (F0 m pc ls (.ref a :: rest)) := hx_get cx.x cx.b cx.ts i_Rw cx.o cx.K he rfl 2 (by decide) (cx.ts _ tw_41) (fun _ h => h) hv hdg kk
theorem pf_Rw_19_Rw (cx : Cx E p s m args meth c "BaselineText$Row" cc nL ret) (he : hOb (eD E) classes H a 0 fs) (hlo : hLo (eB E) locs) (hB : eB E ≤ a) {x : Int32} (hz : narrow .boolean (.int x) = .int x ∧ fits .boolean (.int x) = true) (hl : 2 < fs.length) (hdg : decode cc pc = .ok (.putfield 19, 3)) (kk : ∀ (H1 : Heap) (locs1 : List Loc), hOb (eD E) classes H1 a 0 (fs.set 2 (.int x)) → H1.size = H.size → (∀ q : Nat, q ≠ a → H1[q]? = H[q]?) → hLo (eB E) locs1 → W p l e R s m args below meth c H1 locs1 cells slots Q (F0 m (pc + 3) ls (rest))) : W p l e R s m args below meth c H locs cells slots Q (F0 m pc ls (.int x :: .ref a :: rest)) := hx_put cx.x cx.b cx.ts i_Rw t_Rw t_Rw_ok n_Rw cx.o cx.K he hlo hB rfl 2 (by decide) (cx.ts _ tw_41) (fun _ h => h) rfl (t_Rw_ok 2 (by decide)) hz.1 hz.2 hl hdg kk
theorem iv_Rw_23_St (cx : Cx E p s m args meth c "BaselineText$Row" cc nL ret) (hM : Ct l E y_St_length b_St_length 1 (some .int) rm (.ref b :: As) H Qc) (hrecv : ∃ cell : Cell, H[b]? = some cell ∧ cell.vm.isStatics = false ∧ s.vm.findClass "java/lang/String" = some cell.cls) (hn : As.length = 0) (hsize : ls.size = nL) (hst : st0 = As.reverse ++ .ref b :: rest) (hW : (rest.map fun v => v.category).sum ≤ 8) (hdg : decode cc pc = .ok (.invokevirtual 23, 3)) (hR : rm.frames + 1 ≤ R.frames ∧ 8 + (1 + 11) + rm.locals ≤ R.locals) (hf : cells + rm.cells ≤ R.cells ∧ slots + rm.slots ≤ R.slots) : va_Run p l e R s m args below meth c H locs cells slots rm.cells rm.slots (F0 m pc ls st0) rest (Qc (Value.ref b :: As).toArray) (fun q => eB E ≤ q) := rn_V (y := y_St_length) tw_328 tw_451 tw_326 tw_327 tw_13 ⟨by decide, by decide, by rfl⟩ cx hM hrecv hn hsize hst hW hdg hR hf
theorem iv_Rw_28_St (cx : Cx E p s m args meth c "BaselineText$Row" cc nL ret) (hM : Ct l E y_St_charAt b_St_charAt 2 (some .char) rm (.ref b :: As) H Qc) (hrecv : ∃ cell : Cell, H[b]? = some cell ∧ cell.vm.isStatics = false ∧ s.vm.findClass "java/lang/String" = some cell.cls) (hn : As.length = 1) (hsize : ls.size = nL) (hst : st0 = As.reverse ++ .ref b :: rest) (hW : (rest.map fun v => v.category).sum ≤ 8) (hdg : decode cc pc = .ok (.invokevirtual 28, 3)) (hR : rm.frames + 1 ≤ R.frames ∧ 8 + (2 + 11) + rm.locals ≤ R.locals) (hf : cells + rm.cells ≤ R.cells ∧ slots + rm.slots ≤ R.slots) : va_Run p l e R s m args below meth c H locs cells slots rm.cells rm.slots (F0 m pc ls st0) rest (Qc (Value.ref b :: As).toArray) (fun q => eB E ≤ q) := rn_V (y := y_St_charAt) tw_338 tw_452 tw_336 tw_337 tw_13 ⟨by decide, by decide, by rfl⟩ cx hM hrecv hn hsize hst hW hdg hR hf
theorem iv_Rw_32_Rw (cx : Cx E p s m args meth c "BaselineText$Row" cc nL ret) (hM : Ct l E y_Rw_add b_Rw_add 2 none rm (.ref b :: As) H Qc) (hrecv : hOb (eD E) classes H b 0 fs) (hn : As.length = 1) (hsize : ls.size = nL) (hst : st0 = As.reverse ++ .ref b :: rest) (hW : (rest.map fun v => v.category).sum ≤ 8) (hdg : decode cc pc = .ok (.invokevirtual 32, 3)) (hR : rm.frames + 1 ≤ R.frames ∧ 8 + (2 + 11) + rm.locals ≤ R.locals) (hf : cells + rm.cells ≤ R.cells ∧ slots + rm.slots ≤ R.slots) : va_Run p l e R s m args below meth c H locs cells slots rm.cells rm.slots (F0 m pc ls st0) rest (Qc (Value.ref b :: As).toArray) (fun q => eB E ≤ q) := rn_V (y := y_Rw_add) tw_165 tw_556 tw_163 tw_164 tw_2 ⟨by decide, by decide, by rfl⟩ cx hM (hrecv.recv cx.K rfl) hn hsize hst hW hdg hR hf
theorem iv_Rw_36_Rw (cx : Cx E p s m args meth c "BaselineText$Row" cc nL ret) (hM : Ct l E y_Rw_empty b_Rw_empty 1 none rm (.ref b :: As) H Qc) (hrecv : hOb (eD E) classes H b 0 fs) (hn : As.length = 0) (hsize : ls.size = nL) (hst : st0 = As.reverse ++ .ref b :: rest) (hW : (rest.map fun v => v.category).sum ≤ 8) (hdg : decode cc pc = .ok (.invokevirtual 36, 3)) (hR : rm.frames + 1 ≤ R.frames ∧ 8 + (1 + 11) + rm.locals ≤ R.locals) (hf : cells + rm.cells ≤ R.cells ∧ slots + rm.slots ≤ R.slots) : va_Run p l e R s m args below meth c H locs cells slots rm.cells rm.slots (F0 m pc ls st0) rest (Qc (Value.ref b :: As).toArray) (fun q => eB E ≤ q) := rn_V (y := y_Rw_empty) tw_173 tw_555 tw_171 tw_172 tw_2 ⟨by decide, by decide, by rfl⟩ cx hM (hrecv.recv cx.K rfl) hn hsize hst hW hdg hR hf
theorem nw_Sf_7 (cx : Cx E p s m args meth c "BaselineText$Shelf" cc nL ret) (hcells : cells + 1 ≤ R.cells) (hslots : slots + 3 ≤ R.slots) (hdg : decode cc pc = .ok (.new 7, 3)) (kk : ∀ H1 : Heap, hOb (eD E) classes H1 H.size 4 [.null, .int 0, .int 0] → H1.size = H.size + 1 → (∀ q : Nat, q < H.size → H1[q]? = H[q]?) → W p l e R s m args below meth c H1 locs (cells + 1) (slots + 3) Q (F0 m (pc + 3) ls (.ref H.size :: rest))) : W p l e R s m args below meth c H locs cells slots Q (F0 m pc ls rest) := hx_new cx.x cx.b cx.ts i_AL t_AL t_AL_ok cx.o (cx.ts _ tw_85) (cx.ts _ tw_86) (cx.ts _ tw_8) cx.K rfl (fun j hj => by match j, hj with | 0, _ => rfl | 1, _ => rfl | 2, _ => rfl | j + 3, hj => exact absurd hj (by omega)) hcells hslots hdg kk
theorem iv_Sf_9 (cx : Cx E p s m args meth c "BaselineText$Shelf" cc nL ret) (hM : Ct l E y_AL_init b_AL_init 1 none rm (.ref b :: As) H Qc) (hn : As.length = 0) (hsize : ls.size = nL) (hst : st0 = As.reverse ++ .ref b :: rest) (hW : (rest.map fun v => v.category).sum ≤ 8) (hdg : decode cc pc = .ok (.invokespecial 9, 3)) (hR : rm.frames + 1 ≤ R.frames ∧ 8 + (1 + 11) + rm.locals ≤ R.locals) (hf : cells + rm.cells ≤ R.cells ∧ slots + rm.slots ≤ R.slots) : va_Run p l e R s m args below meth c H locs cells slots rm.cells rm.slots (F0 m pc ls st0) rest (Qc (Value.ref b :: As).toArray) (fun q => eB E ≤ q) := rn_I (y := y_AL_init) tw_89 tw_87 tw_88 tw_8 rfl ⟨by decide, by decide, by rfl⟩ cx hM hn hsize hst hW hdg hR hf
theorem gf_Sf_10_Sf (cx : Cx E p s m args meth c "BaselineText$Shelf" cc nL ret) (he : hOb (eD E) classes H a 3 fs) {v : Value} (hv : fs[0]? = some v) (hdg : decode cc pc = .ok (.getfield 10, 3)) (kk : W p l e R s m args below meth c H locs cells slots Q (F0 m (pc + 3) ls (v :: rest))) : W p l e R s m args below meth c H locs cells slots Q (F0 m pc ls (.ref a :: rest)) := hx_get cx.x cx.b cx.ts i_Sf cx.o cx.K he rfl 0 (by decide) (cx.ts _ tw_111) (fun _ h => h) hv hdg kk
theorem pf_Sf_10_Sf (cx : Cx E p s m args meth c "BaselineText$Shelf" cc nL ret) (hin2 : meth.name = "<init>") (he : hOb (eD E) classes H a 3 fs) (hlo : hLo (eB E) locs) (hB : eB E ≤ a) {x : Option Nat} (hl : 0 < fs.length) (hdg : decode cc pc = .ok (.putfield 10, 3)) (kk : ∀ (H1 : Heap) (locs1 : List Loc), hOb (eD E) classes H1 a 3 (fs.set 0 (va_rf x)) → H1.size = H.size → (∀ q : Nat, q ≠ a → H1[q]? = H[q]?) → hLo (eB E) locs1 → W p l e R s m args below meth c H1 locs1 cells slots Q (F0 m (pc + 3) ls (rest))) : W p l e R s m args below meth c H locs cells slots Q (F0 m pc ls (va_rf x :: .ref a :: rest)) := hx_putF cx.x cx.b cx.ts i_Sf t_Sf t_Sf_ok n_Sf cx.o cx.K he hlo hB rfl 0 (by decide) (cx.ts _ tw_111) (fun _ h => h) rfl hin2 rfl (t_Sf_ok 0 (by decide)) (by cases x <;> rfl) (by cases x <;> rfl) hl hdg kk
theorem gf_Sf_16_Sf (cx : Cx E p s m args meth c "BaselineText$Shelf" cc nL ret) (he : hOb (eD E) classes H a 3 fs) {v : Value} (hv : fs[1]? = some v) (hdg : decode cc pc = .ok (.getfield 16, 3)) (kk : W p l e R s m args below meth c H locs cells slots Q (F0 m (pc + 3) ls (v :: rest))) : W p l e R s m args below meth c H locs cells slots Q (F0 m pc ls (.ref a :: rest)) := hx_get cx.x cx.b cx.ts i_Sf cx.o cx.K he rfl 1 (by decide) (cx.ts _ tw_112) (fun _ h => h) hv hdg kk
theorem pf_Sf_16_Sf (cx : Cx E p s m args meth c "BaselineText$Shelf" cc nL ret) (hin2 : meth.name = "<init>") (he : hOb (eD E) classes H a 3 fs) (hlo : hLo (eB E) locs) (hB : eB E ≤ a) {x : Int32} (hl : 1 < fs.length) (hdg : decode cc pc = .ok (.putfield 16, 3)) (kk : ∀ (H1 : Heap) (locs1 : List Loc), hOb (eD E) classes H1 a 3 (fs.set 1 (.int x)) → H1.size = H.size → (∀ q : Nat, q ≠ a → H1[q]? = H[q]?) → hLo (eB E) locs1 → W p l e R s m args below meth c H1 locs1 cells slots Q (F0 m (pc + 3) ls (rest))) : W p l e R s m args below meth c H locs cells slots Q (F0 m pc ls (.int x :: .ref a :: rest)) := hx_putF cx.x cx.b cx.ts i_Sf t_Sf t_Sf_ok n_Sf cx.o cx.K he hlo hB rfl 1 (by decide) (cx.ts _ tw_112) (fun _ h => h) rfl hin2 rfl (t_Sf_ok 1 (by decide)) rfl rfl hl hdg kk
theorem gf_Sf_20_Sf (cx : Cx E p s m args meth c "BaselineText$Shelf" cc nL ret) (he : hOb (eD E) classes H a 3 fs) {v : Value} (hv : fs[2]? = some v) (hdg : decode cc pc = .ok (.getfield 20, 3)) (kk : W p l e R s m args below meth c H locs cells slots Q (F0 m (pc + 3) ls (v :: rest))) : W p l e R s m args below meth c H locs cells slots Q (F0 m pc ls (.ref a :: rest)) := hx_get cx.x cx.b cx.ts i_Sf cx.o cx.K he rfl 2 (by decide) (cx.ts _ tw_113) (fun _ h => h) hv hdg kk
theorem pf_Sf_20_Sf (cx : Cx E p s m args meth c "BaselineText$Shelf" cc nL ret) (he : hOb (eD E) classes H a 3 fs) (hlo : hLo (eB E) locs) (hB : eB E ≤ a) {x : Int32} (hl : 2 < fs.length) (hdg : decode cc pc = .ok (.putfield 20, 3)) (kk : ∀ (H1 : Heap) (locs1 : List Loc), hOb (eD E) classes H1 a 3 (fs.set 2 (.int x)) → H1.size = H.size → (∀ q : Nat, q ≠ a → H1[q]? = H[q]?) → hLo (eB E) locs1 → W p l e R s m args below meth c H1 locs1 cells slots Q (F0 m (pc + 3) ls (rest))) : W p l e R s m args below meth c H locs cells slots Q (F0 m pc ls (.int x :: .ref a :: rest)) := hx_put cx.x cx.b cx.ts i_Sf t_Sf t_Sf_ok n_Sf cx.o cx.K he hlo hB rfl 2 (by decide) (cx.ts _ tw_113) (fun _ h => h) rfl (t_Sf_ok 2 (by decide)) rfl rfl hl hdg kk
theorem iv_Sf_23_AL (cx : Cx E p s m args meth c "BaselineText$Shelf" cc nL ret) (hM : Ct l E y_AL_size b_AL_size 1 (some .int) rm (.ref b :: As) H Qc) (hrecv : hOb (eD E) classes H b 4 fs) (hn : As.length = 0) (hsize : ls.size = nL) (hst : st0 = As.reverse ++ .ref b :: rest) (hW : (rest.map fun v => v.category).sum ≤ 8) (hdg : decode cc pc = .ok (.invokevirtual 23, 3)) (hR : rm.frames + 1 ≤ R.frames ∧ 8 + (1 + 11) + rm.locals ≤ R.locals) (hf : cells + rm.cells ≤ R.cells ∧ slots + rm.slots ≤ R.slots) : va_Run p l e R s m args below meth c H locs cells slots rm.cells rm.slots (F0 m pc ls st0) rest (Qc (Value.ref b :: As).toArray) (fun q => eB E ≤ q) := rn_V (y := y_AL_size) tw_496 tw_493 tw_494 tw_495 tw_8 ⟨by decide, by decide, by rfl⟩ cx hM (hrecv.recv cx.K rfl) hn hsize hst hW hdg hR hf
theorem iv_Sf_27_AL (cx : Cx E p s m args meth c "BaselineText$Shelf" cc nL ret) (hM : Ct l E y_AL_get b_AL_get 2 (some (.object "java/lang/Object")) rm (.ref b :: As) H Qc) (hrecv : hOb (eD E) classes H b 4 fs) (hn : As.length = 1) (hsize : ls.size = nL) (hst : st0 = As.reverse ++ .ref b :: rest) (hW : (rest.map fun v => v.category).sum ≤ 8) (hdg : decode cc pc = .ok (.invokevirtual 27, 3)) (hR : rm.frames + 1 ≤ R.frames ∧ 8 + (2 + 11) + rm.locals ≤ R.locals) (hf : cells + rm.cells ≤ R.cells ∧ slots + rm.slots ≤ R.slots) : va_Run p l e R s m args below meth c H locs cells slots rm.cells rm.slots (F0 m pc ls st0) rest (Qc (Value.ref b :: As).toArray) (fun q => eB E ≤ q) := rn_V (y := y_AL_get) tw_500 tw_497 tw_498 tw_499 tw_8 ⟨by decide, by decide, by rfl⟩ cx hM (hrecv.recv cx.K rfl) hn hsize hst hW hdg hR hf
theorem iv_Sf_33_AL (cx : Cx E p s m args meth c "BaselineText$Shelf" cc nL ret) (hM : Ct l E y_AL_remove b_AL_remove 4 (some (.object "java/lang/Object")) rm (.ref b :: As) H Qc) (hrecv : hOb (eD E) classes H b 4 fs) (hn : As.length = 1) (hsize : ls.size = nL) (hst : st0 = As.reverse ++ .ref b :: rest) (hW : (rest.map fun v => v.category).sum ≤ 8) (hdg : decode cc pc = .ok (.invokevirtual 33, 3)) (hR : rm.frames + 1 ≤ R.frames ∧ 8 + (4 + 11) + rm.locals ≤ R.locals) (hf : cells + rm.cells ≤ R.cells ∧ slots + rm.slots ≤ R.slots) : va_Run p l e R s m args below meth c H locs cells slots rm.cells rm.slots (F0 m pc ls st0) rest (Qc (Value.ref b :: As).toArray) (fun q => eB E ≤ q) := rn_V (y := y_AL_remove) tw_535 tw_532 tw_533 tw_534 tw_8 ⟨by decide, by decide, by rfl⟩ cx hM (hrecv.recv cx.K rfl) hn hsize hst hW hdg hR hf
theorem iv_Sf_36_Sf (cx : Cx E p s m args meth c "BaselineText$Shelf" cc nL ret) (hM : Ct l E y_Sf_get b_Sf_get 2 (some (.object "BaselineText$Declaration")) rm (.ref b :: As) H Qc) (hrecv : hOb (eD E) classes H b 3 fs) (hn : As.length = 1) (hsize : ls.size = nL) (hst : st0 = As.reverse ++ .ref b :: rest) (hW : (rest.map fun v => v.category).sum ≤ 8) (hdg : decode cc pc = .ok (.invokevirtual 36, 3)) (hR : rm.frames + 1 ≤ R.frames ∧ 8 + (2 + 11) + rm.locals ≤ R.locals) (hf : cells + rm.cells ≤ R.cells ∧ slots + rm.slots ≤ R.slots) : va_Run p l e R s m args below meth c H locs cells slots rm.cells rm.slots (F0 m pc ls st0) rest (Qc (Value.ref b :: As).toArray) (fun q => eB E ≤ q) := rn_V (y := y_Sf_get) tw_492 tw_489 tw_490 tw_491 tw_5 ⟨by decide, by decide, by rfl⟩ cx hM (hrecv.recv cx.K rfl) hn hsize hst hW hdg hR hf
theorem iv_Sf_39_Dc (cx : Cx E p s m args meth c "BaselineText$Shelf" cc nL ret) (hM : Ct l E y_Dc_compare b_Dc_compare 3 (some .int) rm (.ref b :: As) H Qc) (hrecv : hOb (eD E) classes H b 1 fs) (hn : As.length = 1) (hsize : ls.size = nL) (hst : st0 = As.reverse ++ .ref b :: rest) (hW : (rest.map fun v => v.category).sum ≤ 8) (hdg : decode cc pc = .ok (.invokevirtual 39, 3)) (hR : rm.frames + 1 ≤ R.frames ∧ 8 + (3 + 11) + rm.locals ≤ R.locals) (hf : cells + rm.cells ≤ R.cells ∧ slots + rm.slots ≤ R.slots) : va_Run p l e R s m args below meth c H locs cells slots rm.cells rm.slots (F0 m pc ls st0) rest (Qc (Value.ref b :: As).toArray) (fun q => eB E ≤ q) := rn_V (y := y_Dc_compare) tw_515 tw_510 tw_511 tw_512 tw_11 ⟨by decide, by decide, by rfl⟩ cx hM (hrecv.recv cx.K rfl) hn hsize hst hW hdg hR hf
theorem iv_Sf_39_Tp (cx : Cx E p s m args meth c "BaselineText$Shelf" cc nL ret) (hM : Ct l E y_Dc_compare b_Dc_compare 3 (some .int) rm (.ref b :: As) H Qc) (hrecv : hOb (eD E) classes H b 2 fs) (hn : As.length = 1) (hsize : ls.size = nL) (hst : st0 = As.reverse ++ .ref b :: rest) (hW : (rest.map fun v => v.category).sum ≤ 8) (hdg : decode cc pc = .ok (.invokevirtual 39, 3)) (hR : rm.frames + 1 ≤ R.frames ∧ 8 + (3 + 11) + rm.locals ≤ R.locals) (hf : cells + rm.cells ≤ R.cells ∧ slots + rm.slots ≤ R.slots) : va_Run p l e R s m args below meth c H locs cells slots rm.cells rm.slots (F0 m pc ls st0) rest (Qc (Value.ref b :: As).toArray) (fun q => eB E ≤ q) := rn_V (y := y_Dc_compare) tw_515 tw_510 tw_511 tw_514 tw_11 ⟨by decide, by decide, by rfl⟩ cx hM (hrecv.recv cx.K rfl) hn hsize hst hW hdg hR hf
theorem iv_Sf_43_AL (cx : Cx E p s m args meth c "BaselineText$Shelf" cc nL ret) (hM : Ct l E y_AL_add b_AL_add 5 none rm (.ref b :: As) H Qc) (hrecv : hOb (eD E) classes H b 4 fs) (hn : As.length = 2) (hsize : ls.size = nL) (hst : st0 = As.reverse ++ .ref b :: rest) (hW : (rest.map fun v => v.category).sum ≤ 8) (hdg : decode cc pc = .ok (.invokevirtual 43, 3)) (hR : rm.frames + 1 ≤ R.frames ∧ 8 + (5 + 11) + rm.locals ≤ R.locals) (hf : cells + rm.cells ≤ R.cells ∧ slots + rm.slots ≤ R.slots) : va_Run p l e R s m args below meth c H locs cells slots rm.cells rm.slots (F0 m pc ls st0) rest (Qc (Value.ref b :: As).toArray) (fun q => eB E ≤ q) := rn_V (y := y_AL_add) tw_564 tw_561 tw_562 tw_563 tw_8 ⟨by decide, by decide, by rfl⟩ cx hM (hrecv.recv cx.K rfl) hn hsize hst hW hdg hR hf
theorem iv_Tp_3 (cx : Cx E p s m args meth c "BaselineText$Type" cc nL ret) (hM : Ct l E y_Dc_init b_Dc_init 1 none rm (.ref b :: As) H Qc) (hn : As.length = 0) (hsize : ls.size = nL) (hst : st0 = As.reverse ++ .ref b :: rest) (hW : (rest.map fun v => v.category).sum ≤ 8) (hdg : decode cc pc = .ok (.invokespecial 3, 3)) (hR : rm.frames + 1 ≤ R.frames ∧ 8 + (1 + 11) + rm.locals ≤ R.locals) (hf : cells + rm.cells ≤ R.cells ∧ slots + rm.slots ≤ R.slots) : va_Run p l e R s m args below meth c H locs cells slots rm.cells rm.slots (F0 m pc ls st0) rest (Qc (Value.ref b :: As).toArray) (fun q => eB E ≤ q) := rn_IN (y := y_Dc_init) tw_204 (List.mem_of_getElem? (i := 3) rfl) tw_203 tw_11 rfl ⟨by decide, by decide, by rfl⟩ cx hM hn hsize hst hW hdg hR hf
theorem nw_Tp_4 (cx : Cx E p s m args meth c "BaselineText$Type" cc nL ret) (hcells : cells + 1 ≤ R.cells) (hslots : slots + 4 ≤ R.slots) (hdg : decode cc pc = .ok (.new 4, 3)) (kk : ∀ H1 : Heap, hOb (eD E) classes H1 H.size 1 [.null, .null, .int 0, .int 0] → H1.size = H.size + 1 → (∀ q : Nat, q < H.size → H1[q]? = H[q]?) → W p l e R s m args below meth c H1 locs (cells + 1) (slots + 4) Q (F0 m (pc + 3) ls (.ref H.size :: rest))) : W p l e R s m args below meth c H locs cells slots Q (F0 m pc ls rest) := hx_new cx.x cx.b cx.ts i_Dc t_Dc t_Dc_ok cx.o (cx.ts _ tw_543) (cx.ts _ tw_201) (cx.ts _ tw_11) cx.K rfl (fun j hj => by match j, hj with | 0, _ => rfl | 1, _ => rfl | 2, _ => rfl | 3, _ => rfl | j + 4, hj => exact absurd hj (by omega)) hcells hslots hdg kk
theorem nw_Tp_9 (cx : Cx E p s m args meth c "BaselineText$Type" cc nL ret) (hcells : cells + 1 ≤ R.cells) (hslots : slots + 3 ≤ R.slots) (hdg : decode cc pc = .ok (.new 9, 3)) (kk : ∀ H1 : Heap, hOb (eD E) classes H1 H.size 3 [.null, .int 0, .int 0] → H1.size = H.size + 1 → (∀ q : Nat, q < H.size → H1[q]? = H[q]?) → W p l e R s m args below meth c H1 locs (cells + 1) (slots + 3) Q (F0 m (pc + 3) ls (.ref H.size :: rest))) : W p l e R s m args below meth c H locs cells slots Q (F0 m pc ls rest) := hx_new cx.x cx.b cx.ts i_Sf t_Sf t_Sf_ok cx.o (cx.ts _ tw_641) (cx.ts _ tw_80) (cx.ts _ tw_5) cx.K rfl (fun j hj => by match j, hj with | 0, _ => rfl | 1, _ => rfl | 2, _ => rfl | j + 3, hj => exact absurd hj (by omega)) hcells hslots hdg kk
theorem iv_Tp_11 (cx : Cx E p s m args meth c "BaselineText$Type" cc nL ret) (hM : Ct l E y_Sf_init b_Sf_init 2 none rm (.ref b :: As) H Qc) (hn : As.length = 1) (hsize : ls.size = nL) (hst : st0 = As.reverse ++ .ref b :: rest) (hW : (rest.map fun v => v.category).sum ≤ 8) (hdg : decode cc pc = .ok (.invokespecial 11, 3)) (hR : rm.frames + 1 ≤ R.frames ∧ 8 + (2 + 11) + rm.locals ≤ R.locals) (hf : cells + rm.cells ≤ R.cells ∧ slots + rm.slots ≤ R.slots) : va_Run p l e R s m args below meth c H locs cells slots rm.cells rm.slots (F0 m pc ls st0) rest (Qc (Value.ref b :: As).toArray) (fun q => eB E ≤ q) := rn_I (y := y_Sf_init) tw_83 tw_642 tw_82 tw_5 rfl ⟨by decide, by decide, by rfl⟩ cx hM hn hsize hst hW hdg hR hf
theorem gf_Tp_14_Tp (cx : Cx E p s m args meth c "BaselineText$Type" cc nL ret) (he : hOb (eD E) classes H a 2 fs) {v : Value} (hv : fs[4]? = some v) (hdg : decode cc pc = .ok (.getfield 14, 3)) (kk : W p l e R s m args below meth c H locs cells slots Q (F0 m (pc + 3) ls (v :: rest))) : W p l e R s m args below meth c H locs cells slots Q (F0 m pc ls (.ref a :: rest)) := hx_get cx.x cx.b cx.ts i_Tp cx.o cx.K he rfl 4 (by decide) (cx.ts _ tw_643) (fun _ h => h) hv hdg kk
theorem pf_Tp_14_Tp (cx : Cx E p s m args meth c "BaselineText$Type" cc nL ret) (hin2 : meth.name = "<init>") (he : hOb (eD E) classes H a 2 fs) (hlo : hLo (eB E) locs) (hB : eB E ≤ a) {x : Option Nat} (hl : 4 < fs.length) (hdg : decode cc pc = .ok (.putfield 14, 3)) (kk : ∀ (H1 : Heap) (locs1 : List Loc), hOb (eD E) classes H1 a 2 (fs.set 4 (va_rf x)) → H1.size = H.size → (∀ q : Nat, q ≠ a → H1[q]? = H[q]?) → hLo (eB E) locs1 → W p l e R s m args below meth c H1 locs1 cells slots Q (F0 m (pc + 3) ls (rest))) : W p l e R s m args below meth c H locs cells slots Q (F0 m pc ls (va_rf x :: .ref a :: rest)) := hx_putF cx.x cx.b cx.ts i_Tp t_Tp t_Tp_ok n_Tp cx.o cx.K he hlo hB rfl 4 (by decide) (cx.ts _ tw_643) (fun _ h => h) rfl hin2 rfl (t_Tp_ok 4 (by decide)) (by cases x <;> rfl) (by cases x <;> rfl) hl hdg kk
theorem iv_Tp_20_Sf (cx : Cx E p s m args meth c "BaselineText$Type" cc nL ret) (hM : Ct l E y_Sf_takeSpare b_Sf_takeSpare 1 (some (.object "BaselineText$Declaration")) rm (.ref b :: As) H Qc) (hrecv : hOb (eD E) classes H b 3 fs) (hn : As.length = 0) (hsize : ls.size = nL) (hst : st0 = As.reverse ++ .ref b :: rest) (hW : (rest.map fun v => v.category).sum ≤ 8) (hdg : decode cc pc = .ok (.invokevirtual 20, 3)) (hR : rm.frames + 1 ≤ R.frames ∧ 8 + (1 + 11) + rm.locals ≤ R.locals) (hf : cells + rm.cells ≤ R.cells ∧ slots + rm.slots ≤ R.slots) : va_Run p l e R s m args below meth c H locs cells slots rm.cells rm.slots (F0 m pc ls st0) rest (Qc (Value.ref b :: As).toArray) (fun q => eB E ≤ q) := rn_V (y := y_Sf_takeSpare) tw_531 tw_528 tw_529 tw_530 tw_5 ⟨by decide, by decide, by rfl⟩ cx hM (hrecv.recv cx.K rfl) hn hsize hst hW hdg hR hf
theorem iv_Tp_24_Dc (cx : Cx E p s m args meth c "BaselineText$Type" cc nL ret) (hM : Ct l E y_Dc_copy b_Dc_copy 2 none rm (.ref b :: As) H Qc) (hrecv : hOb (eD E) classes H b 1 fs) (hn : As.length = 1) (hsize : ls.size = nL) (hst : st0 = As.reverse ++ .ref b :: rest) (hW : (rest.map fun v => v.category).sum ≤ 8) (hdg : decode cc pc = .ok (.invokevirtual 24, 3)) (hR : rm.frames + 1 ≤ R.frames ∧ 8 + (2 + 11) + rm.locals ≤ R.locals) (hf : cells + rm.cells ≤ R.cells ∧ slots + rm.slots ≤ R.slots) : va_Run p l e R s m args below meth c H locs cells slots rm.cells rm.slots (F0 m pc ls st0) rest (Qc (Value.ref b :: As).toArray) (fun q => eB E ≤ q) := rn_V (y := y_Dc_copy) tw_550 tw_545 tw_546 tw_547 tw_11 ⟨by decide, by decide, by rfl⟩ cx hM (hrecv.recv cx.K rfl) hn hsize hst hW hdg hR hf
theorem iv_Tp_24_Tp (cx : Cx E p s m args meth c "BaselineText$Type" cc nL ret) (hM : Ct l E y_Dc_copy b_Dc_copy 2 none rm (.ref b :: As) H Qc) (hrecv : hOb (eD E) classes H b 2 fs) (hn : As.length = 1) (hsize : ls.size = nL) (hst : st0 = As.reverse ++ .ref b :: rest) (hW : (rest.map fun v => v.category).sum ≤ 8) (hdg : decode cc pc = .ok (.invokevirtual 24, 3)) (hR : rm.frames + 1 ≤ R.frames ∧ 8 + (2 + 11) + rm.locals ≤ R.locals) (hf : cells + rm.cells ≤ R.cells ∧ slots + rm.slots ≤ R.slots) : va_Run p l e R s m args below meth c H locs cells slots rm.cells rm.slots (F0 m pc ls st0) rest (Qc (Value.ref b :: As).toArray) (fun q => eB E ≤ q) := rn_V (y := y_Dc_copy) tw_550 tw_545 tw_546 tw_549 tw_11 ⟨by decide, by decide, by rfl⟩ cx hM (hrecv.recv cx.K rfl) hn hsize hst hW hdg hR hf
theorem iv_Tp_28_Sf (cx : Cx E p s m args meth c "BaselineText$Type" cc nL ret) (hM : Ct l E y_Sf_put b_Sf_put 5 none rm (.ref b :: As) H Qc) (hrecv : hOb (eD E) classes H b 3 fs) (hn : As.length = 1) (hsize : ls.size = nL) (hst : st0 = As.reverse ++ .ref b :: rest) (hW : (rest.map fun v => v.category).sum ≤ 8) (hdg : decode cc pc = .ok (.invokevirtual 28, 3)) (hR : rm.frames + 1 ≤ R.frames ∧ 8 + (5 + 11) + rm.locals ≤ R.locals) (hf : cells + rm.cells ≤ R.cells ∧ slots + rm.slots ≤ R.slots) : va_Run p l e R s m args below meth c H locs cells slots rm.cells rm.slots (F0 m pc ls st0) rest (Qc (Value.ref b :: As).toArray) (fun q => eB E ≤ q) := rn_V (y := y_Sf_put) tw_560 tw_557 tw_558 tw_559 tw_5 ⟨by decide, by decide, by rfl⟩ cx hM (hrecv.recv cx.K rfl) hn hsize hst hW hdg hR hf
theorem iv_Vo_9 (cx : Cx E p s m args meth c "BaselineText$Vocabulary" cc nL ret) (hM : Ct l E y_Vo_memberMark b_Vo_memberMark 1 (some (.object "java/lang/String")) rm As H Qc) (hn : As.length = 1) (hsize : ls.size = nL) (hst : st0 = As.reverse ++ rest) (hW : (rest.map fun v => v.category).sum ≤ 8) (hdg : decode cc pc = .ok (.invokestatic 9, 3)) (hR : rm.frames + 1 ≤ R.frames ∧ 8 + (1 + 11) + rm.locals ≤ R.locals) (hf : cells + rm.cells ≤ R.cells ∧ slots + rm.slots ≤ R.slots) : va_Run p l e R s m args below meth c H locs cells slots rm.cells rm.slots (F0 m pc ls st0) rest (Qc (As).toArray) (fun q => eB E ≤ q) := rn_S (y := y_Vo_memberMark) tw_406 tw_404 tw_405 tw_17 ⟨by decide, by decide, by rfl⟩ cx hM hn hsize hst hW hdg hR hf
theorem iv_Vo_15 (cx : Cx E p s m args meth c "BaselineText$Vocabulary" cc nL ret) (hM : Ct l E y_Vo_typeMark b_Vo_typeMark 1 (some (.object "java/lang/String")) rm As H Qc) (hn : As.length = 1) (hsize : ls.size = nL) (hst : st0 = As.reverse ++ rest) (hW : (rest.map fun v => v.category).sum ≤ 8) (hdg : decode cc pc = .ok (.invokestatic 15, 3)) (hR : rm.frames + 1 ≤ R.frames ∧ 8 + (1 + 11) + rm.locals ≤ R.locals) (hf : cells + rm.cells ≤ R.cells ∧ slots + rm.slots ≤ R.slots) : va_Run p l e R s m args below meth c H locs cells slots rm.cells rm.slots (F0 m pc ls st0) rest (Qc (As).toArray) (fun q => eB E ≤ q) := rn_S (y := y_Vo_typeMark) tw_414 tw_412 tw_413 tw_17 ⟨by decide, by decide, by rfl⟩ cx hM hn hsize hst hW hdg hR hf
theorem iv_Vo_18 (cx : Cx E p s m args meth c "BaselineText$Vocabulary" cc nL ret) (hM : Ct l E y_Vo_memberKind b_Vo_memberKind 1 (some (.object "java/lang/String")) rm As H Qc) (hn : As.length = 1) (hsize : ls.size = nL) (hst : st0 = As.reverse ++ rest) (hW : (rest.map fun v => v.category).sum ≤ 8) (hdg : decode cc pc = .ok (.invokestatic 18, 3)) (hR : rm.frames + 1 ≤ R.frames ∧ 8 + (1 + 11) + rm.locals ≤ R.locals) (hf : cells + rm.cells ≤ R.cells ∧ slots + rm.slots ≤ R.slots) : va_Run p l e R s m args below meth c H locs cells slots rm.cells rm.slots (F0 m pc ls st0) rest (Qc (As).toArray) (fun q => eB E ≤ q) := rn_S (y := y_Vo_memberKind) tw_427 tw_425 tw_426 tw_17 ⟨by decide, by decide, by rfl⟩ cx hM hn hsize hst hW hdg hR hf
theorem iv_Vo_21 (cx : Cx E p s m args meth c "BaselineText$Vocabulary" cc nL ret) (hM : Ct l E y_Vo_typeKind b_Vo_typeKind 1 (some (.object "java/lang/String")) rm As H Qc) (hn : As.length = 1) (hsize : ls.size = nL) (hst : st0 = As.reverse ++ rest) (hW : (rest.map fun v => v.category).sum ≤ 8) (hdg : decode cc pc = .ok (.invokestatic 21, 3)) (hR : rm.frames + 1 ≤ R.frames ∧ 8 + (1 + 11) + rm.locals ≤ R.locals) (hf : cells + rm.cells ≤ R.cells ∧ slots + rm.slots ≤ R.slots) : va_Run p l e R s m args below meth c H locs cells slots rm.cells rm.slots (F0 m pc ls st0) rest (Qc (As).toArray) (fun q => eB E ≤ q) := rn_S (y := y_Vo_typeKind) tw_432 tw_430 tw_431 tw_17 ⟨by decide, by decide, by rfl⟩ cx hM hn hsize hst hW hdg hR hf
theorem nw_Lw_7 (cx : Cx E p s m args meth c "BaselineTextLaw" cc nL ret) (hcells : cells + 1 ≤ R.cells) (hslots : slots + 5 ≤ R.slots) (hdg : decode cc pc = .ok (.new 7, 3)) (kk : ∀ H1 : Heap, hOb (eD E) classes H1 H.size 9 [.null, .null, .null, .null, .null] → H1.size = H.size + 1 → (∀ q : Nat, q < H.size → H1[q]? = H[q]?) → W p l e R s m args below meth c H1 locs (cells + 1) (slots + 5) Q (F0 m (pc + 3) ls (.ref H.size :: rest))) : W p l e R s m args below meth c H locs cells slots Q (F0 m pc ls rest) := hx_new cx.x cx.b cx.ts i_B t_B t_B_ok cx.o (cx.ts _ tw_25) (cx.ts _ tw_26) (cx.ts _ tw_1) cx.K rfl (fun j hj => by match j, hj with | 0, _ => rfl | 1, _ => rfl | 2, _ => rfl | 3, _ => rfl | 4, _ => rfl | j + 5, hj => exact absurd hj (by omega)) hcells hslots hdg kk
theorem iv_Lw_9 (cx : Cx E p s m args meth c "BaselineTextLaw" cc nL ret) (hM : Ct l E y_B_init b_B_init 1 none rm (.ref b :: As) H Qc) (hn : As.length = 0) (hsize : ls.size = nL) (hst : st0 = As.reverse ++ .ref b :: rest) (hW : (rest.map fun v => v.category).sum ≤ 8) (hdg : decode cc pc = .ok (.invokespecial 9, 3)) (hR : rm.frames + 1 ≤ R.frames ∧ 8 + (1 + 11) + rm.locals ≤ R.locals) (hf : cells + rm.cells ≤ R.cells ∧ slots + rm.slots ≤ R.slots) : va_Run p l e R s m args below meth c H locs cells slots rm.cells rm.slots (F0 m pc ls st0) rest (Qc (Value.ref b :: As).toArray) (fun q => eB E ≤ q) := rn_I (y := y_B_init) tw_29 tw_27 tw_28 tw_1 rfl ⟨by decide, by decide, by rfl⟩ cx hM hn hsize hst hW hdg hR hf
theorem nw_Lw_10 (cx : Cx E p s m args meth c "BaselineTextLaw" cc nL ret) (hcells : cells + 1 ≤ R.cells) (hslots : slots + 26 ≤ R.slots) (hdg : decode cc pc = .ok (.new 10, 3)) (kk : ∀ H1 : Heap, hOb (eD E) classes H1 H.size 10 [.null, .int 0, .null, .int 0, .int 0, .null, .null, .null, .null, .null, .null, .null, .null, .null, .int 0, .int 0, .int 0, .int 0, .int 0, .null, .int 0, .int 0, .int 0, .null, .int 0, .null] → H1.size = H.size + 1 → (∀ q : Nat, q < H.size → H1[q]? = H[q]?) → W p l e R s m args below meth c H1 locs (cells + 1) (slots + 26) Q (F0 m (pc + 3) ls (.ref H.size :: rest))) : W p l e R s m args below meth c H locs cells slots Q (F0 m pc ls rest) := hx_new cx.x cx.b cx.ts i_Mo t_Mo t_Mo_ok cx.o (cx.ts _ tw_796) (cx.ts _ tw_797) (cx.ts _ tw_9) cx.K rfl (fun j hj => by match j, hj with | 0, _ => rfl | 1, _ => rfl | 2, _ => rfl | 3, _ => rfl | 4, _ => rfl | 5, _ => rfl | 6, _ => rfl | 7, _ => rfl | 8, _ => rfl | 9, _ => rfl | 10, _ => rfl | 11, _ => rfl | 12, _ => rfl | 13, _ => rfl | 14, _ => rfl | 15, _ => rfl | 16, _ => rfl | 17, _ => rfl | 18, _ => rfl | 19, _ => rfl | 20, _ => rfl | 21, _ => rfl | 22, _ => rfl | 23, _ => rfl | 24, _ => rfl | 25, _ => rfl | j + 26, hj => exact absurd hj (by omega)) hcells hslots hdg kk
theorem iv_Lw_12 (cx : Cx E p s m args meth c "BaselineTextLaw" cc nL ret) (hM : Ct l E y_Mo_init b_Mo_init 1 none rm (.ref b :: As) H Qc) (hn : As.length = 0) (hsize : ls.size = nL) (hst : st0 = As.reverse ++ .ref b :: rest) (hW : (rest.map fun v => v.category).sum ≤ 8) (hdg : decode cc pc = .ok (.invokespecial 12, 3)) (hR : rm.frames + 1 ≤ R.frames ∧ 8 + (1 + 11) + rm.locals ≤ R.locals) (hf : cells + rm.cells ≤ R.cells ∧ slots + rm.slots ≤ R.slots) : va_Run p l e R s m args below meth c H locs cells slots rm.cells rm.slots (F0 m pc ls st0) rest (Qc (Value.ref b :: As).toArray) (fun q => eB E ≤ q) := rn_I (y := y_Mo_init) tw_800 tw_798 tw_799 tw_9 rfl ⟨by decide, by decide, by rfl⟩ cx hM hn hsize hst hW hdg hR hf
theorem iv_Lw_15_B (cx : Cx E p s m args meth c "BaselineTextLaw" cc nL ret) (hM : Ct l E y_B_type b_B_type 5 (some .int) rm (.ref b :: As) H Qc) (hrecv : hOb (eD E) classes H b 9 fs) (hn : As.length = 2) (hsize : ls.size = nL) (hst : st0 = As.reverse ++ .ref b :: rest) (hW : (rest.map fun v => v.category).sum ≤ 8) (hdg : decode cc pc = .ok (.invokevirtual 15, 3)) (hR : rm.frames + 1 ≤ R.frames ∧ 8 + (5 + 11) + rm.locals ≤ R.locals) (hf : cells + rm.cells ≤ R.cells ∧ slots + rm.slots ≤ R.slots) : va_Run p l e R s m args below meth c H locs cells slots rm.cells rm.slots (F0 m pc ls st0) rest (Qc (Value.ref b :: As).toArray) (fun q => eB E ≤ q) := rn_V (y := y_B_type) tw_151 tw_148 tw_149 tw_150 tw_1 ⟨by decide, by decide, by rfl⟩ cx hM (hrecv.recv cx.K rfl) hn hsize hst hW hdg hR hf
theorem iv_Lw_19_Mo (cx : Cx E p s m args meth c "BaselineTextLaw" cc nL ret) (hM : Ct l E y_Mo_type b_Mo_type 6 (some .int) rm (.ref b :: As) H Qc) (hrecv : hOb (eD E) classes H b 10 fs) (hn : As.length = 2) (hsize : ls.size = nL) (hst : st0 = As.reverse ++ .ref b :: rest) (hW : (rest.map fun v => v.category).sum ≤ 8) (hdg : decode cc pc = .ok (.invokevirtual 19, 3)) (hR : rm.frames + 1 ≤ R.frames ∧ 8 + (6 + 11) + rm.locals ≤ R.locals) (hf : cells + rm.cells ≤ R.cells ∧ slots + rm.slots ≤ R.slots) : va_Run p l e R s m args below meth c H locs cells slots rm.cells rm.slots (F0 m pc ls st0) rest (Qc (Value.ref b :: As).toArray) (fun q => eB E ≤ q) := rn_V (y := y_Mo_type) tw_884 tw_881 tw_882 tw_883 tw_9 ⟨by decide, by decide, by rfl⟩ cx hM (hrecv.recv cx.K rfl) hn hsize hst hW hdg hR hf
theorem iv_Lw_20_B (cx : Cx E p s m args meth c "BaselineTextLaw" cc nL ret) (hM : Ct l E y_B_clear b_B_clear 2 (some .int) rm (.ref b :: As) H Qc) (hrecv : hOb (eD E) classes H b 9 fs) (hn : As.length = 0) (hsize : ls.size = nL) (hst : st0 = As.reverse ++ .ref b :: rest) (hW : (rest.map fun v => v.category).sum ≤ 8) (hdg : decode cc pc = .ok (.invokevirtual 20, 3)) (hR : rm.frames + 1 ≤ R.frames ∧ 8 + (2 + 11) + rm.locals ≤ R.locals) (hf : cells + rm.cells ≤ R.cells ∧ slots + rm.slots ≤ R.slots) : va_Run p l e R s m args below meth c H locs cells slots rm.cells rm.slots (F0 m pc ls st0) rest (Qc (Value.ref b :: As).toArray) (fun q => eB E ≤ q) := rn_V (y := y_B_clear) tw_169 tw_166 tw_167 tw_168 tw_1 ⟨by decide, by decide, by rfl⟩ cx hM (hrecv.recv cx.K rfl) hn hsize hst hW hdg hR hf
theorem iv_Lw_24_Mo (cx : Cx E p s m args meth c "BaselineTextLaw" cc nL ret) (hM : Ct l E y_Mo_clear b_Mo_clear 2 (some .int) rm (.ref b :: As) H Qc) (hrecv : hOb (eD E) classes H b 10 fs) (hn : As.length = 0) (hsize : ls.size = nL) (hst : st0 = As.reverse ++ .ref b :: rest) (hW : (rest.map fun v => v.category).sum ≤ 8) (hdg : decode cc pc = .ok (.invokevirtual 24, 3)) (hR : rm.frames + 1 ≤ R.frames ∧ 8 + (2 + 11) + rm.locals ≤ R.locals) (hf : cells + rm.cells ≤ R.cells ∧ slots + rm.slots ≤ R.slots) : va_Run p l e R s m args below meth c H locs cells slots rm.cells rm.slots (F0 m pc ls st0) rest (Qc (Value.ref b :: As).toArray) (fun q => eB E ≤ q) := rn_V (y := y_Mo_clear) tw_889 tw_886 tw_887 tw_888 tw_9 ⟨by decide, by decide, by rfl⟩ cx hM (hrecv.recv cx.K rfl) hn hsize hst hW hdg hR hf
theorem iv_Lw_25_B (cx : Cx E p s m args meth c "BaselineTextLaw" cc nL ret) (hM : Ct l E y_B_read b_B_read 6 (some .int) rm (.ref b :: As) H Qc) (hrecv : hOb (eD E) classes H b 9 fs) (hn : As.length = 1) (hsize : ls.size = nL) (hst : st0 = As.reverse ++ .ref b :: rest) (hW : (rest.map fun v => v.category).sum ≤ 8) (hdg : decode cc pc = .ok (.invokevirtual 25, 3)) (hR : rm.frames + 1 ≤ R.frames ∧ 8 + (6 + 11) + rm.locals ≤ R.locals) (hf : cells + rm.cells ≤ R.cells ∧ slots + rm.slots ≤ R.slots) : va_Run p l e R s m args below meth c H locs cells slots rm.cells rm.slots (F0 m pc ls st0) rest (Qc (Value.ref b :: As).toArray) (fun q => eB E ≤ q) := rn_V (y := y_B_read) tw_177 tw_174 tw_175 tw_176 tw_1 ⟨by decide, by decide, by rfl⟩ cx hM (hrecv.recv cx.K rfl) hn hsize hst hW hdg hR hf
theorem iv_Lw_29_Mo (cx : Cx E p s m args meth c "BaselineTextLaw" cc nL ret) (hM : Ct l E y_Mo_read b_Mo_read 9 (some .int) rm (.ref b :: As) H Qc) (hrecv : hOb (eD E) classes H b 10 fs) (hn : As.length = 1) (hsize : ls.size = nL) (hst : st0 = As.reverse ++ .ref b :: rest) (hW : (rest.map fun v => v.category).sum ≤ 8) (hdg : decode cc pc = .ok (.invokevirtual 29, 3)) (hR : rm.frames + 1 ≤ R.frames ∧ 8 + (9 + 11) + rm.locals ≤ R.locals) (hf : cells + rm.cells ≤ R.cells ∧ slots + rm.slots ≤ R.slots) : va_Run p l e R s m args below meth c H locs cells slots rm.cells rm.slots (F0 m pc ls st0) rest (Qc (Value.ref b :: As).toArray) (fun q => eB E ≤ q) := rn_V (y := y_Mo_read) tw_893 tw_890 tw_891 tw_892 tw_9 ⟨by decide, by decide, by rfl⟩ cx hM (hrecv.recv cx.K rfl) hn hsize hst hW hdg hR hf
theorem iv_Lw_30_B (cx : Cx E p s m args meth c "BaselineTextLaw" cc nL ret) (hM : Ct l E y_B_write b_B_write 3 (some .int) rm (.ref b :: As) H Qc) (hrecv : hOb (eD E) classes H b 9 fs) (hn : As.length = 1) (hsize : ls.size = nL) (hst : st0 = As.reverse ++ .ref b :: rest) (hW : (rest.map fun v => v.category).sum ≤ 8) (hdg : decode cc pc = .ok (.invokevirtual 30, 3)) (hR : rm.frames + 1 ≤ R.frames ∧ 8 + (3 + 11) + rm.locals ≤ R.locals) (hf : cells + rm.cells ≤ R.cells ∧ slots + rm.slots ≤ R.slots) : va_Run p l e R s m args below meth c H locs cells slots rm.cells rm.slots (F0 m pc ls st0) rest (Qc (Value.ref b :: As).toArray) (fun q => eB E ≤ q) := rn_V (y := y_B_write) tw_667 tw_664 tw_665 tw_666 tw_1 ⟨by decide, by decide, by rfl⟩ cx hM (hrecv.recv cx.K rfl) hn hsize hst hW hdg hR hf
theorem iv_Lw_33_Mo (cx : Cx E p s m args meth c "BaselineTextLaw" cc nL ret) (hM : Ct l E y_Mo_write b_Mo_write 6 (some .int) rm (.ref b :: As) H Qc) (hrecv : hOb (eD E) classes H b 10 fs) (hn : As.length = 1) (hsize : ls.size = nL) (hst : st0 = As.reverse ++ .ref b :: rest) (hW : (rest.map fun v => v.category).sum ≤ 8) (hdg : decode cc pc = .ok (.invokevirtual 33, 3)) (hR : rm.frames + 1 ≤ R.frames ∧ 8 + (6 + 11) + rm.locals ≤ R.locals) (hf : cells + rm.cells ≤ R.cells ∧ slots + rm.slots ≤ R.slots) : va_Run p l e R s m args below meth c H locs cells slots rm.cells rm.slots (F0 m pc ls st0) rest (Qc (Value.ref b :: As).toArray) (fun q => eB E ≤ q) := rn_V (y := y_Mo_write) tw_998 tw_995 tw_996 tw_997 tw_9 ⟨by decide, by decide, by rfl⟩ cx hM (hrecv.recv cx.K rfl) hn hsize hst hW hdg hR hf
theorem iv_Lw_34_B (cx : Cx E p s m args meth c "BaselineTextLaw" cc nL ret) (hM : Ct l E y_B_format b_B_format 5 (some .int) rm (.ref b :: As) H Qc) (hrecv : hOb (eD E) classes H b 9 fs) (hn : As.length = 2) (hsize : ls.size = nL) (hst : st0 = As.reverse ++ .ref b :: rest) (hW : (rest.map fun v => v.category).sum ≤ 8) (hdg : decode cc pc = .ok (.invokevirtual 34, 3)) (hR : rm.frames + 1 ≤ R.frames ∧ 8 + (5 + 11) + rm.locals ≤ R.locals) (hf : cells + rm.cells ≤ R.cells ∧ slots + rm.slots ≤ R.slots) : va_Run p l e R s m args below meth c H locs cells slots rm.cells rm.slots (F0 m pc ls st0) rest (Qc (Value.ref b :: As).toArray) (fun q => eB E ≤ q) := rn_V (y := y_B_format) tw_704 tw_701 tw_702 tw_703 tw_1 ⟨by decide, by decide, by rfl⟩ cx hM (hrecv.recv cx.K rfl) hn hsize hst hW hdg hR hf
theorem iv_Lw_38_Mo (cx : Cx E p s m args meth c "BaselineTextLaw" cc nL ret) (hM : Ct l E y_Mo_format b_Mo_format 4 (some .int) rm (.ref b :: As) H Qc) (hrecv : hOb (eD E) classes H b 10 fs) (hn : As.length = 2) (hsize : ls.size = nL) (hst : st0 = As.reverse ++ .ref b :: rest) (hW : (rest.map fun v => v.category).sum ≤ 8) (hdg : decode cc pc = .ok (.invokevirtual 38, 3)) (hR : rm.frames + 1 ≤ R.frames ∧ 8 + (4 + 11) + rm.locals ≤ R.locals) (hf : cells + rm.cells ≤ R.cells ∧ slots + rm.slots ≤ R.slots) : va_Run p l e R s m args below meth c H locs cells slots rm.cells rm.slots (F0 m pc ls st0) rest (Qc (Value.ref b :: As).toArray) (fun q => eB E ≤ q) := rn_V (y := y_Mo_format) tw_1040 tw_1037 tw_1038 tw_1039 tw_9 ⟨by decide, by decide, by rfl⟩ cx hM (hrecv.recv cx.K rfl) hn hsize hst hW hdg hR hf
theorem iv_Lw_39_B (cx : Cx E p s m args meth c "BaselineTextLaw" cc nL ret) (hM : Ct l E y_B_text b_B_text 2 (some .int) rm (.ref b :: As) H Qc) (hrecv : hOb (eD E) classes H b 9 fs) (hn : As.length = 1) (hsize : ls.size = nL) (hst : st0 = As.reverse ++ .ref b :: rest) (hW : (rest.map fun v => v.category).sum ≤ 8) (hdg : decode cc pc = .ok (.invokevirtual 39, 3)) (hR : rm.frames + 1 ≤ R.frames ∧ 8 + (2 + 11) + rm.locals ≤ R.locals) (hf : cells + rm.cells ≤ R.cells ∧ slots + rm.slots ≤ R.slots) : va_Run p l e R s m args below meth c H locs cells slots rm.cells rm.slots (F0 m pc ls st0) rest (Qc (Value.ref b :: As).toArray) (fun q => eB E ≤ q) := rn_V (y := y_B_text) tw_708 tw_705 tw_706 tw_707 tw_1 ⟨by decide, by decide, by rfl⟩ cx hM (hrecv.recv cx.K rfl) hn hsize hst hW hdg hR hf
theorem iv_Lw_42_Mo (cx : Cx E p s m args meth c "BaselineTextLaw" cc nL ret) (hM : Ct l E y_Mo_text b_Mo_text 2 (some .int) rm (.ref b :: As) H Qc) (hrecv : hOb (eD E) classes H b 10 fs) (hn : As.length = 1) (hsize : ls.size = nL) (hst : st0 = As.reverse ++ .ref b :: rest) (hW : (rest.map fun v => v.category).sum ≤ 8) (hdg : decode cc pc = .ok (.invokevirtual 42, 3)) (hR : rm.frames + 1 ≤ R.frames ∧ 8 + (2 + 11) + rm.locals ≤ R.locals) (hf : cells + rm.cells ≤ R.cells ∧ slots + rm.slots ≤ R.slots) : va_Run p l e R s m args below meth c H locs cells slots rm.cells rm.slots (F0 m pc ls st0) rest (Qc (Value.ref b :: As).toArray) (fun q => eB E ≤ q) := rn_V (y := y_Mo_text) tw_1044 tw_1041 tw_1042 tw_1043 tw_9 ⟨by decide, by decide, by rfl⟩ cx hM (hrecv.recv cx.K rfl) hn hsize hst hW hdg hR hf
theorem iv_Lw_43_B (cx : Cx E p s m args meth c "BaselineTextLaw" cc nL ret) (hM : Ct l E y_B_diagnostic b_B_diagnostic 3 (some .int) rm (.ref b :: As) H Qc) (hrecv : hOb (eD E) classes H b 9 fs) (hn : As.length = 2) (hsize : ls.size = nL) (hst : st0 = As.reverse ++ .ref b :: rest) (hW : (rest.map fun v => v.category).sum ≤ 8) (hdg : decode cc pc = .ok (.invokevirtual 43, 3)) (hR : rm.frames + 1 ≤ R.frames ∧ 8 + (3 + 11) + rm.locals ≤ R.locals) (hf : cells + rm.cells ≤ R.cells ∧ slots + rm.slots ≤ R.slots) : va_Run p l e R s m args below meth c H locs cells slots rm.cells rm.slots (F0 m pc ls st0) rest (Qc (Value.ref b :: As).toArray) (fun q => eB E ≤ q) := rn_V (y := y_B_diagnostic) tw_712 tw_709 tw_710 tw_711 tw_1 ⟨by decide, by decide, by rfl⟩ cx hM (hrecv.recv cx.K rfl) hn hsize hst hW hdg hR hf
theorem iv_Lw_46_Mo (cx : Cx E p s m args meth c "BaselineTextLaw" cc nL ret) (hM : Ct l E y_Mo_diagnostic b_Mo_diagnostic 4 (some .int) rm (.ref b :: As) H Qc) (hrecv : hOb (eD E) classes H b 10 fs) (hn : As.length = 2) (hsize : ls.size = nL) (hst : st0 = As.reverse ++ .ref b :: rest) (hW : (rest.map fun v => v.category).sum ≤ 8) (hdg : decode cc pc = .ok (.invokevirtual 46, 3)) (hR : rm.frames + 1 ≤ R.frames ∧ 8 + (4 + 11) + rm.locals ≤ R.locals) (hf : cells + rm.cells ≤ R.cells ∧ slots + rm.slots ≤ R.slots) : va_Run p l e R s m args below meth c H locs cells slots rm.cells rm.slots (F0 m pc ls st0) rest (Qc (Value.ref b :: As).toArray) (fun q => eB E ≤ q) := rn_V (y := y_Mo_diagnostic) tw_994 tw_991 tw_992 tw_993 tw_9 ⟨by decide, by decide, by rfl⟩ cx hM (hrecv.recv cx.K rfl) hn hsize hst hW hdg hR hf
theorem iv_Lw_47_B (cx : Cx E p s m args meth c "BaselineTextLaw" cc nL ret) (hM : Ct l E y_B_types b_B_types 3 (some .int) rm (.ref b :: As) H Qc) (hrecv : hOb (eD E) classes H b 9 fs) (hn : As.length = 1) (hsize : ls.size = nL) (hst : st0 = As.reverse ++ .ref b :: rest) (hW : (rest.map fun v => v.category).sum ≤ 8) (hdg : decode cc pc = .ok (.invokevirtual 47, 3)) (hR : rm.frames + 1 ≤ R.frames ∧ 8 + (3 + 11) + rm.locals ≤ R.locals) (hf : cells + rm.cells ≤ R.cells ∧ slots + rm.slots ≤ R.slots) : va_Run p l e R s m args below meth c H locs cells slots rm.cells rm.slots (F0 m pc ls st0) rest (Qc (Value.ref b :: As).toArray) (fun q => eB E ≤ q) := rn_V (y := y_B_types) tw_721 tw_718 tw_719 tw_720 tw_1 ⟨by decide, by decide, by rfl⟩ cx hM (hrecv.recv cx.K rfl) hn hsize hst hW hdg hR hf
theorem iv_Lw_50_Mo (cx : Cx E p s m args meth c "BaselineTextLaw" cc nL ret) (hM : Ct l E y_Mo_types b_Mo_types 2 (some .int) rm (.ref b :: As) H Qc) (hrecv : hOb (eD E) classes H b 10 fs) (hn : As.length = 1) (hsize : ls.size = nL) (hst : st0 = As.reverse ++ .ref b :: rest) (hW : (rest.map fun v => v.category).sum ≤ 8) (hdg : decode cc pc = .ok (.invokevirtual 50, 3)) (hR : rm.frames + 1 ≤ R.frames ∧ 8 + (2 + 11) + rm.locals ≤ R.locals) (hf : cells + rm.cells ≤ R.cells ∧ slots + rm.slots ≤ R.slots) : va_Run p l e R s m args below meth c H locs cells slots rm.cells rm.slots (F0 m pc ls st0) rest (Qc (Value.ref b :: As).toArray) (fun q => eB E ≤ q) := rn_V (y := y_Mo_types) tw_1048 tw_1045 tw_1046 tw_1047 tw_9 ⟨by decide, by decide, by rfl⟩ cx hM (hrecv.recv cx.K rfl) hn hsize hst hW hdg hR hf
theorem iv_Lw_51_B (cx : Cx E p s m args meth c "BaselineTextLaw" cc nL ret) (hM : Ct l E y_B_about b_B_about 5 (some .int) rm (.ref b :: As) H Qc) (hrecv : hOb (eD E) classes H b 9 fs) (hn : As.length = 3) (hsize : ls.size = nL) (hst : st0 = As.reverse ++ .ref b :: rest) (hW : (rest.map fun v => v.category).sum ≤ 8) (hdg : decode cc pc = .ok (.invokevirtual 51, 3)) (hR : rm.frames + 1 ≤ R.frames ∧ 8 + (5 + 11) + rm.locals ≤ R.locals) (hf : cells + rm.cells ≤ R.cells ∧ slots + rm.slots ≤ R.slots) : va_Run p l e R s m args below meth c H locs cells slots rm.cells rm.slots (F0 m pc ls st0) rest (Qc (Value.ref b :: As).toArray) (fun q => eB E ≤ q) := rn_V (y := y_B_about) tw_726 tw_723 tw_724 tw_725 tw_1 ⟨by decide, by decide, by rfl⟩ cx hM (hrecv.recv cx.K rfl) hn hsize hst hW hdg hR hf
theorem iv_Lw_55_Mo (cx : Cx E p s m args meth c "BaselineTextLaw" cc nL ret) (hM : Ct l E y_Mo_about b_Mo_about 5 (some .int) rm (.ref b :: As) H Qc) (hrecv : hOb (eD E) classes H b 10 fs) (hn : As.length = 3) (hsize : ls.size = nL) (hst : st0 = As.reverse ++ .ref b :: rest) (hW : (rest.map fun v => v.category).sum ≤ 8) (hdg : decode cc pc = .ok (.invokevirtual 55, 3)) (hR : rm.frames + 1 ≤ R.frames ∧ 8 + (5 + 11) + rm.locals ≤ R.locals) (hf : cells + rm.cells ≤ R.cells ∧ slots + rm.slots ≤ R.slots) : va_Run p l e R s m args below meth c H locs cells slots rm.cells rm.slots (F0 m pc ls st0) rest (Qc (Value.ref b :: As).toArray) (fun q => eB E ≤ q) := rn_V (y := y_Mo_about) tw_1052 tw_1049 tw_1050 tw_1051 tw_9 ⟨by decide, by decide, by rfl⟩ cx hM (hrecv.recv cx.K rfl) hn hsize hst hW hdg hR hf
theorem iv_Lw_56_B (cx : Cx E p s m args meth c "BaselineTextLaw" cc nL ret) (hM : Ct l E y_B_member b_B_member 6 (some .int) rm (.ref b :: As) H Qc) (hrecv : hOb (eD E) classes H b 9 fs) (hn : As.length = 4) (hsize : ls.size = nL) (hst : st0 = As.reverse ++ .ref b :: rest) (hW : (rest.map fun v => v.category).sum ≤ 8) (hdg : decode cc pc = .ok (.invokevirtual 56, 3)) (hR : rm.frames + 1 ≤ R.frames ∧ 8 + (6 + 11) + rm.locals ≤ R.locals) (hf : cells + rm.cells ≤ R.cells ∧ slots + rm.slots ≤ R.slots) : va_Run p l e R s m args below meth c H locs cells slots rm.cells rm.slots (F0 m pc ls st0) rest (Qc (Value.ref b :: As).toArray) (fun q => eB E ≤ q) := rn_V (y := y_B_member) tw_736 tw_733 tw_734 tw_735 tw_1 ⟨by decide, by decide, by rfl⟩ cx hM (hrecv.recv cx.K rfl) hn hsize hst hW hdg hR hf
theorem iv_Lw_60_Mo (cx : Cx E p s m args meth c "BaselineTextLaw" cc nL ret) (hM : Ct l E y_Mo_member b_Mo_member 6 (some .int) rm (.ref b :: As) H Qc) (hrecv : hOb (eD E) classes H b 10 fs) (hn : As.length = 4) (hsize : ls.size = nL) (hst : st0 = As.reverse ++ .ref b :: rest) (hW : (rest.map fun v => v.category).sum ≤ 8) (hdg : decode cc pc = .ok (.invokevirtual 60, 3)) (hR : rm.frames + 1 ≤ R.frames ∧ 8 + (6 + 11) + rm.locals ≤ R.locals) (hf : cells + rm.cells ≤ R.cells ∧ slots + rm.slots ≤ R.slots) : va_Run p l e R s m args below meth c H locs cells slots rm.cells rm.slots (F0 m pc ls st0) rest (Qc (Value.ref b :: As).toArray) (fun q => eB E ≤ q) := rn_V (y := y_Mo_member) tw_1056 tw_1053 tw_1054 tw_1055 tw_9 ⟨by decide, by decide, by rfl⟩ cx hM (hrecv.recv cx.K rfl) hn hsize hst hW hdg hR hf
theorem iv_Lw_61_B (cx : Cx E p s m args meth c "BaselineTextLaw" cc nL ret) (hM : Ct l E y_B_character b_B_character 7 (some .int) rm (.ref b :: As) H Qc) (hrecv : hOb (eD E) classes H b 9 fs) (hn : As.length = 5) (hsize : ls.size = nL) (hst : st0 = As.reverse ++ .ref b :: rest) (hW : (rest.map fun v => v.category).sum ≤ 8) (hdg : decode cc pc = .ok (.invokevirtual 61, 3)) (hR : rm.frames + 1 ≤ R.frames ∧ 8 + (7 + 11) + rm.locals ≤ R.locals) (hf : cells + rm.cells ≤ R.cells ∧ slots + rm.slots ≤ R.slots) : va_Run p l e R s m args below meth c H locs cells slots rm.cells rm.slots (F0 m pc ls st0) rest (Qc (Value.ref b :: As).toArray) (fun q => eB E ≤ q) := rn_V (y := y_B_character) tw_744 tw_741 tw_742 tw_743 tw_1 ⟨by decide, by decide, by rfl⟩ cx hM (hrecv.recv cx.K rfl) hn hsize hst hW hdg hR hf
theorem iv_Lw_65_Mo (cx : Cx E p s m args meth c "BaselineTextLaw" cc nL ret) (hM : Ct l E y_Mo_character b_Mo_character 7 (some .int) rm (.ref b :: As) H Qc) (hrecv : hOb (eD E) classes H b 10 fs) (hn : As.length = 5) (hsize : ls.size = nL) (hst : st0 = As.reverse ++ .ref b :: rest) (hW : (rest.map fun v => v.category).sum ≤ 8) (hdg : decode cc pc = .ok (.invokevirtual 65, 3)) (hR : rm.frames + 1 ≤ R.frames ∧ 8 + (7 + 11) + rm.locals ≤ R.locals) (hf : cells + rm.cells ≤ R.cells ∧ slots + rm.slots ≤ R.slots) : va_Run p l e R s m args below meth c H locs cells slots rm.cells rm.slots (F0 m pc ls st0) rest (Qc (Value.ref b :: As).toArray) (fun q => eB E ≤ q) := rn_V (y := y_Mo_character) tw_1064 tw_1061 tw_1062 tw_1063 tw_9 ⟨by decide, by decide, by rfl⟩ cx hM (hrecv.recv cx.K rfl) hn hsize hst hW hdg hR hf
theorem iv_Lw_66_B (cx : Cx E p s m args meth c "BaselineTextLaw" cc nL ret) (hM : Ct l E y_B_differ b_B_differ 1 (some .int) rm (.ref b :: As) H Qc) (hrecv : hOb (eD E) classes H b 9 fs) (hn : As.length = 0) (hsize : ls.size = nL) (hst : st0 = As.reverse ++ .ref b :: rest) (hW : (rest.map fun v => v.category).sum ≤ 8) (hdg : decode cc pc = .ok (.invokevirtual 66, 3)) (hR : rm.frames + 1 ≤ R.frames ∧ 8 + (1 + 11) + rm.locals ≤ R.locals) (hf : cells + rm.cells ≤ R.cells ∧ slots + rm.slots ≤ R.slots) : va_Run p l e R s m args below meth c H locs cells slots rm.cells rm.slots (F0 m pc ls st0) rest (Qc (Value.ref b :: As).toArray) (fun q => eB E ≤ q) := rn_V (y := y_B_differ) tw_748 tw_745 tw_746 tw_747 tw_1 ⟨by decide, by decide, by rfl⟩ cx hM (hrecv.recv cx.K rfl) hn hsize hst hW hdg hR hf
theorem iv_Lw_69_Mo (cx : Cx E p s m args meth c "BaselineTextLaw" cc nL ret) (hM : Ct l E y_Mo_differ b_Mo_differ 6 (some .int) rm (.ref b :: As) H Qc) (hrecv : hOb (eD E) classes H b 10 fs) (hn : As.length = 0) (hsize : ls.size = nL) (hst : st0 = As.reverse ++ .ref b :: rest) (hW : (rest.map fun v => v.category).sum ≤ 8) (hdg : decode cc pc = .ok (.invokevirtual 69, 3)) (hR : rm.frames + 1 ≤ R.frames ∧ 8 + (6 + 11) + rm.locals ≤ R.locals) (hf : cells + rm.cells ≤ R.cells ∧ slots + rm.slots ≤ R.slots) : va_Run p l e R s m args below meth c H locs cells slots rm.cells rm.slots (F0 m pc ls st0) rest (Qc (Value.ref b :: As).toArray) (fun q => eB E ≤ q) := rn_V (y := y_Mo_differ) tw_1068 tw_1065 tw_1066 tw_1067 tw_9 ⟨by decide, by decide, by rfl⟩ cx hM (hrecv.recv cx.K rfl) hn hsize hst hW hdg hR hf
theorem iv_Lw_70_B (cx : Cx E p s m args meth c "BaselineTextLaw" cc nL ret) (hM : Ct l E y_B_lost b_B_lost 2 (some .int) rm (.ref b :: As) H Qc) (hrecv : hOb (eD E) classes H b 9 fs) (hn : As.length = 1) (hsize : ls.size = nL) (hst : st0 = As.reverse ++ .ref b :: rest) (hW : (rest.map fun v => v.category).sum ≤ 8) (hdg : decode cc pc = .ok (.invokevirtual 70, 3)) (hR : rm.frames + 1 ≤ R.frames ∧ 8 + (2 + 11) + rm.locals ≤ R.locals) (hf : cells + rm.cells ≤ R.cells ∧ slots + rm.slots ≤ R.slots) : va_Run p l e R s m args below meth c H locs cells slots rm.cells rm.slots (F0 m pc ls st0) rest (Qc (Value.ref b :: As).toArray) (fun q => eB E ≤ q) := rn_V (y := y_B_lost) tw_769 tw_766 tw_767 tw_768 tw_1 ⟨by decide, by decide, by rfl⟩ cx hM (hrecv.recv cx.K rfl) hn hsize hst hW hdg hR hf
theorem iv_Lw_73_Mo (cx : Cx E p s m args meth c "BaselineTextLaw" cc nL ret) (hM : Ct l E y_Mo_lost b_Mo_lost 8 (some .int) rm (.ref b :: As) H Qc) (hrecv : hOb (eD E) classes H b 10 fs) (hn : As.length = 1) (hsize : ls.size = nL) (hst : st0 = As.reverse ++ .ref b :: rest) (hW : (rest.map fun v => v.category).sum ≤ 8) (hdg : decode cc pc = .ok (.invokevirtual 73, 3)) (hR : rm.frames + 1 ≤ R.frames ∧ 8 + (8 + 11) + rm.locals ≤ R.locals) (hf : cells + rm.cells ≤ R.cells ∧ slots + rm.slots ≤ R.slots) : va_Run p l e R s m args below meth c H locs cells slots rm.cells rm.slots (F0 m pc ls st0) rest (Qc (Value.ref b :: As).toArray) (fun q => eB E ≤ q) := rn_V (y := y_Mo_lost) tw_1076 tw_1073 tw_1074 tw_1075 tw_9 ⟨by decide, by decide, by rfl⟩ cx hM (hrecv.recv cx.K rfl) hn hsize hst hW hdg hR hf
theorem iv_Lw_74_B (cx : Cx E p s m args meth c "BaselineTextLaw" cc nL ret) (hM : Ct l E y_B_swap b_B_swap 2 none rm (.ref b :: As) H Qc) (hrecv : hOb (eD E) classes H b 9 fs) (hn : As.length = 0) (hsize : ls.size = nL) (hst : st0 = As.reverse ++ .ref b :: rest) (hW : (rest.map fun v => v.category).sum ≤ 8) (hdg : decode cc pc = .ok (.invokevirtual 74, 3)) (hR : rm.frames + 1 ≤ R.frames ∧ 8 + (2 + 11) + rm.locals ≤ R.locals) (hf : cells + rm.cells ≤ R.cells ∧ slots + rm.slots ≤ R.slots) : va_Run p l e R s m args below meth c H locs cells slots rm.cells rm.slots (F0 m pc ls st0) rest (Qc (Value.ref b :: As).toArray) (fun q => eB E ≤ q) := rn_V (y := y_B_swap) tw_795 tw_792 tw_793 tw_794 tw_1 ⟨by decide, by decide, by rfl⟩ cx hM (hrecv.recv cx.K rfl) hn hsize hst hW hdg hR hf
theorem iv_Lw_77_Mo (cx : Cx E p s m args meth c "BaselineTextLaw" cc nL ret) (hM : Ct l E y_Mo_swap b_Mo_swap 1 none rm (.ref b :: As) H Qc) (hrecv : hOb (eD E) classes H b 10 fs) (hn : As.length = 0) (hsize : ls.size = nL) (hst : st0 = As.reverse ++ .ref b :: rest) (hW : (rest.map fun v => v.category).sum ≤ 8) (hdg : decode cc pc = .ok (.invokevirtual 77, 3)) (hR : rm.frames + 1 ≤ R.frames ∧ 8 + (1 + 11) + rm.locals ≤ R.locals) (hf : cells + rm.cells ≤ R.cells ∧ slots + rm.slots ≤ R.slots) : va_Run p l e R s m args below meth c H locs cells slots rm.cells rm.slots (F0 m pc ls st0) rest (Qc (Value.ref b :: As).toArray) (fun q => eB E ≤ q) := rn_V (y := y_Mo_swap) tw_1092 tw_1089 tw_1090 tw_1091 tw_9 ⟨by decide, by decide, by rfl⟩ cx hM (hrecv.recv cx.K rfl) hn hsize hst hW hdg hR hf
theorem gf_Mo_7_Mo (cx : Cx E p s m args meth c "BaselineTextModel" cc nL ret) (he : hOb (eD E) classes H a 10 fs) {v : Value} (hv : fs[0]? = some v) (hdg : decode cc pc = .ok (.getfield 7, 3)) (kk : W p l e R s m args below meth c H locs cells slots Q (F0 m (pc + 3) ls (v :: rest))) : W p l e R s m args below meth c H locs cells slots Q (F0 m pc ls (.ref a :: rest)) := hx_get cx.x cx.b cx.ts i_Mo cx.o cx.K he rfl 0 (by decide) (cx.ts _ tw_802) (fun _ h => h) hv hdg kk
theorem pf_Mo_7_Mo (cx : Cx E p s m args meth c "BaselineTextModel" cc nL ret) (hin2 : meth.name = "<init>") (he : hOb (eD E) classes H a 10 fs) (hlo : hLo (eB E) locs) (hB : eB E ≤ a) {x : Option Nat} (hl : 0 < fs.length) (hdg : decode cc pc = .ok (.putfield 7, 3)) (kk : ∀ (H1 : Heap) (locs1 : List Loc), hOb (eD E) classes H1 a 10 (fs.set 0 (va_rf x)) → H1.size = H.size → (∀ q : Nat, q ≠ a → H1[q]? = H[q]?) → hLo (eB E) locs1 → W p l e R s m args below meth c H1 locs1 cells slots Q (F0 m (pc + 3) ls (rest))) : W p l e R s m args below meth c H locs cells slots Q (F0 m pc ls (va_rf x :: .ref a :: rest)) := hx_putF cx.x cx.b cx.ts i_Mo t_Mo t_Mo_ok n_Mo cx.o cx.K he hlo hB rfl 0 (by decide) (cx.ts _ tw_802) (fun _ h => h) rfl hin2 rfl (t_Mo_ok 0 (by decide)) (by cases x <;> rfl) (by cases x <;> rfl) hl hdg kk
theorem gf_Mo_13_Mo (cx : Cx E p s m args meth c "BaselineTextModel" cc nL ret) (he : hOb (eD E) classes H a 10 fs) {v : Value} (hv : fs[2]? = some v) (hdg : decode cc pc = .ok (.getfield 13, 3)) (kk : W p l e R s m args below meth c H locs cells slots Q (F0 m (pc + 3) ls (v :: rest))) : W p l e R s m args below meth c H locs cells slots Q (F0 m pc ls (.ref a :: rest)) := hx_get cx.x cx.b cx.ts i_Mo cx.o cx.K he rfl 2 (by decide) (cx.ts _ tw_804) (fun _ h => h) hv hdg kk
theorem pf_Mo_13_Mo (cx : Cx E p s m args meth c "BaselineTextModel" cc nL ret) (hin2 : meth.name = "<init>") (he : hOb (eD E) classes H a 10 fs) (hlo : hLo (eB E) locs) (hB : eB E ≤ a) {x : Option Nat} (hl : 2 < fs.length) (hdg : decode cc pc = .ok (.putfield 13, 3)) (kk : ∀ (H1 : Heap) (locs1 : List Loc), hOb (eD E) classes H1 a 10 (fs.set 2 (va_rf x)) → H1.size = H.size → (∀ q : Nat, q ≠ a → H1[q]? = H[q]?) → hLo (eB E) locs1 → W p l e R s m args below meth c H1 locs1 cells slots Q (F0 m (pc + 3) ls (rest))) : W p l e R s m args below meth c H locs cells slots Q (F0 m pc ls (va_rf x :: .ref a :: rest)) := hx_putF cx.x cx.b cx.ts i_Mo t_Mo t_Mo_ok n_Mo cx.o cx.K he hlo hB rfl 2 (by decide) (cx.ts _ tw_804) (fun _ h => h) rfl hin2 rfl (t_Mo_ok 2 (by decide)) (by cases x <;> rfl) (by cases x <;> rfl) hl hdg kk
theorem gf_Mo_16_Mo (cx : Cx E p s m args meth c "BaselineTextModel" cc nL ret) (he : hOb (eD E) classes H a 10 fs) {v : Value} (hv : fs[5]? = some v) (hdg : decode cc pc = .ok (.getfield 16, 3)) (kk : W p l e R s m args below meth c H locs cells slots Q (F0 m (pc + 3) ls (v :: rest))) : W p l e R s m args below meth c H locs cells slots Q (F0 m pc ls (.ref a :: rest)) := hx_get cx.x cx.b cx.ts i_Mo cx.o cx.K he rfl 5 (by decide) (cx.ts _ tw_807) (fun _ h => h) hv hdg kk
theorem pf_Mo_16_Mo (cx : Cx E p s m args meth c "BaselineTextModel" cc nL ret) (hin2 : meth.name = "<init>") (he : hOb (eD E) classes H a 10 fs) (hlo : hLo (eB E) locs) (hB : eB E ≤ a) {x : Option Nat} (hl : 5 < fs.length) (hdg : decode cc pc = .ok (.putfield 16, 3)) (kk : ∀ (H1 : Heap) (locs1 : List Loc), hOb (eD E) classes H1 a 10 (fs.set 5 (va_rf x)) → H1.size = H.size → (∀ q : Nat, q ≠ a → H1[q]? = H[q]?) → hLo (eB E) locs1 → W p l e R s m args below meth c H1 locs1 cells slots Q (F0 m (pc + 3) ls (rest))) : W p l e R s m args below meth c H locs cells slots Q (F0 m pc ls (va_rf x :: .ref a :: rest)) := hx_putF cx.x cx.b cx.ts i_Mo t_Mo t_Mo_ok n_Mo cx.o cx.K he hlo hB rfl 5 (by decide) (cx.ts _ tw_807) (fun _ h => h) rfl hin2 rfl (t_Mo_ok 5 (by decide)) (by cases x <;> rfl) (by cases x <;> rfl) hl hdg kk
theorem gf_Mo_19_Mo (cx : Cx E p s m args meth c "BaselineTextModel" cc nL ret) (he : hOb (eD E) classes H a 10 fs) {v : Value} (hv : fs[6]? = some v) (hdg : decode cc pc = .ok (.getfield 19, 3)) (kk : W p l e R s m args below meth c H locs cells slots Q (F0 m (pc + 3) ls (v :: rest))) : W p l e R s m args below meth c H locs cells slots Q (F0 m pc ls (.ref a :: rest)) := hx_get cx.x cx.b cx.ts i_Mo cx.o cx.K he rfl 6 (by decide) (cx.ts _ tw_808) (fun _ h => h) hv hdg kk
theorem pf_Mo_19_Mo (cx : Cx E p s m args meth c "BaselineTextModel" cc nL ret) (hin2 : meth.name = "<init>") (he : hOb (eD E) classes H a 10 fs) (hlo : hLo (eB E) locs) (hB : eB E ≤ a) {x : Option Nat} (hl : 6 < fs.length) (hdg : decode cc pc = .ok (.putfield 19, 3)) (kk : ∀ (H1 : Heap) (locs1 : List Loc), hOb (eD E) classes H1 a 10 (fs.set 6 (va_rf x)) → H1.size = H.size → (∀ q : Nat, q ≠ a → H1[q]? = H[q]?) → hLo (eB E) locs1 → W p l e R s m args below meth c H1 locs1 cells slots Q (F0 m (pc + 3) ls (rest))) : W p l e R s m args below meth c H locs cells slots Q (F0 m pc ls (va_rf x :: .ref a :: rest)) := hx_putF cx.x cx.b cx.ts i_Mo t_Mo t_Mo_ok n_Mo cx.o cx.K he hlo hB rfl 6 (by decide) (cx.ts _ tw_808) (fun _ h => h) rfl hin2 rfl (t_Mo_ok 6 (by decide)) (by cases x <;> rfl) (by cases x <;> rfl) hl hdg kk
theorem gf_Mo_22_Mo (cx : Cx E p s m args meth c "BaselineTextModel" cc nL ret) (he : hOb (eD E) classes H a 10 fs) {v : Value} (hv : fs[7]? = some v) (hdg : decode cc pc = .ok (.getfield 22, 3)) (kk : W p l e R s m args below meth c H locs cells slots Q (F0 m (pc + 3) ls (v :: rest))) : W p l e R s m args below meth c H locs cells slots Q (F0 m pc ls (.ref a :: rest)) := hx_get cx.x cx.b cx.ts i_Mo cx.o cx.K he rfl 7 (by decide) (cx.ts _ tw_809) (fun _ h => h) hv hdg kk
theorem pf_Mo_22_Mo (cx : Cx E p s m args meth c "BaselineTextModel" cc nL ret) (hin2 : meth.name = "<init>") (he : hOb (eD E) classes H a 10 fs) (hlo : hLo (eB E) locs) (hB : eB E ≤ a) {x : Option Nat} (hl : 7 < fs.length) (hdg : decode cc pc = .ok (.putfield 22, 3)) (kk : ∀ (H1 : Heap) (locs1 : List Loc), hOb (eD E) classes H1 a 10 (fs.set 7 (va_rf x)) → H1.size = H.size → (∀ q : Nat, q ≠ a → H1[q]? = H[q]?) → hLo (eB E) locs1 → W p l e R s m args below meth c H1 locs1 cells slots Q (F0 m (pc + 3) ls (rest))) : W p l e R s m args below meth c H locs cells slots Q (F0 m pc ls (va_rf x :: .ref a :: rest)) := hx_putF cx.x cx.b cx.ts i_Mo t_Mo t_Mo_ok n_Mo cx.o cx.K he hlo hB rfl 7 (by decide) (cx.ts _ tw_809) (fun _ h => h) rfl hin2 rfl (t_Mo_ok 7 (by decide)) (by cases x <;> rfl) (by cases x <;> rfl) hl hdg kk
theorem gf_Mo_25_Mo (cx : Cx E p s m args meth c "BaselineTextModel" cc nL ret) (he : hOb (eD E) classes H a 10 fs) {v : Value} (hv : fs[8]? = some v) (hdg : decode cc pc = .ok (.getfield 25, 3)) (kk : W p l e R s m args below meth c H locs cells slots Q (F0 m (pc + 3) ls (v :: rest))) : W p l e R s m args below meth c H locs cells slots Q (F0 m pc ls (.ref a :: rest)) := hx_get cx.x cx.b cx.ts i_Mo cx.o cx.K he rfl 8 (by decide) (cx.ts _ tw_810) (fun _ h => h) hv hdg kk
theorem pf_Mo_25_Mo (cx : Cx E p s m args meth c "BaselineTextModel" cc nL ret) (hin2 : meth.name = "<init>") (he : hOb (eD E) classes H a 10 fs) (hlo : hLo (eB E) locs) (hB : eB E ≤ a) {x : Option Nat} (hl : 8 < fs.length) (hdg : decode cc pc = .ok (.putfield 25, 3)) (kk : ∀ (H1 : Heap) (locs1 : List Loc), hOb (eD E) classes H1 a 10 (fs.set 8 (va_rf x)) → H1.size = H.size → (∀ q : Nat, q ≠ a → H1[q]? = H[q]?) → hLo (eB E) locs1 → W p l e R s m args below meth c H1 locs1 cells slots Q (F0 m (pc + 3) ls (rest))) : W p l e R s m args below meth c H locs cells slots Q (F0 m pc ls (va_rf x :: .ref a :: rest)) := hx_putF cx.x cx.b cx.ts i_Mo t_Mo t_Mo_ok n_Mo cx.o cx.K he hlo hB rfl 8 (by decide) (cx.ts _ tw_810) (fun _ h => h) rfl hin2 rfl (t_Mo_ok 8 (by decide)) (by cases x <;> rfl) (by cases x <;> rfl) hl hdg kk
theorem gf_Mo_28_Mo (cx : Cx E p s m args meth c "BaselineTextModel" cc nL ret) (he : hOb (eD E) classes H a 10 fs) {v : Value} (hv : fs[9]? = some v) (hdg : decode cc pc = .ok (.getfield 28, 3)) (kk : W p l e R s m args below meth c H locs cells slots Q (F0 m (pc + 3) ls (v :: rest))) : W p l e R s m args below meth c H locs cells slots Q (F0 m pc ls (.ref a :: rest)) := hx_get cx.x cx.b cx.ts i_Mo cx.o cx.K he rfl 9 (by decide) (cx.ts _ tw_811) (fun _ h => h) hv hdg kk
theorem pf_Mo_28_Mo (cx : Cx E p s m args meth c "BaselineTextModel" cc nL ret) (hin2 : meth.name = "<init>") (he : hOb (eD E) classes H a 10 fs) (hlo : hLo (eB E) locs) (hB : eB E ≤ a) {x : Option Nat} (hl : 9 < fs.length) (hdg : decode cc pc = .ok (.putfield 28, 3)) (kk : ∀ (H1 : Heap) (locs1 : List Loc), hOb (eD E) classes H1 a 10 (fs.set 9 (va_rf x)) → H1.size = H.size → (∀ q : Nat, q ≠ a → H1[q]? = H[q]?) → hLo (eB E) locs1 → W p l e R s m args below meth c H1 locs1 cells slots Q (F0 m (pc + 3) ls (rest))) : W p l e R s m args below meth c H locs cells slots Q (F0 m pc ls (va_rf x :: .ref a :: rest)) := hx_putF cx.x cx.b cx.ts i_Mo t_Mo t_Mo_ok n_Mo cx.o cx.K he hlo hB rfl 9 (by decide) (cx.ts _ tw_811) (fun _ h => h) rfl hin2 rfl (t_Mo_ok 9 (by decide)) (by cases x <;> rfl) (by cases x <;> rfl) hl hdg kk
theorem gf_Mo_31_Mo (cx : Cx E p s m args meth c "BaselineTextModel" cc nL ret) (he : hOb (eD E) classes H a 10 fs) {v : Value} (hv : fs[10]? = some v) (hdg : decode cc pc = .ok (.getfield 31, 3)) (kk : W p l e R s m args below meth c H locs cells slots Q (F0 m (pc + 3) ls (v :: rest))) : W p l e R s m args below meth c H locs cells slots Q (F0 m pc ls (.ref a :: rest)) := hx_get cx.x cx.b cx.ts i_Mo cx.o cx.K he rfl 10 (by decide) (cx.ts _ tw_812) (fun _ h => h) hv hdg kk
theorem pf_Mo_31_Mo (cx : Cx E p s m args meth c "BaselineTextModel" cc nL ret) (hin2 : meth.name = "<init>") (he : hOb (eD E) classes H a 10 fs) (hlo : hLo (eB E) locs) (hB : eB E ≤ a) {x : Option Nat} (hl : 10 < fs.length) (hdg : decode cc pc = .ok (.putfield 31, 3)) (kk : ∀ (H1 : Heap) (locs1 : List Loc), hOb (eD E) classes H1 a 10 (fs.set 10 (va_rf x)) → H1.size = H.size → (∀ q : Nat, q ≠ a → H1[q]? = H[q]?) → hLo (eB E) locs1 → W p l e R s m args below meth c H1 locs1 cells slots Q (F0 m (pc + 3) ls (rest))) : W p l e R s m args below meth c H locs cells slots Q (F0 m pc ls (va_rf x :: .ref a :: rest)) := hx_putF cx.x cx.b cx.ts i_Mo t_Mo t_Mo_ok n_Mo cx.o cx.K he hlo hB rfl 10 (by decide) (cx.ts _ tw_812) (fun _ h => h) rfl hin2 rfl (t_Mo_ok 10 (by decide)) (by cases x <;> rfl) (by cases x <;> rfl) hl hdg kk
theorem gf_Mo_34_Mo (cx : Cx E p s m args meth c "BaselineTextModel" cc nL ret) (he : hOb (eD E) classes H a 10 fs) {v : Value} (hv : fs[11]? = some v) (hdg : decode cc pc = .ok (.getfield 34, 3)) (kk : W p l e R s m args below meth c H locs cells slots Q (F0 m (pc + 3) ls (v :: rest))) : W p l e R s m args below meth c H locs cells slots Q (F0 m pc ls (.ref a :: rest)) := hx_get cx.x cx.b cx.ts i_Mo cx.o cx.K he rfl 11 (by decide) (cx.ts _ tw_813) (fun _ h => h) hv hdg kk
theorem pf_Mo_34_Mo (cx : Cx E p s m args meth c "BaselineTextModel" cc nL ret) (hin2 : meth.name = "<init>") (he : hOb (eD E) classes H a 10 fs) (hlo : hLo (eB E) locs) (hB : eB E ≤ a) {x : Option Nat} (hl : 11 < fs.length) (hdg : decode cc pc = .ok (.putfield 34, 3)) (kk : ∀ (H1 : Heap) (locs1 : List Loc), hOb (eD E) classes H1 a 10 (fs.set 11 (va_rf x)) → H1.size = H.size → (∀ q : Nat, q ≠ a → H1[q]? = H[q]?) → hLo (eB E) locs1 → W p l e R s m args below meth c H1 locs1 cells slots Q (F0 m (pc + 3) ls (rest))) : W p l e R s m args below meth c H locs cells slots Q (F0 m pc ls (va_rf x :: .ref a :: rest)) := hx_putF cx.x cx.b cx.ts i_Mo t_Mo t_Mo_ok n_Mo cx.o cx.K he hlo hB rfl 11 (by decide) (cx.ts _ tw_813) (fun _ h => h) rfl hin2 rfl (t_Mo_ok 11 (by decide)) (by cases x <;> rfl) (by cases x <;> rfl) hl hdg kk
theorem gf_Mo_37_Mo (cx : Cx E p s m args meth c "BaselineTextModel" cc nL ret) (he : hOb (eD E) classes H a 10 fs) {v : Value} (hv : fs[12]? = some v) (hdg : decode cc pc = .ok (.getfield 37, 3)) (kk : W p l e R s m args below meth c H locs cells slots Q (F0 m (pc + 3) ls (v :: rest))) : W p l e R s m args below meth c H locs cells slots Q (F0 m pc ls (.ref a :: rest)) := hx_get cx.x cx.b cx.ts i_Mo cx.o cx.K he rfl 12 (by decide) (cx.ts _ tw_814) (fun _ h => h) hv hdg kk
theorem pf_Mo_37_Mo (cx : Cx E p s m args meth c "BaselineTextModel" cc nL ret) (hin2 : meth.name = "<init>") (he : hOb (eD E) classes H a 10 fs) (hlo : hLo (eB E) locs) (hB : eB E ≤ a) {x : Option Nat} (hl : 12 < fs.length) (hdg : decode cc pc = .ok (.putfield 37, 3)) (kk : ∀ (H1 : Heap) (locs1 : List Loc), hOb (eD E) classes H1 a 10 (fs.set 12 (va_rf x)) → H1.size = H.size → (∀ q : Nat, q ≠ a → H1[q]? = H[q]?) → hLo (eB E) locs1 → W p l e R s m args below meth c H1 locs1 cells slots Q (F0 m (pc + 3) ls (rest))) : W p l e R s m args below meth c H locs cells slots Q (F0 m pc ls (va_rf x :: .ref a :: rest)) := hx_putF cx.x cx.b cx.ts i_Mo t_Mo t_Mo_ok n_Mo cx.o cx.K he hlo hB rfl 12 (by decide) (cx.ts _ tw_814) (fun _ h => h) rfl hin2 rfl (t_Mo_ok 12 (by decide)) (by cases x <;> rfl) (by cases x <;> rfl) hl hdg kk
theorem gf_Mo_40_Mo (cx : Cx E p s m args meth c "BaselineTextModel" cc nL ret) (he : hOb (eD E) classes H a 10 fs) {v : Value} (hv : fs[13]? = some v) (hdg : decode cc pc = .ok (.getfield 40, 3)) (kk : W p l e R s m args below meth c H locs cells slots Q (F0 m (pc + 3) ls (v :: rest))) : W p l e R s m args below meth c H locs cells slots Q (F0 m pc ls (.ref a :: rest)) := hx_get cx.x cx.b cx.ts i_Mo cx.o cx.K he rfl 13 (by decide) (cx.ts _ tw_815) (fun _ h => h) hv hdg kk
theorem pf_Mo_40_Mo (cx : Cx E p s m args meth c "BaselineTextModel" cc nL ret) (hin2 : meth.name = "<init>") (he : hOb (eD E) classes H a 10 fs) (hlo : hLo (eB E) locs) (hB : eB E ≤ a) {x : Option Nat} (hl : 13 < fs.length) (hdg : decode cc pc = .ok (.putfield 40, 3)) (kk : ∀ (H1 : Heap) (locs1 : List Loc), hOb (eD E) classes H1 a 10 (fs.set 13 (va_rf x)) → H1.size = H.size → (∀ q : Nat, q ≠ a → H1[q]? = H[q]?) → hLo (eB E) locs1 → W p l e R s m args below meth c H1 locs1 cells slots Q (F0 m (pc + 3) ls (rest))) : W p l e R s m args below meth c H locs cells slots Q (F0 m pc ls (va_rf x :: .ref a :: rest)) := hx_putF cx.x cx.b cx.ts i_Mo t_Mo t_Mo_ok n_Mo cx.o cx.K he hlo hB rfl 13 (by decide) (cx.ts _ tw_815) (fun _ h => h) rfl hin2 rfl (t_Mo_ok 13 (by decide)) (by cases x <;> rfl) (by cases x <;> rfl) hl hdg kk
theorem gf_Mo_43_Mo (cx : Cx E p s m args meth c "BaselineTextModel" cc nL ret) (he : hOb (eD E) classes H a 10 fs) {v : Value} (hv : fs[19]? = some v) (hdg : decode cc pc = .ok (.getfield 43, 3)) (kk : W p l e R s m args below meth c H locs cells slots Q (F0 m (pc + 3) ls (v :: rest))) : W p l e R s m args below meth c H locs cells slots Q (F0 m pc ls (.ref a :: rest)) := hx_get cx.x cx.b cx.ts i_Mo cx.o cx.K he rfl 19 (by decide) (cx.ts _ tw_821) (fun _ h => h) hv hdg kk
theorem pf_Mo_43_Mo (cx : Cx E p s m args meth c "BaselineTextModel" cc nL ret) (hin2 : meth.name = "<init>") (he : hOb (eD E) classes H a 10 fs) (hlo : hLo (eB E) locs) (hB : eB E ≤ a) {x : Option Nat} (hl : 19 < fs.length) (hdg : decode cc pc = .ok (.putfield 43, 3)) (kk : ∀ (H1 : Heap) (locs1 : List Loc), hOb (eD E) classes H1 a 10 (fs.set 19 (va_rf x)) → H1.size = H.size → (∀ q : Nat, q ≠ a → H1[q]? = H[q]?) → hLo (eB E) locs1 → W p l e R s m args below meth c H1 locs1 cells slots Q (F0 m (pc + 3) ls (rest))) : W p l e R s m args below meth c H locs cells slots Q (F0 m pc ls (va_rf x :: .ref a :: rest)) := hx_putF cx.x cx.b cx.ts i_Mo t_Mo t_Mo_ok n_Mo cx.o cx.K he hlo hB rfl 19 (by decide) (cx.ts _ tw_821) (fun _ h => h) rfl hin2 rfl (t_Mo_ok 19 (by decide)) (by cases x <;> rfl) (by cases x <;> rfl) hl hdg kk
theorem gf_Mo_46_Mo (cx : Cx E p s m args meth c "BaselineTextModel" cc nL ret) (he : hOb (eD E) classes H a 10 fs) {v : Value} (hv : fs[23]? = some v) (hdg : decode cc pc = .ok (.getfield 46, 3)) (kk : W p l e R s m args below meth c H locs cells slots Q (F0 m (pc + 3) ls (v :: rest))) : W p l e R s m args below meth c H locs cells slots Q (F0 m pc ls (.ref a :: rest)) := hx_get cx.x cx.b cx.ts i_Mo cx.o cx.K he rfl 23 (by decide) (cx.ts _ tw_825) (fun _ h => h) hv hdg kk
theorem pf_Mo_46_Mo (cx : Cx E p s m args meth c "BaselineTextModel" cc nL ret) (hin2 : meth.name = "<init>") (he : hOb (eD E) classes H a 10 fs) (hlo : hLo (eB E) locs) (hB : eB E ≤ a) {x : Option Nat} (hl : 23 < fs.length) (hdg : decode cc pc = .ok (.putfield 46, 3)) (kk : ∀ (H1 : Heap) (locs1 : List Loc), hOb (eD E) classes H1 a 10 (fs.set 23 (va_rf x)) → H1.size = H.size → (∀ q : Nat, q ≠ a → H1[q]? = H[q]?) → hLo (eB E) locs1 → W p l e R s m args below meth c H1 locs1 cells slots Q (F0 m (pc + 3) ls (rest))) : W p l e R s m args below meth c H locs cells slots Q (F0 m pc ls (va_rf x :: .ref a :: rest)) := hx_putF cx.x cx.b cx.ts i_Mo t_Mo t_Mo_ok n_Mo cx.o cx.K he hlo hB rfl 23 (by decide) (cx.ts _ tw_825) (fun _ h => h) rfl hin2 rfl (t_Mo_ok 23 (by decide)) (by cases x <;> rfl) (by cases x <;> rfl) hl hdg kk
theorem gf_Mo_49_Mo (cx : Cx E p s m args meth c "BaselineTextModel" cc nL ret) (he : hOb (eD E) classes H a 10 fs) {v : Value} (hv : fs[25]? = some v) (hdg : decode cc pc = .ok (.getfield 49, 3)) (kk : W p l e R s m args below meth c H locs cells slots Q (F0 m (pc + 3) ls (v :: rest))) : W p l e R s m args below meth c H locs cells slots Q (F0 m pc ls (.ref a :: rest)) := hx_get cx.x cx.b cx.ts i_Mo cx.o cx.K he rfl 25 (by decide) (cx.ts _ tw_827) (fun _ h => h) hv hdg kk
theorem pf_Mo_49_Mo (cx : Cx E p s m args meth c "BaselineTextModel" cc nL ret) (hin2 : meth.name = "<init>") (he : hOb (eD E) classes H a 10 fs) (hlo : hLo (eB E) locs) (hB : eB E ≤ a) {x : Option Nat} (hl : 25 < fs.length) (hdg : decode cc pc = .ok (.putfield 49, 3)) (kk : ∀ (H1 : Heap) (locs1 : List Loc), hOb (eD E) classes H1 a 10 (fs.set 25 (va_rf x)) → H1.size = H.size → (∀ q : Nat, q ≠ a → H1[q]? = H[q]?) → hLo (eB E) locs1 → W p l e R s m args below meth c H1 locs1 cells slots Q (F0 m (pc + 3) ls (rest))) : W p l e R s m args below meth c H locs cells slots Q (F0 m pc ls (va_rf x :: .ref a :: rest)) := hx_putF cx.x cx.b cx.ts i_Mo t_Mo t_Mo_ok n_Mo cx.o cx.K he hlo hB rfl 25 (by decide) (cx.ts _ tw_827) (fun _ h => h) rfl hin2 rfl (t_Mo_ok 25 (by decide)) (by cases x <;> rfl) (by cases x <;> rfl) hl hdg kk
theorem gf_Mo_52_Mo (cx : Cx E p s m args meth c "BaselineTextModel" cc nL ret) (he : hOb (eD E) classes H a 10 fs) {v : Value} (hv : fs[1]? = some v) (hdg : decode cc pc = .ok (.getfield 52, 3)) (kk : W p l e R s m args below meth c H locs cells slots Q (F0 m (pc + 3) ls (v :: rest))) : W p l e R s m args below meth c H locs cells slots Q (F0 m pc ls (.ref a :: rest)) := hx_get cx.x cx.b cx.ts i_Mo cx.o cx.K he rfl 1 (by decide) (cx.ts _ tw_803) (fun _ h => h) hv hdg kk
theorem pf_Mo_52_Mo (cx : Cx E p s m args meth c "BaselineTextModel" cc nL ret) (he : hOb (eD E) classes H a 10 fs) (hlo : hLo (eB E) locs) (hB : eB E ≤ a) {x : Int32} (hl : 1 < fs.length) (hdg : decode cc pc = .ok (.putfield 52, 3)) (kk : ∀ (H1 : Heap) (locs1 : List Loc), hOb (eD E) classes H1 a 10 (fs.set 1 (.int x)) → H1.size = H.size → (∀ q : Nat, q ≠ a → H1[q]? = H[q]?) → hLo (eB E) locs1 → W p l e R s m args below meth c H1 locs1 cells slots Q (F0 m (pc + 3) ls (rest))) : W p l e R s m args below meth c H locs cells slots Q (F0 m pc ls (.int x :: .ref a :: rest)) := hx_put cx.x cx.b cx.ts i_Mo t_Mo t_Mo_ok n_Mo cx.o cx.K he hlo hB rfl 1 (by decide) (cx.ts _ tw_803) (fun _ h => h) rfl (t_Mo_ok 1 (by decide)) rfl rfl hl hdg kk
theorem gf_Mo_58_Mo (cx : Cx E p s m args meth c "BaselineTextModel" cc nL ret) (he : hOb (eD E) classes H a 10 fs) {v : Value} (hv : fs[4]? = some v) (hdg : decode cc pc = .ok (.getfield 58, 3)) (kk : W p l e R s m args below meth c H locs cells slots Q (F0 m (pc + 3) ls (v :: rest))) : W p l e R s m args below meth c H locs cells slots Q (F0 m pc ls (.ref a :: rest)) := hx_get cx.x cx.b cx.ts i_Mo cx.o cx.K he rfl 4 (by decide) (cx.ts _ tw_806) (fun _ h => h) hv hdg kk
theorem pf_Mo_58_Mo (cx : Cx E p s m args meth c "BaselineTextModel" cc nL ret) (he : hOb (eD E) classes H a 10 fs) (hlo : hLo (eB E) locs) (hB : eB E ≤ a) {x : Int32} (hz : narrow .boolean (.int x) = .int x ∧ fits .boolean (.int x) = true) (hl : 4 < fs.length) (hdg : decode cc pc = .ok (.putfield 58, 3)) (kk : ∀ (H1 : Heap) (locs1 : List Loc), hOb (eD E) classes H1 a 10 (fs.set 4 (.int x)) → H1.size = H.size → (∀ q : Nat, q ≠ a → H1[q]? = H[q]?) → hLo (eB E) locs1 → W p l e R s m args below meth c H1 locs1 cells slots Q (F0 m (pc + 3) ls (rest))) : W p l e R s m args below meth c H locs cells slots Q (F0 m pc ls (.int x :: .ref a :: rest)) := hx_put cx.x cx.b cx.ts i_Mo t_Mo t_Mo_ok n_Mo cx.o cx.K he hlo hB rfl 4 (by decide) (cx.ts _ tw_806) (fun _ h => h) rfl (t_Mo_ok 4 (by decide)) hz.1 hz.2 hl hdg kk
theorem gf_Mo_62_Mo (cx : Cx E p s m args meth c "BaselineTextModel" cc nL ret) (he : hOb (eD E) classes H a 10 fs) {v : Value} (hv : fs[17]? = some v) (hdg : decode cc pc = .ok (.getfield 62, 3)) (kk : W p l e R s m args below meth c H locs cells slots Q (F0 m (pc + 3) ls (v :: rest))) : W p l e R s m args below meth c H locs cells slots Q (F0 m pc ls (.ref a :: rest)) := hx_get cx.x cx.b cx.ts i_Mo cx.o cx.K he rfl 17 (by decide) (cx.ts _ tw_819) (fun _ h => h) hv hdg kk
theorem pf_Mo_62_Mo (cx : Cx E p s m args meth c "BaselineTextModel" cc nL ret) (he : hOb (eD E) classes H a 10 fs) (hlo : hLo (eB E) locs) (hB : eB E ≤ a) {x : Int32} (hl : 17 < fs.length) (hdg : decode cc pc = .ok (.putfield 62, 3)) (kk : ∀ (H1 : Heap) (locs1 : List Loc), hOb (eD E) classes H1 a 10 (fs.set 17 (.int x)) → H1.size = H.size → (∀ q : Nat, q ≠ a → H1[q]? = H[q]?) → hLo (eB E) locs1 → W p l e R s m args below meth c H1 locs1 cells slots Q (F0 m (pc + 3) ls (rest))) : W p l e R s m args below meth c H locs cells slots Q (F0 m pc ls (.int x :: .ref a :: rest)) := hx_put cx.x cx.b cx.ts i_Mo t_Mo t_Mo_ok n_Mo cx.o cx.K he hlo hB rfl 17 (by decide) (cx.ts _ tw_819) (fun _ h => h) rfl (t_Mo_ok 17 (by decide)) rfl rfl hl hdg kk
theorem gf_Mo_65_Mo (cx : Cx E p s m args meth c "BaselineTextModel" cc nL ret) (he : hOb (eD E) classes H a 10 fs) {v : Value} (hv : fs[15]? = some v) (hdg : decode cc pc = .ok (.getfield 65, 3)) (kk : W p l e R s m args below meth c H locs cells slots Q (F0 m (pc + 3) ls (v :: rest))) : W p l e R s m args below meth c H locs cells slots Q (F0 m pc ls (.ref a :: rest)) := hx_get cx.x cx.b cx.ts i_Mo cx.o cx.K he rfl 15 (by decide) (cx.ts _ tw_817) (fun _ h => h) hv hdg kk
theorem pf_Mo_65_Mo (cx : Cx E p s m args meth c "BaselineTextModel" cc nL ret) (he : hOb (eD E) classes H a 10 fs) (hlo : hLo (eB E) locs) (hB : eB E ≤ a) {x : Int32} (hl : 15 < fs.length) (hdg : decode cc pc = .ok (.putfield 65, 3)) (kk : ∀ (H1 : Heap) (locs1 : List Loc), hOb (eD E) classes H1 a 10 (fs.set 15 (.int x)) → H1.size = H.size → (∀ q : Nat, q ≠ a → H1[q]? = H[q]?) → hLo (eB E) locs1 → W p l e R s m args below meth c H1 locs1 cells slots Q (F0 m (pc + 3) ls (rest))) : W p l e R s m args below meth c H locs cells slots Q (F0 m pc ls (.int x :: .ref a :: rest)) := hx_put cx.x cx.b cx.ts i_Mo t_Mo t_Mo_ok n_Mo cx.o cx.K he hlo hB rfl 15 (by decide) (cx.ts _ tw_817) (fun _ h => h) rfl (t_Mo_ok 15 (by decide)) rfl rfl hl hdg kk
theorem gf_Mo_68_Mo (cx : Cx E p s m args meth c "BaselineTextModel" cc nL ret) (he : hOb (eD E) classes H a 10 fs) {v : Value} (hv : fs[16]? = some v) (hdg : decode cc pc = .ok (.getfield 68, 3)) (kk : W p l e R s m args below meth c H locs cells slots Q (F0 m (pc + 3) ls (v :: rest))) : W p l e R s m args below meth c H locs cells slots Q (F0 m pc ls (.ref a :: rest)) := hx_get cx.x cx.b cx.ts i_Mo cx.o cx.K he rfl 16 (by decide) (cx.ts _ tw_818) (fun _ h => h) hv hdg kk
theorem pf_Mo_68_Mo (cx : Cx E p s m args meth c "BaselineTextModel" cc nL ret) (he : hOb (eD E) classes H a 10 fs) (hlo : hLo (eB E) locs) (hB : eB E ≤ a) {x : Int32} (hl : 16 < fs.length) (hdg : decode cc pc = .ok (.putfield 68, 3)) (kk : ∀ (H1 : Heap) (locs1 : List Loc), hOb (eD E) classes H1 a 10 (fs.set 16 (.int x)) → H1.size = H.size → (∀ q : Nat, q ≠ a → H1[q]? = H[q]?) → hLo (eB E) locs1 → W p l e R s m args below meth c H1 locs1 cells slots Q (F0 m (pc + 3) ls (rest))) : W p l e R s m args below meth c H locs cells slots Q (F0 m pc ls (.int x :: .ref a :: rest)) := hx_put cx.x cx.b cx.ts i_Mo t_Mo t_Mo_ok n_Mo cx.o cx.K he hlo hB rfl 16 (by decide) (cx.ts _ tw_818) (fun _ h => h) rfl (t_Mo_ok 16 (by decide)) rfl rfl hl hdg kk
theorem gf_Mo_95_Mo (cx : Cx E p s m args meth c "BaselineTextModel" cc nL ret) (he : hOb (eD E) classes H a 10 fs) {v : Value} (hv : fs[20]? = some v) (hdg : decode cc pc = .ok (.getfield 95, 3)) (kk : W p l e R s m args below meth c H locs cells slots Q (F0 m (pc + 3) ls (v :: rest))) : W p l e R s m args below meth c H locs cells slots Q (F0 m pc ls (.ref a :: rest)) := hx_get cx.x cx.b cx.ts i_Mo cx.o cx.K he rfl 20 (by decide) (cx.ts _ tw_822) (fun _ h => h) hv hdg kk
theorem pf_Mo_95_Mo (cx : Cx E p s m args meth c "BaselineTextModel" cc nL ret) (he : hOb (eD E) classes H a 10 fs) (hlo : hLo (eB E) locs) (hB : eB E ≤ a) {x : Int32} (hl : 20 < fs.length) (hdg : decode cc pc = .ok (.putfield 95, 3)) (kk : ∀ (H1 : Heap) (locs1 : List Loc), hOb (eD E) classes H1 a 10 (fs.set 20 (.int x)) → H1.size = H.size → (∀ q : Nat, q ≠ a → H1[q]? = H[q]?) → hLo (eB E) locs1 → W p l e R s m args below meth c H1 locs1 cells slots Q (F0 m (pc + 3) ls (rest))) : W p l e R s m args below meth c H locs cells slots Q (F0 m pc ls (.int x :: .ref a :: rest)) := hx_put cx.x cx.b cx.ts i_Mo t_Mo t_Mo_ok n_Mo cx.o cx.K he hlo hB rfl 20 (by decide) (cx.ts _ tw_822) (fun _ h => h) rfl (t_Mo_ok 20 (by decide)) rfl rfl hl hdg kk
theorem gf_Mo_98_Mo (cx : Cx E p s m args meth c "BaselineTextModel" cc nL ret) (he : hOb (eD E) classes H a 10 fs) {v : Value} (hv : fs[18]? = some v) (hdg : decode cc pc = .ok (.getfield 98, 3)) (kk : W p l e R s m args below meth c H locs cells slots Q (F0 m (pc + 3) ls (v :: rest))) : W p l e R s m args below meth c H locs cells slots Q (F0 m pc ls (.ref a :: rest)) := hx_get cx.x cx.b cx.ts i_Mo cx.o cx.K he rfl 18 (by decide) (cx.ts _ tw_820) (fun _ h => h) hv hdg kk
theorem pf_Mo_98_Mo (cx : Cx E p s m args meth c "BaselineTextModel" cc nL ret) (he : hOb (eD E) classes H a 10 fs) (hlo : hLo (eB E) locs) (hB : eB E ≤ a) {x : Int32} (hl : 18 < fs.length) (hdg : decode cc pc = .ok (.putfield 98, 3)) (kk : ∀ (H1 : Heap) (locs1 : List Loc), hOb (eD E) classes H1 a 10 (fs.set 18 (.int x)) → H1.size = H.size → (∀ q : Nat, q ≠ a → H1[q]? = H[q]?) → hLo (eB E) locs1 → W p l e R s m args below meth c H1 locs1 cells slots Q (F0 m (pc + 3) ls (rest))) : W p l e R s m args below meth c H locs cells slots Q (F0 m pc ls (.int x :: .ref a :: rest)) := hx_put cx.x cx.b cx.ts i_Mo t_Mo t_Mo_ok n_Mo cx.o cx.K he hlo hB rfl 18 (by decide) (cx.ts _ tw_820) (fun _ h => h) rfl (t_Mo_ok 18 (by decide)) rfl rfl hl hdg kk
theorem iv_Mo_101 (cx : Cx E p s m args meth c "BaselineTextModel" cc nL ret) (hM : Ct l E y_Mo_begins b_Mo_begins 1 (some .boolean) rm As H Qc) (hn : As.length = 1) (hsize : ls.size = nL) (hst : st0 = As.reverse ++ rest) (hW : (rest.map fun v => v.category).sum ≤ 8) (hdg : decode cc pc = .ok (.invokestatic 101, 3)) (hR : rm.frames + 1 ≤ R.frames ∧ 8 + (1 + 11) + rm.locals ≤ R.locals) (hf : cells + rm.cells ≤ R.cells ∧ slots + rm.slots ≤ R.slots) : va_Run p l e R s m args below meth c H locs cells slots rm.cells rm.slots (F0 m pc ls st0) rest (Qc (As).toArray) (fun q => eB E ≤ q) := rn_S (y := y_Mo_begins) tw_962 tw_960 tw_961 tw_9 ⟨by decide, by decide, by rfl⟩ cx hM hn hsize hst hW hdg hR hf
theorem iv_Mo_105_Mo (cx : Cx E p s m args meth c "BaselineTextModel" cc nL ret) (hM : Ct l E y_Mo_dotted b_Mo_dotted 7 (some .boolean) rm (.ref b :: As) H Qc) (hrecv : hOb (eD E) classes H b 10 fs) (hn : As.length = 3) (hsize : ls.size = nL) (hst : st0 = As.reverse ++ .ref b :: rest) (hW : (rest.map fun v => v.category).sum ≤ 8) (hdg : decode cc pc = .ok (.invokevirtual 105, 3)) (hR : rm.frames + 1 ≤ R.frames ∧ 8 + (7 + 11) + rm.locals ≤ R.locals) (hf : cells + rm.cells ≤ R.cells ∧ slots + rm.slots ≤ R.slots) : va_Run p l e R s m args below meth c H locs cells slots rm.cells rm.slots (F0 m pc ls st0) rest (Qc (Value.ref b :: As).toArray) (fun q => eB E ≤ q) := rn_V (y := y_Mo_dotted) tw_959 tw_956 tw_958 ps_Mo_dotted tw_9 ⟨by decide, by decide, by rfl⟩ cx hM (hrecv.recv cx.K rfl) hn hsize hst hW hdg hR hf
theorem iv_Mo_109_Mo (cx : Cx E p s m args meth c "BaselineTextModel" cc nL ret) (hM : Ct l E y_Mo_field b_Mo_field 5 (some .int) rm (.ref b :: As) H Qc) (hrecv : hOb (eD E) classes H b 10 fs) (hn : As.length = 1) (hsize : ls.size = nL) (hst : st0 = As.reverse ++ .ref b :: rest) (hW : (rest.map fun v => v.category).sum ≤ 8) (hdg : decode cc pc = .ok (.invokevirtual 109, 3)) (hR : rm.frames + 1 ≤ R.frames ∧ 8 + (5 + 11) + rm.locals ≤ R.locals) (hf : cells + rm.cells ≤ R.cells ∧ slots + rm.slots ≤ R.slots) : va_Run p l e R s m args below meth c H locs cells slots rm.cells rm.slots (F0 m pc ls st0) rest (Qc (Value.ref b :: As).toArray) (fun q => eB E ≤ q) := rn_V (y := y_Mo_field) tw_974 tw_971 tw_973 ps_Mo_field tw_9 ⟨by decide, by decide, by rfl⟩ cx hM (hrecv.recv cx.K rfl) hn hsize hst hW hdg hR hf
theorem gf_Mo_113_Mo (cx : Cx E p s m args meth c "BaselineTextModel" cc nL ret) (he : hOb (eD E) classes H a 10 fs) {v : Value} (hv : fs[3]? = some v) (hdg : decode cc pc = .ok (.getfield 113, 3)) (kk : W p l e R s m args below meth c H locs cells slots Q (F0 m (pc + 3) ls (v :: rest))) : W p l e R s m args below meth c H locs cells slots Q (F0 m pc ls (.ref a :: rest)) := hx_get cx.x cx.b cx.ts i_Mo cx.o cx.K he rfl 3 (by decide) (cx.ts _ tw_805) (fun _ h => h) hv hdg kk
theorem pf_Mo_113_Mo (cx : Cx E p s m args meth c "BaselineTextModel" cc nL ret) (he : hOb (eD E) classes H a 10 fs) (hlo : hLo (eB E) locs) (hB : eB E ≤ a) {x : Int32} (hl : 3 < fs.length) (hdg : decode cc pc = .ok (.putfield 113, 3)) (kk : ∀ (H1 : Heap) (locs1 : List Loc), hOb (eD E) classes H1 a 10 (fs.set 3 (.int x)) → H1.size = H.size → (∀ q : Nat, q ≠ a → H1[q]? = H[q]?) → hLo (eB E) locs1 → W p l e R s m args below meth c H1 locs1 cells slots Q (F0 m (pc + 3) ls (rest))) : W p l e R s m args below meth c H locs cells slots Q (F0 m pc ls (.int x :: .ref a :: rest)) := hx_put cx.x cx.b cx.ts i_Mo t_Mo t_Mo_ok n_Mo cx.o cx.K he hlo hB rfl 3 (by decide) (cx.ts _ tw_805) (fun _ h => h) rfl (t_Mo_ok 3 (by decide)) rfl rfl hl hdg kk
theorem gf_Mo_116_Mo (cx : Cx E p s m args meth c "BaselineTextModel" cc nL ret) (he : hOb (eD E) classes H a 10 fs) {v : Value} (hv : fs[21]? = some v) (hdg : decode cc pc = .ok (.getfield 116, 3)) (kk : W p l e R s m args below meth c H locs cells slots Q (F0 m (pc + 3) ls (v :: rest))) : W p l e R s m args below meth c H locs cells slots Q (F0 m pc ls (.ref a :: rest)) := hx_get cx.x cx.b cx.ts i_Mo cx.o cx.K he rfl 21 (by decide) (cx.ts _ tw_823) (fun _ h => h) hv hdg kk
theorem pf_Mo_116_Mo (cx : Cx E p s m args meth c "BaselineTextModel" cc nL ret) (he : hOb (eD E) classes H a 10 fs) (hlo : hLo (eB E) locs) (hB : eB E ≤ a) {x : Int32} (hl : 21 < fs.length) (hdg : decode cc pc = .ok (.putfield 116, 3)) (kk : ∀ (H1 : Heap) (locs1 : List Loc), hOb (eD E) classes H1 a 10 (fs.set 21 (.int x)) → H1.size = H.size → (∀ q : Nat, q ≠ a → H1[q]? = H[q]?) → hLo (eB E) locs1 → W p l e R s m args below meth c H1 locs1 cells slots Q (F0 m (pc + 3) ls (rest))) : W p l e R s m args below meth c H locs cells slots Q (F0 m pc ls (.int x :: .ref a :: rest)) := hx_put cx.x cx.b cx.ts i_Mo t_Mo t_Mo_ok n_Mo cx.o cx.K he hlo hB rfl 21 (by decide) (cx.ts _ tw_823) (fun _ h => h) rfl (t_Mo_ok 21 (by decide)) rfl rfl hl hdg kk
theorem gf_Mo_119_Mo (cx : Cx E p s m args meth c "BaselineTextModel" cc nL ret) (he : hOb (eD E) classes H a 10 fs) {v : Value} (hv : fs[14]? = some v) (hdg : decode cc pc = .ok (.getfield 119, 3)) (kk : W p l e R s m args below meth c H locs cells slots Q (F0 m (pc + 3) ls (v :: rest))) : W p l e R s m args below meth c H locs cells slots Q (F0 m pc ls (.ref a :: rest)) := hx_get cx.x cx.b cx.ts i_Mo cx.o cx.K he rfl 14 (by decide) (cx.ts _ tw_816) (fun _ h => h) hv hdg kk
theorem pf_Mo_119_Mo (cx : Cx E p s m args meth c "BaselineTextModel" cc nL ret) (he : hOb (eD E) classes H a 10 fs) (hlo : hLo (eB E) locs) (hB : eB E ≤ a) {x : Int32} (hl : 14 < fs.length) (hdg : decode cc pc = .ok (.putfield 119, 3)) (kk : ∀ (H1 : Heap) (locs1 : List Loc), hOb (eD E) classes H1 a 10 (fs.set 14 (.int x)) → H1.size = H.size → (∀ q : Nat, q ≠ a → H1[q]? = H[q]?) → hLo (eB E) locs1 → W p l e R s m args below meth c H1 locs1 cells slots Q (F0 m (pc + 3) ls (rest))) : W p l e R s m args below meth c H locs cells slots Q (F0 m pc ls (.int x :: .ref a :: rest)) := hx_put cx.x cx.b cx.ts i_Mo t_Mo t_Mo_ok n_Mo cx.o cx.K he hlo hB rfl 14 (by decide) (cx.ts _ tw_816) (fun _ h => h) rfl (t_Mo_ok 14 (by decide)) rfl rfl hl hdg kk
theorem gf_Mo_122_Mo (cx : Cx E p s m args meth c "BaselineTextModel" cc nL ret) (he : hOb (eD E) classes H a 10 fs) {v : Value} (hv : fs[22]? = some v) (hdg : decode cc pc = .ok (.getfield 122, 3)) (kk : W p l e R s m args below meth c H locs cells slots Q (F0 m (pc + 3) ls (v :: rest))) : W p l e R s m args below meth c H locs cells slots Q (F0 m pc ls (.ref a :: rest)) := hx_get cx.x cx.b cx.ts i_Mo cx.o cx.K he rfl 22 (by decide) (cx.ts _ tw_824) (fun _ h => h) hv hdg kk
theorem pf_Mo_122_Mo (cx : Cx E p s m args meth c "BaselineTextModel" cc nL ret) (he : hOb (eD E) classes H a 10 fs) (hlo : hLo (eB E) locs) (hB : eB E ≤ a) {x : Int32} (hl : 22 < fs.length) (hdg : decode cc pc = .ok (.putfield 122, 3)) (kk : ∀ (H1 : Heap) (locs1 : List Loc), hOb (eD E) classes H1 a 10 (fs.set 22 (.int x)) → H1.size = H.size → (∀ q : Nat, q ≠ a → H1[q]? = H[q]?) → hLo (eB E) locs1 → W p l e R s m args below meth c H1 locs1 cells slots Q (F0 m (pc + 3) ls (rest))) : W p l e R s m args below meth c H locs cells slots Q (F0 m pc ls (.int x :: .ref a :: rest)) := hx_put cx.x cx.b cx.ts i_Mo t_Mo t_Mo_ok n_Mo cx.o cx.K he hlo hB rfl 22 (by decide) (cx.ts _ tw_824) (fun _ h => h) rfl (t_Mo_ok 22 (by decide)) rfl rfl hl hdg kk
theorem iv_Mo_125_Mo (cx : Cx E p s m args meth c "BaselineTextModel" cc nL ret) (hM : Ct l E y_Mo_next b_Mo_next 2 (some .boolean) rm (.ref b :: As) H Qc) (hrecv : hOb (eD E) classes H b 10 fs) (hn : As.length = 0) (hsize : ls.size = nL) (hst : st0 = As.reverse ++ .ref b :: rest) (hW : (rest.map fun v => v.category).sum ≤ 8) (hdg : decode cc pc = .ok (.invokevirtual 125, 3)) (hR : rm.frames + 1 ≤ R.frames ∧ 8 + (2 + 11) + rm.locals ≤ R.locals) (hf : cells + rm.cells ≤ R.cells ∧ slots + rm.slots ≤ R.slots) : va_Run p l e R s m args below meth c H locs cells slots rm.cells rm.slots (F0 m pc ls st0) rest (Qc (Value.ref b :: As).toArray) (fun q => eB E ≤ q) := rn_V (y := y_Mo_next) tw_904 tw_901 tw_903 ps_Mo_next tw_9 ⟨by decide, by decide, by rfl⟩ cx hM (hrecv.recv cx.K rfl) hn hsize hst hW hdg hR hf
theorem iv_Mo_129_Mo (cx : Cx E p s m args meth c "BaselineTextModel" cc nL ret) (hM : Ct l E y_Mo_word b_Mo_word 4 (some .long) rm (.ref b :: As) H Qc) (hrecv : hOb (eD E) classes H b 10 fs) (hn : As.length = 0) (hsize : ls.size = nL) (hst : st0 = As.reverse ++ .ref b :: rest) (hW : (rest.map fun v => v.category).sum ≤ 8) (hdg : decode cc pc = .ok (.invokevirtual 129, 3)) (hR : rm.frames + 1 ≤ R.frames ∧ 8 + (4 + 11) + rm.locals ≤ R.locals) (hf : cells + rm.cells ≤ R.cells ∧ slots + rm.slots ≤ R.slots) : va_Run p l e R s m args below meth c H locs cells slots rm.cells rm.slots (F0 m pc ls st0) rest (Qc (Value.ref b :: As).toArray) (fun q => eB E ≤ q) := rn_V (y := y_Mo_word) tw_912 tw_909 tw_911 ps_Mo_word tw_9 ⟨by decide, by decide, by rfl⟩ cx hM (hrecv.recv cx.K rfl) hn hsize hst hW hdg hR hf
theorem iv_Mo_133 (cx : Cx E p s m args meth c "BaselineTextModel" cc nL ret) (hM : Ct l E y_Mo_mark b_Mo_mark 3 (some .int) rm As H Qc) (hn : As.length = 2) (hsize : ls.size = nL) (hst : st0 = As.reverse ++ rest) (hW : (rest.map fun v => v.category).sum ≤ 8) (hdg : decode cc pc = .ok (.invokestatic 133, 3)) (hR : rm.frames + 1 ≤ R.frames ∧ 8 + (3 + 11) + rm.locals ≤ R.locals) (hf : cells + rm.cells ≤ R.cells ∧ slots + rm.slots ≤ R.slots) : va_Run p l e R s m args below meth c H locs cells slots rm.cells rm.slots (F0 m pc ls st0) rest (Qc (As).toArray) (fun q => eB E ≤ q) := rn_S (y := y_Mo_mark) tw_933 tw_931 tw_932 tw_9 ⟨by decide, by decide, by rfl⟩ cx hM hn hsize hst hW hdg hR hf
theorem iv_Mo_137_Mo (cx : Cx E p s m args meth c "BaselineTextModel" cc nL ret) (hM : Ct l E y_Mo_fail b_Mo_fail 2 (some .boolean) rm (.ref b :: As) H Qc) (hrecv : hOb (eD E) classes H b 10 fs) (hn : As.length = 1) (hsize : ls.size = nL) (hst : st0 = As.reverse ++ .ref b :: rest) (hW : (rest.map fun v => v.category).sum ≤ 8) (hdg : decode cc pc = .ok (.invokevirtual 137, 3)) (hR : rm.frames + 1 ≤ R.frames ∧ 8 + (2 + 11) + rm.locals ≤ R.locals) (hf : cells + rm.cells ≤ R.cells ∧ slots + rm.slots ≤ R.slots) : va_Run p l e R s m args below meth c H locs cells slots rm.cells rm.slots (F0 m pc ls st0) rest (Qc (Value.ref b :: As).toArray) (fun q => eB E ≤ q) := rn_V (y := y_Mo_fail) tw_942 tw_939 tw_941 ps_Mo_fail tw_9 ⟨by decide, by decide, by rfl⟩ cx hM (hrecv.recv cx.K rfl) hn hsize hst hW hdg hR hf
theorem iv_Mo_140 (cx : Cx E p s m args meth c "BaselineTextModel" cc nL ret) (hM : Ct l E y_Mo_kindOf b_Mo_kindOf 3 (some .int) rm As H Qc) (hn : As.length = 2) (hsize : ls.size = nL) (hst : st0 = As.reverse ++ rest) (hW : (rest.map fun v => v.category).sum ≤ 8) (hdg : decode cc pc = .ok (.invokestatic 140, 3)) (hR : rm.frames + 1 ≤ R.frames ∧ 8 + (3 + 11) + rm.locals ≤ R.locals) (hf : cells + rm.cells ≤ R.cells ∧ slots + rm.slots ≤ R.slots) : va_Run p l e R s m args below meth c H locs cells slots rm.cells rm.slots (F0 m pc ls st0) rest (Qc (As).toArray) (fun q => eB E ≤ q) := rn_S (y := y_Mo_kindOf) tw_945 tw_943 tw_944 tw_9 ⟨by decide, by decide, by rfl⟩ cx hM hn hsize hst hW hdg hR hf
theorem iv_Mo_143_Mo (cx : Cx E p s m args meth c "BaselineTextModel" cc nL ret) (hM : Ct l E y_Mo_take b_Mo_take 3 (some .boolean) rm (.ref b :: As) H Qc) (hrecv : hOb (eD E) classes H b 10 fs) (hn : As.length = 0) (hsize : ls.size = nL) (hst : st0 = As.reverse ++ .ref b :: rest) (hW : (rest.map fun v => v.category).sum ≤ 8) (hdg : decode cc pc = .ok (.invokevirtual 143, 3)) (hR : rm.frames + 1 ≤ R.frames ∧ 8 + (3 + 11) + rm.locals ≤ R.locals) (hf : cells + rm.cells ≤ R.cells ∧ slots + rm.slots ≤ R.slots) : va_Run p l e R s m args below meth c H locs cells slots rm.cells rm.slots (F0 m pc ls st0) rest (Qc (Value.ref b :: As).toArray) (fun q => eB E ≤ q) := rn_V (y := y_Mo_take) tw_955 tw_952 tw_954 ps_Mo_take tw_9 ⟨by decide, by decide, by rfl⟩ cx hM (hrecv.recv cx.K rfl) hn hsize hst hW hdg hR hf
theorem iv_Mo_146_Mo (cx : Cx E p s m args meth c "BaselineTextModel" cc nL ret) (hM : Ct l E y_Mo_init2 b_Mo_init2 1 (some .boolean) rm (.ref b :: As) H Qc) (hrecv : hOb (eD E) classes H b 10 fs) (hn : As.length = 0) (hsize : ls.size = nL) (hst : st0 = As.reverse ++ .ref b :: rest) (hW : (rest.map fun v => v.category).sum ≤ 8) (hdg : decode cc pc = .ok (.invokevirtual 146, 3)) (hR : rm.frames + 1 ≤ R.frames ∧ 8 + (1 + 11) + rm.locals ≤ R.locals) (hf : cells + rm.cells ≤ R.cells ∧ slots + rm.slots ≤ R.slots) : va_Run p l e R s m args below meth c H locs cells slots rm.cells rm.slots (F0 m pc ls st0) rest (Qc (Value.ref b :: As).toArray) (fun q => eB E ≤ q) := rn_V (y := y_Mo_init2) tw_966 tw_963 tw_965 ps_Mo_init2 tw_9 ⟨by decide, by decide, by rfl⟩ cx hM (hrecv.recv cx.K rfl) hn hsize hst hW hdg hR hf
theorem iv_Mo_149_Mo (cx : Cx E p s m args meth c "BaselineTextModel" cc nL ret) (hM : Ct l E y_Mo_method b_Mo_method 2 (some .boolean) rm (.ref b :: As) H Qc) (hrecv : hOb (eD E) classes H b 10 fs) (hn : As.length = 0) (hsize : ls.size = nL) (hst : st0 = As.reverse ++ .ref b :: rest) (hW : (rest.map fun v => v.category).sum ≤ 8) (hdg : decode cc pc = .ok (.invokevirtual 149, 3)) (hR : rm.frames + 1 ≤ R.frames ∧ 8 + (2 + 11) + rm.locals ≤ R.locals) (hf : cells + rm.cells ≤ R.cells ∧ slots + rm.slots ≤ R.slots) : va_Run p l e R s m args below meth c H locs cells slots rm.cells rm.slots (F0 m pc ls st0) rest (Qc (Value.ref b :: As).toArray) (fun q => eB E ≤ q) := rn_V (y := y_Mo_method) tw_970 tw_967 tw_969 ps_Mo_method tw_9 ⟨by decide, by decide, by rfl⟩ cx hM (hrecv.recv cx.K rfl) hn hsize hst hW hdg hR hf
theorem iv_Mo_152_Mo (cx : Cx E p s m args meth c "BaselineTextModel" cc nL ret) (hM : Ct l E y_Mo_compareNames b_Mo_compareNames 5 (some .int) rm (.ref b :: As) H Qc) (hrecv : hOb (eD E) classes H b 10 fs) (hn : As.length = 2) (hsize : ls.size = nL) (hst : st0 = As.reverse ++ .ref b :: rest) (hW : (rest.map fun v => v.category).sum ≤ 8) (hdg : decode cc pc = .ok (.invokevirtual 152, 3)) (hR : rm.frames + 1 ≤ R.frames ∧ 8 + (5 + 11) + rm.locals ≤ R.locals) (hf : cells + rm.cells ≤ R.cells ∧ slots + rm.slots ≤ R.slots) : va_Run p l e R s m args below meth c H locs cells slots rm.cells rm.slots (F0 m pc ls st0) rest (Qc (Value.ref b :: As).toArray) (fun q => eB E ≤ q) := rn_V (y := y_Mo_compareNames) tw_982 tw_979 tw_981 ps_Mo_compareNames tw_9 ⟨by decide, by decide, by rfl⟩ cx hM (hrecv.recv cx.K rfl) hn hsize hst hW hdg hR hf
theorem iv_Mo_156_Mo (cx : Cx E p s m args meth c "BaselineTextModel" cc nL ret) (hM : Ct l E y_Mo_words b_Mo_words 8 (some .boolean) rm (.ref b :: As) H Qc) (hrecv : hOb (eD E) classes H b 10 fs) (hn : As.length = 2) (hsize : ls.size = nL) (hst : st0 = As.reverse ++ .ref b :: rest) (hW : (rest.map fun v => v.category).sum ≤ 8) (hdg : decode cc pc = .ok (.invokevirtual 156, 3)) (hR : rm.frames + 1 ≤ R.frames ∧ 8 + (8 + 11) + rm.locals ≤ R.locals) (hf : cells + rm.cells ≤ R.cells ∧ slots + rm.slots ≤ R.slots) : va_Run p l e R s m args below meth c H locs cells slots rm.cells rm.slots (F0 m pc ls st0) rest (Qc (Value.ref b :: As).toArray) (fun q => eB E ≤ q) := rn_V (y := y_Mo_words) tw_930 tw_927 tw_929 ps_Mo_words tw_9 ⟨by decide, by decide, by rfl⟩ cx hM (hrecv.recv cx.K rfl) hn hsize hst hW hdg hR hf
theorem iv_Mo_160_Mo (cx : Cx E p s m args meth c "BaselineTextModel" cc nL ret) (hM : Ct l E y_Mo_move b_Mo_move 4 none rm (.ref b :: As) H Qc) (hrecv : hOb (eD E) classes H b 10 fs) (hn : As.length = 2) (hsize : ls.size = nL) (hst : st0 = As.reverse ++ .ref b :: rest) (hW : (rest.map fun v => v.category).sum ≤ 8) (hdg : decode cc pc = .ok (.invokevirtual 160, 3)) (hR : rm.frames + 1 ≤ R.frames ∧ 8 + (4 + 11) + rm.locals ≤ R.locals) (hf : cells + rm.cells ≤ R.cells ∧ slots + rm.slots ≤ R.slots) : va_Run p l e R s m args below meth c H locs cells slots rm.cells rm.slots (F0 m pc ls st0) rest (Qc (Value.ref b :: As).toArray) (fun q => eB E ≤ q) := rn_V (y := y_Mo_move) tw_986 tw_983 tw_985 ps_Mo_move tw_9 ⟨by decide, by decide, by rfl⟩ cx hM (hrecv.recv cx.K rfl) hn hsize hst hW hdg hR hf
theorem iv_Mo_164_Mo (cx : Cx E p s m args meth c "BaselineTextModel" cc nL ret) (hM : Ct l E y_Mo_compareMembers b_Mo_compareMembers 6 (some .int) rm (.ref b :: As) H Qc) (hrecv : hOb (eD E) classes H b 10 fs) (hn : As.length = 2) (hsize : ls.size = nL) (hst : st0 = As.reverse ++ .ref b :: rest) (hW : (rest.map fun v => v.category).sum ≤ 8) (hdg : decode cc pc = .ok (.invokevirtual 164, 3)) (hR : rm.frames + 1 ≤ R.frames ∧ 8 + (6 + 11) + rm.locals ≤ R.locals) (hf : cells + rm.cells ≤ R.cells ∧ slots + rm.slots ≤ R.slots) : va_Run p l e R s m args below meth c H locs cells slots rm.cells rm.slots (F0 m pc ls st0) rest (Qc (Value.ref b :: As).toArray) (fun q => eB E ≤ q) := rn_V (y := y_Mo_compareMembers) tw_978 tw_975 tw_977 ps_Mo_compareMembers tw_9 ⟨by decide, by decide, by rfl⟩ cx hM (hrecv.recv cx.K rfl) hn hsize hst hW hdg hR hf
theorem iv_Mo_169_Mo (cx : Cx E p s m args meth c "BaselineTextModel" cc nL ret) (hM : Ct l E y_Mo_tell b_Mo_tell 4 none rm (.ref b :: As) H Qc) (hrecv : hOb (eD E) classes H b 10 fs) (hn : As.length = 3) (hsize : ls.size = nL) (hst : st0 = As.reverse ++ .ref b :: rest) (hW : (rest.map fun v => v.category).sum ≤ 8) (hdg : decode cc pc = .ok (.invokevirtual 169, 3)) (hR : rm.frames + 1 ≤ R.frames ∧ 8 + (4 + 11) + rm.locals ≤ R.locals) (hf : cells + rm.cells ≤ R.cells ∧ slots + rm.slots ≤ R.slots) : va_Run p l e R s m args below meth c H locs cells slots rm.cells rm.slots (F0 m pc ls st0) rest (Qc (Value.ref b :: As).toArray) (fun q => eB E ≤ q) := rn_V (y := y_Mo_tell) tw_918 tw_915 tw_917 ps_Mo_tell tw_9 ⟨by decide, by decide, by rfl⟩ cx hM (hrecv.recv cx.K rfl) hn hsize hst hW hdg hR hf
theorem iv_Mo_173 (cx : Cx E p s m args meth c "BaselineTextModel" cc nL ret) (hM : Ct l E y_Mo_none b_Mo_none 1 (some .boolean) rm As H Qc) (hn : As.length = 1) (hsize : ls.size = nL) (hst : st0 = As.reverse ++ rest) (hW : (rest.map fun v => v.category).sum ≤ 8) (hdg : decode cc pc = .ok (.invokestatic 173, 3)) (hR : rm.frames + 1 ≤ R.frames ∧ 8 + (1 + 11) + rm.locals ≤ R.locals) (hf : cells + rm.cells ≤ R.cells ∧ slots + rm.slots ≤ R.slots) : va_Run p l e R s m args below meth c H locs cells slots rm.cells rm.slots (F0 m pc ls st0) rest (Qc (As).toArray) (fun q => eB E ≤ q) := rn_S (y := y_Mo_none) tw_896 tw_894 tw_895 tw_9 ⟨by decide, by decide, by rfl⟩ cx hM hn hsize hst hW hdg hR hf
theorem iv_Mo_176_Mo (cx : Cx E p s m args meth c "BaselineTextModel" cc nL ret) (hM : Ct l E y_Mo_side b_Mo_side 2 (some .int) rm (.ref b :: As) H Qc) (hrecv : hOb (eD E) classes H b 10 fs) (hn : As.length = 1) (hsize : ls.size = nL) (hst : st0 = As.reverse ++ .ref b :: rest) (hW : (rest.map fun v => v.category).sum ≤ 8) (hdg : decode cc pc = .ok (.invokevirtual 176, 3)) (hR : rm.frames + 1 ≤ R.frames ∧ 8 + (2 + 11) + rm.locals ≤ R.locals) (hf : cells + rm.cells ≤ R.cells ∧ slots + rm.slots ≤ R.slots) : va_Run p l e R s m args below meth c H locs cells slots rm.cells rm.slots (F0 m pc ls st0) rest (Qc (Value.ref b :: As).toArray) (fun q => eB E ≤ q) := rn_V (y := y_Mo_side) tw_900 tw_897 tw_899 ps_Mo_side tw_9 ⟨by decide, by decide, by rfl⟩ cx hM (hrecv.recv cx.K rfl) hn hsize hst hW hdg hR hf
theorem iv_Mo_179_Mo (cx : Cx E p s m args meth c "BaselineTextModel" cc nL ret) (hM : Ct l E y_Mo_first b_Mo_first 7 (some .int) rm (.ref b :: As) H Qc) (hrecv : hOb (eD E) classes H b 10 fs) (hn : As.length = 2) (hsize : ls.size = nL) (hst : st0 = As.reverse ++ .ref b :: rest) (hW : (rest.map fun v => v.category).sum ≤ 8) (hdg : decode cc pc = .ok (.invokevirtual 179, 3)) (hR : rm.frames + 1 ≤ R.frames ∧ 8 + (7 + 11) + rm.locals ≤ R.locals) (hf : cells + rm.cells ≤ R.cells ∧ slots + rm.slots ≤ R.slots) : va_Run p l e R s m args below meth c H locs cells slots rm.cells rm.slots (F0 m pc ls st0) rest (Qc (Value.ref b :: As).toArray) (fun q => eB E ≤ q) := rn_V (y := y_Mo_first) tw_908 tw_905 tw_907 ps_Mo_first tw_9 ⟨by decide, by decide, by rfl⟩ cx hM (hrecv.recv cx.K rfl) hn hsize hst hW hdg hR hf
theorem iv_Mo_182_Mo (cx : Cx E p s m args meth c "BaselineTextModel" cc nL ret) (hM : Ct l E y_Mo_body b_Mo_body 8 (some .int) rm (.ref b :: As) H Qc) (hrecv : hOb (eD E) classes H b 10 fs) (hn : As.length = 3) (hsize : ls.size = nL) (hst : st0 = As.reverse ++ .ref b :: rest) (hW : (rest.map fun v => v.category).sum ≤ 8) (hdg : decode cc pc = .ok (.invokevirtual 182, 3)) (hR : rm.frames + 1 ≤ R.frames ∧ 8 + (8 + 11) + rm.locals ≤ R.locals) (hf : cells + rm.cells ≤ R.cells ∧ slots + rm.slots ≤ R.slots) : va_Run p l e R s m args below meth c H locs cells slots rm.cells rm.slots (F0 m pc ls st0) rest (Qc (Value.ref b :: As).toArray) (fun q => eB E ≤ q) := rn_V (y := y_Mo_body) tw_922 tw_919 tw_921 ps_Mo_body tw_9 ⟨by decide, by decide, by rfl⟩ cx hM (hrecv.recv cx.K rfl) hn hsize hst hW hdg hR hf
theorem iv_Mo_186_Mo (cx : Cx E p s m args meth c "BaselineTextModel" cc nL ret) (hM : Ct l E y_Mo_memberLine b_Mo_memberLine 5 none rm (.ref b :: As) H Qc) (hrecv : hOb (eD E) classes H b 10 fs) (hn : As.length = 2) (hsize : ls.size = nL) (hst : st0 = As.reverse ++ .ref b :: rest) (hW : (rest.map fun v => v.category).sum ≤ 8) (hdg : decode cc pc = .ok (.invokevirtual 186, 3)) (hR : rm.frames + 1 ≤ R.frames ∧ 8 + (5 + 11) + rm.locals ≤ R.locals) (hf : cells + rm.cells ≤ R.cells ∧ slots + rm.slots ≤ R.slots) : va_Run p l e R s m args below meth c H locs cells slots rm.cells rm.slots (F0 m pc ls st0) rest (Qc (Value.ref b :: As).toArray) (fun q => eB E ≤ q) := rn_V (y := y_Mo_memberLine) tw_926 tw_923 tw_925 ps_Mo_memberLine tw_9 ⟨by decide, by decide, by rfl⟩ cx hM (hrecv.recv cx.K rfl) hn hsize hst hW hdg hR hf
theorem iv_Mo_189_Mo (cx : Cx E p s m args meth c "BaselineTextModel" cc nL ret) (hM : Ct l E y_Mo_typeLine b_Mo_typeLine 3 (some .int) rm (.ref b :: As) H Qc) (hrecv : hOb (eD E) classes H b 10 fs) (hn : As.length = 1) (hsize : ls.size = nL) (hst : st0 = As.reverse ++ .ref b :: rest) (hW : (rest.map fun v => v.category).sum ≤ 8) (hdg : decode cc pc = .ok (.invokevirtual 189, 3)) (hR : rm.frames + 1 ≤ R.frames ∧ 8 + (3 + 11) + rm.locals ≤ R.locals) (hf : cells + rm.cells ≤ R.cells ∧ slots + rm.slots ≤ R.slots) : va_Run p l e R s m args below meth c H locs cells slots rm.cells rm.slots (F0 m pc ls st0) rest (Qc (Value.ref b :: As).toArray) (fun q => eB E ≤ q) := rn_V (y := y_Mo_typeLine) tw_990 tw_987 tw_989 ps_Mo_typeLine tw_9 ⟨by decide, by decide, by rfl⟩ cx hM (hrecv.recv cx.K rfl) hn hsize hst hW hdg hR hf
theorem iv_Mo_192_Mo (cx : Cx E p s m args meth c "BaselineTextModel" cc nL ret) (hM : Ct l E y_Mo_count b_Mo_count 2 (some .int) rm (.ref b :: As) H Qc) (hrecv : hOb (eD E) classes H b 10 fs) (hn : As.length = 1) (hsize : ls.size = nL) (hst : st0 = As.reverse ++ .ref b :: rest) (hW : (rest.map fun v => v.category).sum ≤ 8) (hdg : decode cc pc = .ok (.invokevirtual 192, 3)) (hR : rm.frames + 1 ≤ R.frames ∧ 8 + (2 + 11) + rm.locals ≤ R.locals) (hf : cells + rm.cells ≤ R.cells ∧ slots + rm.slots ≤ R.slots) : va_Run p l e R s m args below meth c H locs cells slots rm.cells rm.slots (F0 m pc ls st0) rest (Qc (Value.ref b :: As).toArray) (fun q => eB E ≤ q) := rn_V (y := y_Mo_count) tw_1018 tw_1015 tw_1017 ps_Mo_count tw_9 ⟨by decide, by decide, by rfl⟩ cx hM (hrecv.recv cx.K rfl) hn hsize hst hW hdg hR hf
theorem gf_Mo_195_Mo (cx : Cx E p s m args meth c "BaselineTextModel" cc nL ret) (he : hOb (eD E) classes H a 10 fs) {v : Value} (hv : fs[24]? = some v) (hdg : decode cc pc = .ok (.getfield 195, 3)) (kk : W p l e R s m args below meth c H locs cells slots Q (F0 m (pc + 3) ls (v :: rest))) : W p l e R s m args below meth c H locs cells slots Q (F0 m pc ls (.ref a :: rest)) := hx_get cx.x cx.b cx.ts i_Mo cx.o cx.K he rfl 24 (by decide) (cx.ts _ tw_826) (fun _ h => h) hv hdg kk
theorem pf_Mo_195_Mo (cx : Cx E p s m args meth c "BaselineTextModel" cc nL ret) (he : hOb (eD E) classes H a 10 fs) (hlo : hLo (eB E) locs) (hB : eB E ≤ a) {x : Int32} (hl : 24 < fs.length) (hdg : decode cc pc = .ok (.putfield 195, 3)) (kk : ∀ (H1 : Heap) (locs1 : List Loc), hOb (eD E) classes H1 a 10 (fs.set 24 (.int x)) → H1.size = H.size → (∀ q : Nat, q ≠ a → H1[q]? = H[q]?) → hLo (eB E) locs1 → W p l e R s m args below meth c H1 locs1 cells slots Q (F0 m (pc + 3) ls (rest))) : W p l e R s m args below meth c H locs cells slots Q (F0 m pc ls (.int x :: .ref a :: rest)) := hx_put cx.x cx.b cx.ts i_Mo t_Mo t_Mo_ok n_Mo cx.o cx.K he hlo hB rfl 24 (by decide) (cx.ts _ tw_826) (fun _ h => h) rfl (t_Mo_ok 24 (by decide)) rfl rfl hl hdg kk
theorem iv_Mo_198_Mo (cx : Cx E p s m args meth c "BaselineTextModel" cc nL ret) (hM : Ct l E y_Mo_put b_Mo_put 2 none rm (.ref b :: As) H Qc) (hrecv : hOb (eD E) classes H b 10 fs) (hn : As.length = 1) (hsize : ls.size = nL) (hst : st0 = As.reverse ++ .ref b :: rest) (hW : (rest.map fun v => v.category).sum ≤ 8) (hdg : decode cc pc = .ok (.invokevirtual 198, 3)) (hR : rm.frames + 1 ≤ R.frames ∧ 8 + (2 + 11) + rm.locals ≤ R.locals) (hf : cells + rm.cells ≤ R.cells ∧ slots + rm.slots ≤ R.slots) : va_Run p l e R s m args below meth c H locs cells slots rm.cells rm.slots (F0 m pc ls st0) rest (Qc (Value.ref b :: As).toArray) (fun q => eB E ≤ q) := rn_V (y := y_Mo_put) tw_1010 tw_1007 tw_1009 ps_Mo_put tw_9 ⟨by decide, by decide, by rfl⟩ cx hM (hrecv.recv cx.K rfl) hn hsize hst hW hdg hR hf
theorem iv_Mo_202 (cx : Cx E p s m args meth c "BaselineTextModel" cc nL ret) (hM : Ct l E y_Mo_markWord b_Mo_markWord 2 (some .long) rm As H Qc) (hn : As.length = 2) (hsize : ls.size = nL) (hst : st0 = As.reverse ++ rest) (hW : (rest.map fun v => v.category).sum ≤ 8) (hdg : decode cc pc = .ok (.invokestatic 202, 3)) (hR : rm.frames + 1 ≤ R.frames ∧ 8 + (2 + 11) + rm.locals ≤ R.locals) (hf : cells + rm.cells ≤ R.cells ∧ slots + rm.slots ≤ R.slots) : va_Run p l e R s m args below meth c H locs cells slots rm.cells rm.slots (F0 m pc ls st0) rest (Qc (As).toArray) (fun q => eB E ≤ q) := rn_S (y := y_Mo_markWord) tw_1029 tw_1027 tw_1028 tw_9 ⟨by decide, by decide, by rfl⟩ cx hM hn hsize hst hW hdg hR hf
theorem iv_Mo_206_Mo (cx : Cx E p s m args meth c "BaselineTextModel" cc nL ret) (hM : Ct l E y_Mo_say b_Mo_say 5 none rm (.ref b :: As) H Qc) (hrecv : hOb (eD E) classes H b 10 fs) (hn : As.length = 1) (hsize : ls.size = nL) (hst : st0 = As.reverse ++ .ref b :: rest) (hW : (rest.map fun v => v.category).sum ≤ 8) (hdg : decode cc pc = .ok (.invokevirtual 206, 3)) (hR : rm.frames + 1 ≤ R.frames ∧ 8 + (5 + 11) + rm.locals ≤ R.locals) (hf : cells + rm.cells ≤ R.cells ∧ slots + rm.slots ≤ R.slots) : va_Run p l e R s m args below meth c H locs cells slots rm.cells rm.slots (F0 m pc ls st0) rest (Qc (Value.ref b :: As).toArray) (fun q => eB E ≤ q) := rn_V (y := y_Mo_say) tw_1006 tw_1003 tw_1005 ps_Mo_say tw_9 ⟨by decide, by decide, by rfl⟩ cx hM (hrecv.recv cx.K rfl) hn hsize hst hW hdg hR hf
theorem iv_Mo_210 (cx : Cx E p s m args meth c "BaselineTextModel" cc nL ret) (hM : Ct l E y_Mo_kindWord b_Mo_kindWord 2 (some .long) rm As H Qc) (hn : As.length = 2) (hsize : ls.size = nL) (hst : st0 = As.reverse ++ rest) (hW : (rest.map fun v => v.category).sum ≤ 8) (hdg : decode cc pc = .ok (.invokestatic 210, 3)) (hR : rm.frames + 1 ≤ R.frames ∧ 8 + (2 + 11) + rm.locals ≤ R.locals) (hf : cells + rm.cells ≤ R.cells ∧ slots + rm.slots ≤ R.slots) : va_Run p l e R s m args below meth c H locs cells slots rm.cells rm.slots (F0 m pc ls st0) rest (Qc (As).toArray) (fun q => eB E ≤ q) := rn_S (y := y_Mo_kindWord) tw_1032 tw_1030 tw_1031 tw_9 ⟨by decide, by decide, by rfl⟩ cx hM hn hsize hst hW hdg hR hf
theorem iv_Mo_213_Mo (cx : Cx E p s m args meth c "BaselineTextModel" cc nL ret) (hM : Ct l E y_Mo_copyText b_Mo_copyText 7 none rm (.ref b :: As) H Qc) (hrecv : hOb (eD E) classes H b 10 fs) (hn : As.length = 3) (hsize : ls.size = nL) (hst : st0 = As.reverse ++ .ref b :: rest) (hW : (rest.map fun v => v.category).sum ≤ 8) (hdg : decode cc pc = .ok (.invokevirtual 213, 3)) (hR : rm.frames + 1 ≤ R.frames ∧ 8 + (7 + 11) + rm.locals ≤ R.locals) (hf : cells + rm.cells ≤ R.cells ∧ slots + rm.slots ≤ R.slots) : va_Run p l e R s m args below meth c H locs cells slots rm.cells rm.slots (F0 m pc ls st0) rest (Qc (Value.ref b :: As).toArray) (fun q => eB E ≤ q) := rn_V (y := y_Mo_copyText) tw_1036 tw_1033 tw_1035 ps_Mo_copyText tw_9 ⟨by decide, by decide, by rfl⟩ cx hM (hrecv.recv cx.K rfl) hn hsize hst hW hdg hR hf
theorem iv_Mo_217_Mo (cx : Cx E p s m args meth c "BaselineTextModel" cc nL ret) (hM : Ct l E y_Mo_typeRow b_Mo_typeRow 6 (some .int) rm (.ref b :: As) H Qc) (hrecv : hOb (eD E) classes H b 10 fs) (hn : As.length = 2) (hsize : ls.size = nL) (hst : st0 = As.reverse ++ .ref b :: rest) (hW : (rest.map fun v => v.category).sum ≤ 8) (hdg : decode cc pc = .ok (.invokevirtual 217, 3)) (hR : rm.frames + 1 ≤ R.frames ∧ 8 + (6 + 11) + rm.locals ≤ R.locals) (hf : cells + rm.cells ≤ R.cells ∧ slots + rm.slots ≤ R.slots) : va_Run p l e R s m args below meth c H locs cells slots rm.cells rm.slots (F0 m pc ls st0) rest (Qc (Value.ref b :: As).toArray) (fun q => eB E ≤ q) := rn_V (y := y_Mo_typeRow) tw_1014 tw_1011 tw_1013 ps_Mo_typeRow tw_9 ⟨by decide, by decide, by rfl⟩ cx hM (hrecv.recv cx.K rfl) hn hsize hst hW hdg hR hf
theorem iv_Mo_220_Mo (cx : Cx E p s m args meth c "BaselineTextModel" cc nL ret) (hM : Ct l E y_Mo_memberRow b_Mo_memberRow 7 (some .int) rm (.ref b :: As) H Qc) (hrecv : hOb (eD E) classes H b 10 fs) (hn : As.length = 2) (hsize : ls.size = nL) (hst : st0 = As.reverse ++ .ref b :: rest) (hW : (rest.map fun v => v.category).sum ≤ 8) (hdg : decode cc pc = .ok (.invokevirtual 220, 3)) (hR : rm.frames + 1 ≤ R.frames ∧ 8 + (7 + 11) + rm.locals ≤ R.locals) (hf : cells + rm.cells ≤ R.cells ∧ slots + rm.slots ≤ R.slots) : va_Run p l e R s m args below meth c H locs cells slots rm.cells rm.slots (F0 m pc ls st0) rest (Qc (Value.ref b :: As).toArray) (fun q => eB E ≤ q) := rn_V (y := y_Mo_memberRow) tw_1022 tw_1019 tw_1021 ps_Mo_memberRow tw_9 ⟨by decide, by decide, by rfl⟩ cx hM (hrecv.recv cx.K rfl) hn hsize hst hW hdg hR hf
theorem iv_Mo_223_Mo (cx : Cx E p s m args meth c "BaselineTextModel" cc nL ret) (hM : Ct l E y_Mo_rowLine b_Mo_rowLine 5 none rm (.ref b :: As) H Qc) (hrecv : hOb (eD E) classes H b 10 fs) (hn : As.length = 2) (hsize : ls.size = nL) (hst : st0 = As.reverse ++ .ref b :: rest) (hW : (rest.map fun v => v.category).sum ≤ 8) (hdg : decode cc pc = .ok (.invokevirtual 223, 3)) (hR : rm.frames + 1 ≤ R.frames ∧ 8 + (5 + 11) + rm.locals ≤ R.locals) (hf : cells + rm.cells ≤ R.cells ∧ slots + rm.slots ≤ R.slots) : va_Run p l e R s m args below meth c H locs cells slots rm.cells rm.slots (F0 m pc ls st0) rest (Qc (Value.ref b :: As).toArray) (fun q => eB E ≤ q) := rn_V (y := y_Mo_rowLine) tw_1026 tw_1023 tw_1025 ps_Mo_rowLine tw_9 ⟨by decide, by decide, by rfl⟩ cx hM (hrecv.recv cx.K rfl) hn hsize hst hW hdg hR hf
theorem iv_Mo_226_Mo (cx : Cx E p s m args meth c "BaselineTextModel" cc nL ret) (hM : Ct l E y_Mo_lineOf b_Mo_lineOf 6 (some .boolean) rm (.ref b :: As) H Qc) (hrecv : hOb (eD E) classes H b 10 fs) (hn : As.length = 2) (hsize : ls.size = nL) (hst : st0 = As.reverse ++ .ref b :: rest) (hW : (rest.map fun v => v.category).sum ≤ 8) (hdg : decode cc pc = .ok (.invokevirtual 226, 3)) (hR : rm.frames + 1 ≤ R.frames ∧ 8 + (6 + 11) + rm.locals ≤ R.locals) (hf : cells + rm.cells ≤ R.cells ∧ slots + rm.slots ≤ R.slots) : va_Run p l e R s m args below meth c H locs cells slots rm.cells rm.slots (F0 m pc ls st0) rest (Qc (Value.ref b :: As).toArray) (fun q => eB E ≤ q) := rn_V (y := y_Mo_lineOf) tw_1002 tw_999 tw_1001 ps_Mo_lineOf tw_9 ⟨by decide, by decide, by rfl⟩ cx hM (hrecv.recv cx.K rfl) hn hsize hst hW hdg hR hf
theorem iv_Mo_230_Mo (cx : Cx E p s m args meth c "BaselineTextModel" cc nL ret) (hM : Ct l E y_Mo_memberAt b_Mo_memberAt 5 (some .int) rm (.ref b :: As) H Qc) (hrecv : hOb (eD E) classes H b 10 fs) (hn : As.length = 3) (hsize : ls.size = nL) (hst : st0 = As.reverse ++ .ref b :: rest) (hW : (rest.map fun v => v.category).sum ≤ 8) (hdg : decode cc pc = .ok (.invokevirtual 230, 3)) (hR : rm.frames + 1 ≤ R.frames ∧ 8 + (5 + 11) + rm.locals ≤ R.locals) (hf : cells + rm.cells ≤ R.cells ∧ slots + rm.slots ≤ R.slots) : va_Run p l e R s m args below meth c H locs cells slots rm.cells rm.slots (F0 m pc ls st0) rest (Qc (Value.ref b :: As).toArray) (fun q => eB E ≤ q) := rn_V (y := y_Mo_memberAt) tw_1060 tw_1057 tw_1059 ps_Mo_memberAt tw_9 ⟨by decide, by decide, by rfl⟩ cx hM (hrecv.recv cx.K rfl) hn hsize hst hW hdg hR hf
theorem iv_Mo_233_Mo (cx : Cx E p s m args meth c "BaselineTextModel" cc nL ret) (hM : Ct l E y_Mo_keep b_Mo_keep 5 (some .boolean) rm (.ref b :: As) H Qc) (hrecv : hOb (eD E) classes H b 10 fs) (hn : As.length = 2) (hsize : ls.size = nL) (hst : st0 = As.reverse ++ .ref b :: rest) (hW : (rest.map fun v => v.category).sum ≤ 8) (hdg : decode cc pc = .ok (.invokevirtual 233, 3)) (hR : rm.frames + 1 ≤ R.frames ∧ 8 + (5 + 11) + rm.locals ≤ R.locals) (hf : cells + rm.cells ≤ R.cells ∧ slots + rm.slots ≤ R.slots) : va_Run p l e R s m args below meth c H locs cells slots rm.cells rm.slots (F0 m pc ls st0) rest (Qc (Value.ref b :: As).toArray) (fun q => eB E ≤ q) := rn_V (y := y_Mo_keep) tw_1072 tw_1069 tw_1071 ps_Mo_keep tw_9 ⟨by decide, by decide, by rfl⟩ cx hM (hrecv.recv cx.K rfl) hn hsize hst hW hdg hR hf
theorem iv_Mo_236_Mo (cx : Cx E p s m args meth c "BaselineTextModel" cc nL ret) (hM : Ct l E y_Mo_dollar b_Mo_dollar 3 (some .boolean) rm (.ref b :: As) H Qc) (hrecv : hOb (eD E) classes H b 10 fs) (hn : As.length = 1) (hsize : ls.size = nL) (hst : st0 = As.reverse ++ .ref b :: rest) (hW : (rest.map fun v => v.category).sum ≤ 8) (hdg : decode cc pc = .ok (.invokevirtual 236, 3)) (hR : rm.frames + 1 ≤ R.frames ∧ 8 + (3 + 11) + rm.locals ≤ R.locals) (hf : cells + rm.cells ≤ R.cells ∧ slots + rm.slots ≤ R.slots) : va_Run p l e R s m args below meth c H locs cells slots rm.cells rm.slots (F0 m pc ls st0) rest (Qc (Value.ref b :: As).toArray) (fun q => eB E ≤ q) := rn_V (y := y_Mo_dollar) tw_1084 tw_1081 tw_1083 ps_Mo_dollar tw_9 ⟨by decide, by decide, by rfl⟩ cx hM (hrecv.recv cx.K rfl) hn hsize hst hW hdg hR hf
theorem iv_Mo_239_Mo (cx : Cx E p s m args meth c "BaselineTextModel" cc nL ret) (hM : Ct l E y_Mo_alike b_Mo_alike 3 (some .boolean) rm (.ref b :: As) H Qc) (hrecv : hOb (eD E) classes H b 10 fs) (hn : As.length = 2) (hsize : ls.size = nL) (hst : st0 = As.reverse ++ .ref b :: rest) (hW : (rest.map fun v => v.category).sum ≤ 8) (hdg : decode cc pc = .ok (.invokevirtual 239, 3)) (hR : rm.frames + 1 ≤ R.frames ∧ 8 + (3 + 11) + rm.locals ≤ R.locals) (hf : cells + rm.cells ≤ R.cells ∧ slots + rm.slots ≤ R.slots) : va_Run p l e R s m args below meth c H locs cells slots rm.cells rm.slots (F0 m pc ls st0) rest (Qc (Value.ref b :: As).toArray) (fun q => eB E ≤ q) := rn_V (y := y_Mo_alike) tw_1080 tw_1077 tw_1079 ps_Mo_alike tw_9 ⟨by decide, by decide, by rfl⟩ cx hM (hrecv.recv cx.K rfl) hn hsize hst hW hdg hR hf
theorem iv_Mo_242_Mo (cx : Cx E p s m args meth c "BaselineTextModel" cc nL ret) (hM : Ct l E y_Mo_lostOf b_Mo_lostOf 7 (some .int) rm (.ref b :: As) H Qc) (hrecv : hOb (eD E) classes H b 10 fs) (hn : As.length = 2) (hsize : ls.size = nL) (hst : st0 = As.reverse ++ .ref b :: rest) (hW : (rest.map fun v => v.category).sum ≤ 8) (hdg : decode cc pc = .ok (.invokevirtual 242, 3)) (hR : rm.frames + 1 ≤ R.frames ∧ 8 + (7 + 11) + rm.locals ≤ R.locals) (hf : cells + rm.cells ≤ R.cells ∧ slots + rm.slots ≤ R.slots) : va_Run p l e R s m args below meth c H locs cells slots rm.cells rm.slots (F0 m pc ls st0) rest (Qc (Value.ref b :: As).toArray) (fun q => eB E ≤ q) := rn_V (y := y_Mo_lostOf) tw_1088 tw_1085 tw_1087 ps_Mo_lostOf tw_9 ⟨by decide, by decide, by rfl⟩ cx hM (hrecv.recv cx.K rfl) hn hsize hst hW hdg hR hf
theorem iv_St_335_St (cx : Cx E p s m args meth c "java/lang/String" cc nL ret) (hM : Ct l E y_St_coder b_St_coder 1 (some .byte) rm (.ref b :: As) H Qc) (hrecv : ∃ cell : Cell, H[b]? = some cell ∧ cell.vm.isStatics = false ∧ s.vm.findClass "java/lang/String" = some cell.cls) (hn : As.length = 0) (hsize : ls.size = nL) (hst : st0 = As.reverse ++ .ref b :: rest) (hW : (rest.map fun v => v.category).sum ≤ 8) (hdg : decode cc pc = .ok (.invokevirtual 335, 3)) (hR : rm.frames + 1 ≤ R.frames ∧ 8 + (1 + 11) + rm.locals ≤ R.locals) (hf : cells + rm.cells ≤ R.cells ∧ slots + rm.slots ≤ R.slots) : va_Run p l e R s m args below meth c H locs cells slots rm.cells rm.slots (F0 m pc ls st0) rest (Qc (Value.ref b :: As).toArray) (fun q => eB E ≤ q) := rn_V (y := y_St_coder) tw_332 tw_329 tw_330 tw_331 tw_13 ⟨by decide, by decide, by rfl⟩ cx hM hrecv hn hsize hst hW hdg hR hf
theorem iv_St_492_St (cx : Cx E p s m args meth c "java/lang/String" cc nL ret) (hM : Ct l E y_St_isLatin1 b_St_isLatin1 1 (some .boolean) rm (.ref b :: As) H Qc) (hrecv : ∃ cell : Cell, H[b]? = some cell ∧ cell.vm.isStatics = false ∧ s.vm.findClass "java/lang/String" = some cell.cls) (hn : As.length = 0) (hsize : ls.size = nL) (hst : st0 = As.reverse ++ .ref b :: rest) (hW : (rest.map fun v => v.category).sum ≤ 8) (hdg : decode cc pc = .ok (.invokevirtual 492, 3)) (hR : rm.frames + 1 ≤ R.frames ∧ 8 + (1 + 11) + rm.locals ≤ R.locals) (hf : cells + rm.cells ≤ R.cells ∧ slots + rm.slots ≤ R.slots) : va_Run p l e R s m args below meth c H locs cells slots rm.cells rm.slots (F0 m pc ls st0) rest (Qc (Value.ref b :: As).toArray) (fun q => eB E ≤ q) := rn_V (y := y_St_isLatin1) tw_342 tw_339 tw_340 tw_341 tw_13 ⟨by decide, by decide, by rfl⟩ cx hM hrecv hn hsize hst hW hdg hR hf
theorem iv_St_495 (cx : Cx E p s m args meth c "java/lang/String" cc nL ret) (hM : Ct l E y_SL_charAt b_SL_charAt 2 (some .char) rm As H Qc) (hn : As.length = 2) (hsize : ls.size = nL) (hst : st0 = As.reverse ++ rest) (hW : (rest.map fun v => v.category).sum ≤ 8) (hdg : decode cc pc = .ok (.invokestatic 495, 3)) (hR : rm.frames + 1 ≤ R.frames ∧ 8 + (2 + 11) + rm.locals ≤ R.locals) (hf : cells + rm.cells ≤ R.cells ∧ slots + rm.slots ≤ R.slots) : va_Run p l e R s m args below meth c H locs cells slots rm.cells rm.slots (F0 m pc ls st0) rest (Qc (As).toArray) (fun q => eB E ≤ q) := rn_S (y := y_SL_charAt) tw_345 tw_343 tw_344 tw_14 ⟨by decide, by decide, by rfl⟩ cx hM hn hsize hst hW hdg hR hf
theorem iv_St_498 (cx : Cx E p s m args meth c "java/lang/String" cc nL ret) (hM : Ct l E y_SU_charAt b_SU_charAt 2 (some .char) rm As H Qc) (hn : As.length = 2) (hsize : ls.size = nL) (hst : st0 = As.reverse ++ rest) (hW : (rest.map fun v => v.category).sum ≤ 8) (hdg : decode cc pc = .ok (.invokestatic 498, 3)) (hR : rm.frames + 1 ≤ R.frames ∧ 8 + (2 + 11) + rm.locals ≤ R.locals) (hf : cells + rm.cells ≤ R.cells ∧ slots + rm.slots ≤ R.slots) : va_Run p l e R s m args below meth c H locs cells slots rm.cells rm.slots (F0 m pc ls st0) rest (Qc (As).toArray) (fun q => eB E ≤ q) := rn_S (y := y_SU_charAt) tw_356 tw_354 tw_355 tw_16 ⟨by decide, by decide, by rfl⟩ cx hM hn hsize hst hW hdg hR hf
theorem iv_St_1059 (cx : Cx E p s m args meth c "java/lang/String" cc nL ret) (hM : Ct l E y_Pre_checkIndex b_Pre_checkIndex 3 (some .int) rm As H Qc) (hn : As.length = 3) (hsize : ls.size = nL) (hst : st0 = As.reverse ++ rest) (hW : (rest.map fun v => v.category).sum ≤ 8) (hdg : decode cc pc = .ok (.invokestatic 1059, 3)) (hR : rm.frames + 1 ≤ R.frames ∧ 8 + (3 + 11) + rm.locals ≤ R.locals) (hf : cells + rm.cells ≤ R.cells ∧ slots + rm.slots ≤ R.slots) : va_Run p l e R s m args below meth c H locs cells slots rm.cells rm.slots (F0 m pc ls st0) rest (Qc (As).toArray) (fun q => eB E ≤ q) := rn_S (y := y_Pre_checkIndex) tw_353 tw_351 tw_352 tw_15 ⟨by decide, by decide, by rfl⟩ cx hM hn hsize hst hW hdg hR hf
theorem iv_SL_9 (cx : Cx E p s m args meth c "java/lang/StringLatin1" cc nL ret) (hM : Ct l E y_St_checkIndex b_St_checkIndex 2 none rm As H Qc) (hn : As.length = 2) (hsize : ls.size = nL) (hst : st0 = As.reverse ++ rest) (hW : (rest.map fun v => v.category).sum ≤ 8) (hdg : decode cc pc = .ok (.invokestatic 9, 3)) (hR : rm.frames + 1 ≤ R.frames ∧ 8 + (2 + 11) + rm.locals ≤ R.locals) (hf : cells + rm.cells ≤ R.cells ∧ slots + rm.slots ≤ R.slots) : va_Run p l e R s m args below meth c H locs cells slots rm.cells rm.slots (F0 m pc ls st0) rest (Qc (As).toArray) (fun q => eB E ≤ q) := rn_S (y := y_St_checkIndex) tw_348 tw_346 tw_347 tw_13 ⟨by decide, by decide, by rfl⟩ cx hM hn hsize hst hW hdg hR hf
theorem iv_SU_48 (cx : Cx E p s m args meth c "java/lang/StringUTF16" cc nL ret) (hM : Ct l E y_SU_length b_SU_length 1 (some .int) rm As H Qc) (hn : As.length = 1) (hsize : ls.size = nL) (hst : st0 = As.reverse ++ rest) (hW : (rest.map fun v => v.category).sum ≤ 8) (hdg : decode cc pc = .ok (.invokestatic 48, 3)) (hR : rm.frames + 1 ≤ R.frames ∧ 8 + (1 + 11) + rm.locals ≤ R.locals) (hf : cells + rm.cells ≤ R.cells ∧ slots + rm.slots ≤ R.slots) : va_Run p l e R s m args below meth c H locs cells slots rm.cells rm.slots (F0 m pc ls st0) rest (Qc (As).toArray) (fun q => eB E ≤ q) := rn_S (y := y_SU_length) tw_362 tw_360 tw_361 tw_16 ⟨by decide, by decide, by rfl⟩ cx hM hn hsize hst hW hdg hR hf
theorem iv_SU_67 (cx : Cx E p s m args meth c "java/lang/StringUTF16" cc nL ret) (hM : Ct l E y_SU_checkIndex b_SU_checkIndex 2 none rm As H Qc) (hn : As.length = 2) (hsize : ls.size = nL) (hst : st0 = As.reverse ++ rest) (hW : (rest.map fun v => v.category).sum ≤ 8) (hdg : decode cc pc = .ok (.invokestatic 67, 3)) (hR : rm.frames + 1 ≤ R.frames ∧ 8 + (2 + 11) + rm.locals ≤ R.locals) (hf : cells + rm.cells ≤ R.cells ∧ slots + rm.slots ≤ R.slots) : va_Run p l e R s m args below meth c H locs cells slots rm.cells rm.slots (F0 m pc ls st0) rest (Qc (As).toArray) (fun q => eB E ≤ q) := rn_S (y := y_SU_checkIndex) tw_359 tw_357 tw_358 tw_16 ⟨by decide, by decide, by rfl⟩ cx hM hn hsize hst hW hdg hR hf
theorem iv_SU_71 (cx : Cx E p s m args meth c "java/lang/StringUTF16" cc nL ret) (hM : Ct l E y_SU_getChar b_SU_getChar 2 (some .char) rm As H Qc) (hn : As.length = 2) (hsize : ls.size = nL) (hst : st0 = As.reverse ++ rest) (hW : (rest.map fun v => v.category).sum ≤ 8) (hdg : decode cc pc = .ok (.invokestatic 71, 3)) (hR : rm.frames + 1 ≤ R.frames ∧ 8 + (2 + 11) + rm.locals ≤ R.locals) (hf : cells + rm.cells ≤ R.cells ∧ slots + rm.slots ≤ R.slots) : va_Run p l e R s m args below meth c H locs cells slots rm.cells rm.slots (F0 m pc ls st0) rest (Qc (As).toArray) (fun q => eB E ≤ q) := rn_S (y := y_SU_getChar) tw_366 tw_364 tw_365 tw_16 ⟨by decide, by decide, by rfl⟩ cx hM hn hsize hst hW hdg hR hf
theorem iv_SU_414 (cx : Cx E p s m args meth c "java/lang/StringUTF16" cc nL ret) (hM : Ct l E y_St_checkIndex b_St_checkIndex 2 none rm As H Qc) (hn : As.length = 2) (hsize : ls.size = nL) (hst : st0 = As.reverse ++ rest) (hW : (rest.map fun v => v.category).sum ≤ 8) (hdg : decode cc pc = .ok (.invokestatic 414, 3)) (hR : rm.frames + 1 ≤ R.frames ∧ 8 + (2 + 11) + rm.locals ≤ R.locals) (hf : cells + rm.cells ≤ R.cells ∧ slots + rm.slots ≤ R.slots) : va_Run p l e R s m args below meth c H locs cells slots rm.cells rm.slots (F0 m pc ls st0) rest (Qc (As).toArray) (fun q => eB E ≤ q) := rn_S (y := y_St_checkIndex) tw_348 tw_363 tw_347 tw_13 ⟨by decide, by decide, by rfl⟩ cx hM hn hsize hst hW hdg hR hf
theorem iv_AbL_1 (cx : Cx E p s m args meth c "java/util/AbstractList" cc nL ret) (hM : Ct l E y_AbC_init b_AbC_init 1 none rm (.ref b :: As) H Qc) (hn : As.length = 0) (hsize : ls.size = nL) (hst : st0 = As.reverse ++ .ref b :: rest) (hW : (rest.map fun v => v.category).sum ≤ 8) (hdg : decode cc pc = .ok (.invokespecial 1, 3)) (hR : rm.frames + 1 ≤ R.frames ∧ 8 + (1 + 11) + rm.locals ≤ R.locals) (hf : cells + rm.cells ≤ R.cells ∧ slots + rm.slots ≤ R.slots) : va_Run p l e R s m args below meth c H locs cells slots rm.cells rm.slots (F0 m pc ls st0) rest (Qc (Value.ref b :: As).toArray) (fun q => eB E ≤ q) := rn_I (y := y_AbC_init) tw_95 tw_93 tw_94 tw_6 rfl ⟨by decide, by decide, by rfl⟩ cx hM hn hsize hst hW hdg hR hf
theorem iv_AL_1 (cx : Cx E p s m args meth c "java/util/ArrayList" cc nL ret) (hM : Ct l E y_AbL_init b_AbL_init 1 none rm (.ref b :: As) H Qc) (hn : As.length = 0) (hsize : ls.size = nL) (hst : st0 = As.reverse ++ .ref b :: rest) (hW : (rest.map fun v => v.category).sum ≤ 8) (hdg : decode cc pc = .ok (.invokespecial 1, 3)) (hR : rm.frames + 1 ≤ R.frames ∧ 8 + (1 + 11) + rm.locals ≤ R.locals) (hf : cells + rm.cells ≤ R.cells ∧ slots + rm.slots ≤ R.slots) : va_Run p l e R s m args below meth c H locs cells slots rm.cells rm.slots (F0 m pc ls st0) rest (Qc (Value.ref b :: As).toArray) (fun q => eB E ≤ q) := rn_I (y := y_AbL_init) tw_92 tw_90 tw_91 tw_7 rfl ⟨by decide, by decide, by rfl⟩ cx hM hn hsize hst hW hdg hR hf
theorem gf_AL_9_AL (cx : Cx E p s m args meth c "java/util/ArrayList" cc nL ret) (he : hOb (eD E) classes H a 4 fs) {v : Value} (hv : fs[0]? = some v) (hdg : decode cc pc = .ok (.getfield 9, 3)) (kk : W p l e R s m args below meth c H locs cells slots Q (F0 m (pc + 3) ls (v :: rest))) : W p l e R s m args below meth c H locs cells slots Q (F0 m pc ls (.ref a :: rest)) := hx_get cx.x cx.b cx.ts i_AL cx.o cx.K he rfl 0 (by decide) (cx.ts _ tw_99) (fun _ h => h) hv hdg kk
theorem pf_AL_9_AL (cx : Cx E p s m args meth c "java/util/ArrayList" cc nL ret) (he : hOb (eD E) classes H a 4 fs) (hlo : hLo (eB E) locs) (hB : eB E ≤ a) {x : Option Nat} (hl : 0 < fs.length) (hdg : decode cc pc = .ok (.putfield 9, 3)) (kk : ∀ (H1 : Heap) (locs1 : List Loc), hOb (eD E) classes H1 a 4 (fs.set 0 (va_rf x)) → H1.size = H.size → (∀ q : Nat, q ≠ a → H1[q]? = H[q]?) → hLo (eB E) locs1 → W p l e R s m args below meth c H1 locs1 cells slots Q (F0 m (pc + 3) ls (rest))) : W p l e R s m args below meth c H locs cells slots Q (F0 m pc ls (va_rf x :: .ref a :: rest)) := hx_put cx.x cx.b cx.ts i_AL t_AL t_AL_ok n_AL cx.o cx.K he hlo hB rfl 0 (by decide) (cx.ts _ tw_99) (fun _ h => h) rfl (t_AL_ok 0 (by decide)) (by cases x <;> rfl) (by cases x <;> rfl) hl hdg kk
theorem gf_AL_48_AL (cx : Cx E p s m args meth c "java/util/ArrayList" cc nL ret) (he : hOb (eD E) classes H a 4 fs) {v : Value} (hv : fs[1]? = some v) (hdg : decode cc pc = .ok (.getfield 48, 3)) (kk : W p l e R s m args below meth c H locs cells slots Q (F0 m (pc + 3) ls (v :: rest))) : W p l e R s m args below meth c H locs cells slots Q (F0 m pc ls (.ref a :: rest)) := hx_get cx.x cx.b cx.ts i_AL cx.o cx.K he rfl 1 (by decide) (cx.ts _ tw_100) (fun _ h => h) hv hdg kk
theorem pf_AL_48_AL (cx : Cx E p s m args meth c "java/util/ArrayList" cc nL ret) (he : hOb (eD E) classes H a 4 fs) (hlo : hLo (eB E) locs) (hB : eB E ≤ a) {x : Int32} (hl : 1 < fs.length) (hdg : decode cc pc = .ok (.putfield 48, 3)) (kk : ∀ (H1 : Heap) (locs1 : List Loc), hOb (eD E) classes H1 a 4 (fs.set 1 (.int x)) → H1.size = H.size → (∀ q : Nat, q ≠ a → H1[q]? = H[q]?) → hLo (eB E) locs1 → W p l e R s m args below meth c H1 locs1 cells slots Q (F0 m (pc + 3) ls (rest))) : W p l e R s m args below meth c H locs cells slots Q (F0 m pc ls (.int x :: .ref a :: rest)) := hx_put cx.x cx.b cx.ts i_AL t_AL t_AL_ok n_AL cx.o cx.K he hlo hB rfl 1 (by decide) (cx.ts _ tw_100) (fun _ h => h) rfl (t_AL_ok 1 (by decide)) rfl rfl hl hdg kk
theorem gf_AL_63_AL (cx : Cx E p s m args meth c "java/util/ArrayList" cc nL ret) (he : hOb (eD E) classes H a 4 fs) {v : Value} (hv : fs[2]? = some v) (hdg : decode cc pc = .ok (.getfield 63, 3)) (kk : W p l e R s m args below meth c H locs cells slots Q (F0 m (pc + 3) ls (v :: rest))) : W p l e R s m args below meth c H locs cells slots Q (F0 m pc ls (.ref a :: rest)) := hx_get cx.x cx.b cx.ts i_AL cx.o cx.K he rfl 2 (by decide) (cx.ts _ tw_102) (fun x9 h9 => u_same (cx.ts _ tw_103) x9 h9) hv hdg kk
theorem pf_AL_63_AL (cx : Cx E p s m args meth c "java/util/ArrayList" cc nL ret) (he : hOb (eD E) classes H a 4 fs) (hlo : hLo (eB E) locs) (hB : eB E ≤ a) {x : Int32} (hl : 2 < fs.length) (hdg : decode cc pc = .ok (.putfield 63, 3)) (kk : ∀ (H1 : Heap) (locs1 : List Loc), hOb (eD E) classes H1 a 4 (fs.set 2 (.int x)) → H1.size = H.size → (∀ q : Nat, q ≠ a → H1[q]? = H[q]?) → hLo (eB E) locs1 → W p l e R s m args below meth c H1 locs1 cells slots Q (F0 m (pc + 3) ls (rest))) : W p l e R s m args below meth c H locs cells slots Q (F0 m pc ls (.int x :: .ref a :: rest)) := hx_put cx.x cx.b cx.ts i_AL t_AL t_AL_ok n_AL cx.o cx.K he hlo hB rfl 2 (by decide) (cx.ts _ tw_102) (fun x9 h9 => u_same (cx.ts _ tw_103) x9 h9) rfl (t_AL_ok 2 (by decide)) rfl rfl hl hdg kk
theorem iv_AL_66 (cx : Cx E p s m args meth c "java/util/ArrayList" cc nL ret) (hM : Ct l E y_Ars_copyOf b_Ars_copyOf 2 (some (.array (.object "java/lang/Object"))) rm As H Qc) (hn : As.length = 2) (hsize : ls.size = nL) (hst : st0 = As.reverse ++ rest) (hW : (rest.map fun v => v.category).sum ≤ 8) (hdg : decode cc pc = .ok (.invokestatic 66, 3)) (hR : rm.frames + 1 ≤ R.frames ∧ 8 + (2 + 11) + rm.locals ≤ R.locals) (hf : cells + rm.cells ≤ R.cells ∧ slots + rm.slots ≤ R.slots) : va_Run p l e R s m args below meth c H locs cells slots rm.cells rm.slots (F0 m pc ls st0) rest (Qc (As).toArray) (fun q => eB E ≤ q) := rn_S (y := y_Ars_copyOf) tw_589 tw_587 tw_588 tw_23 ⟨by decide, by decide, by rfl⟩ cx hM hn hsize hst hW hdg hR hf
theorem iv_AL_69_AL (cx : Cx E p s m args meth c "java/util/ArrayList" cc nL ret) (hM : Ct l E y_AL_grow2 b_AL_grow2 4 (some (.array (.object "java/lang/Object"))) rm (.ref b :: As) H Qc) (hrecv : hOb (eD E) classes H b 4 fs) (hn : As.length = 1) (hsize : ls.size = nL) (hst : st0 = As.reverse ++ .ref b :: rest) (hW : (rest.map fun v => v.category).sum ≤ 8) (hdg : decode cc pc = .ok (.invokevirtual 69, 3)) (hR : rm.frames + 1 ≤ R.frames ∧ 8 + (4 + 11) + rm.locals ≤ R.locals) (hf : cells + rm.cells ≤ R.cells ∧ slots + rm.slots ≤ R.slots) : va_Run p l e R s m args below meth c H locs cells slots rm.cells rm.slots (F0 m pc ls st0) rest (Qc (Value.ref b :: As).toArray) (fun q => eB E ≤ q) := rn_V (y := y_AL_grow2) tw_576 tw_573 tw_575 ps_AL_grow2 tw_8 ⟨by decide, by decide, by rfl⟩ cx hM (hrecv.recv cx.K rfl) hn hsize hst hW hdg hR hf
theorem iv_AL_73 (cx : Cx E p s m args meth c "java/util/ArrayList" cc nL ret) (hM : Ct l E y_ASu_newLength b_ASu_newLength 4 (some .int) rm As H Qc) (hn : As.length = 3) (hsize : ls.size = nL) (hst : st0 = As.reverse ++ rest) (hW : (rest.map fun v => v.category).sum ≤ 8) (hdg : decode cc pc = .ok (.invokestatic 73, 3)) (hR : rm.frames + 1 ≤ R.frames ∧ 8 + (4 + 11) + rm.locals ≤ R.locals) (hf : cells + rm.cells ≤ R.cells ∧ slots + rm.slots ≤ R.slots) : va_Run p l e R s m args below meth c H locs cells slots rm.cells rm.slots (F0 m pc ls st0) rest (Qc (As).toArray) (fun q => eB E ≤ q) := rn_S (y := y_ASu_newLength) tw_579 tw_577 tw_578 tw_21 ⟨by decide, by decide, by rfl⟩ cx hM hn hsize hst hW hdg hR hf
theorem iv_AL_79 (cx : Cx E p s m args meth c "java/util/ArrayList" cc nL ret) (hM : Ct l E y_Ma_max b_Ma_max 2 (some .int) rm As H Qc) (hn : As.length = 2) (hsize : ls.size = nL) (hst : st0 = As.reverse ++ rest) (hW : (rest.map fun v => v.category).sum ≤ 8) (hdg : decode cc pc = .ok (.invokestatic 79, 3)) (hR : rm.frames + 1 ≤ R.frames ∧ 8 + (2 + 11) + rm.locals ≤ R.locals) (hf : cells + rm.cells ≤ R.cells ∧ slots + rm.slots ≤ R.slots) : va_Run p l e R s m args below meth c H locs cells slots rm.cells rm.slots (F0 m pc ls st0) rest (Qc (As).toArray) (fun q => eB E ≤ q) := rn_S (y := y_Ma_max) tw_582 tw_615 tw_581 tw_22 ⟨by decide, by decide, by rfl⟩ cx hM hn hsize hst hW hdg hR hf
theorem iv_AL_118 (cx : Cx E p s m args meth c "java/util/ArrayList" cc nL ret) (hM : Ct l E y_Obs_checkIndex b_Obs_checkIndex 2 (some .int) rm As H Qc) (hn : As.length = 2) (hsize : ls.size = nL) (hst : st0 = As.reverse ++ rest) (hW : (rest.map fun v => v.category).sum ≤ 8) (hdg : decode cc pc = .ok (.invokestatic 118, 3)) (hR : rm.frames + 1 ≤ R.frames ∧ 8 + (2 + 11) + rm.locals ≤ R.locals) (hf : cells + rm.cells ≤ R.cells ∧ slots + rm.slots ≤ R.slots) : va_Run p l e R s m args below meth c H locs cells slots rm.cells rm.slots (F0 m pc ls st0) rest (Qc (As).toArray) (fun q => eB E ≤ q) := rn_S (y := y_Obs_checkIndex) tw_503 tw_501 tw_502 tw_19 ⟨by decide, by decide, by rfl⟩ cx hM hn hsize hst hW hdg hR hf
theorem iv_AL_123_AL (cx : Cx E p s m args meth c "java/util/ArrayList" cc nL ret) (hM : Ct l E y_AL_elementData b_AL_elementData 2 (some (.object "java/lang/Object")) rm (.ref b :: As) H Qc) (hrecv : hOb (eD E) classes H b 4 fs) (hn : As.length = 1) (hsize : ls.size = nL) (hst : st0 = As.reverse ++ .ref b :: rest) (hW : (rest.map fun v => v.category).sum ≤ 8) (hdg : decode cc pc = .ok (.invokevirtual 123, 3)) (hR : rm.frames + 1 ≤ R.frames ∧ 8 + (2 + 11) + rm.locals ≤ R.locals) (hf : cells + rm.cells ≤ R.cells ∧ slots + rm.slots ≤ R.slots) : va_Run p l e R s m args below meth c H locs cells slots rm.cells rm.slots (F0 m pc ls st0) rest (Qc (Value.ref b :: As).toArray) (fun q => eB E ≤ q) := rn_V (y := y_AL_elementData) tw_508 tw_505 tw_506 tw_507 tw_8 ⟨by decide, by decide, by rfl⟩ cx hM (hrecv.recv cx.K rfl) hn hsize hst hW hdg hR hf
theorem iv_AL_129_AL (cx : Cx E p s m args meth c "java/util/ArrayList" cc nL ret) (hM : Ct l E y_AL_grow b_AL_grow 1 (some (.array (.object "java/lang/Object"))) rm (.ref b :: As) H Qc) (hrecv : hOb (eD E) classes H b 4 fs) (hn : As.length = 0) (hsize : ls.size = nL) (hst : st0 = As.reverse ++ .ref b :: rest) (hW : (rest.map fun v => v.category).sum ≤ 8) (hdg : decode cc pc = .ok (.invokevirtual 129, 3)) (hR : rm.frames + 1 ≤ R.frames ∧ 8 + (1 + 11) + rm.locals ≤ R.locals) (hf : cells + rm.cells ≤ R.cells ∧ slots + rm.slots ≤ R.slots) : va_Run p l e R s m args below meth c H locs cells slots rm.cells rm.slots (F0 m pc ls st0) rest (Qc (Value.ref b :: As).toArray) (fun q => eB E ≤ q) := rn_V (y := y_AL_grow) tw_572 tw_569 tw_571 ps_AL_grow tw_8 ⟨by decide, by decide, by rfl⟩ cx hM (hrecv.recv cx.K rfl) hn hsize hst hW hdg hR hf
theorem iv_AL_135_AL (cx : Cx E p s m args meth c "java/util/ArrayList" cc nL ret) (hM : Ct l E y_AL_rangeCheckForAdd b_AL_rangeCheckForAdd 2 none rm (.ref b :: As) H Qc) (hrecv : hOb (eD E) classes H b 4 fs) (hn : As.length = 1) (hsize : ls.size = nL) (hst : st0 = As.reverse ++ .ref b :: rest) (hW : (rest.map fun v => v.category).sum ≤ 8) (hdg : decode cc pc = .ok (.invokevirtual 135, 3)) (hR : rm.frames + 1 ≤ R.frames ∧ 8 + (2 + 11) + rm.locals ≤ R.locals) (hf : cells + rm.cells ≤ R.cells ∧ slots + rm.slots ≤ R.slots) : va_Run p l e R s m args below meth c H locs cells slots rm.cells rm.slots (F0 m pc ls st0) rest (Qc (Value.ref b :: As).toArray) (fun q => eB E ≤ q) := rn_V (y := y_AL_rangeCheckForAdd) tw_568 tw_565 tw_567 ps_AL_rangeCheckForAdd tw_8 ⟨by decide, by decide, by rfl⟩ cx hM (hrecv.recv cx.K rfl) hn hsize hst hW hdg hR hf
theorem iv_AL_144_AL (cx : Cx E p s m args meth c "java/util/ArrayList" cc nL ret) (hM : Ct l E y_AL_fastRemove b_AL_fastRemove 4 none rm (.ref b :: As) H Qc) (hrecv : hOb (eD E) classes H b 4 fs) (hn : As.length = 2) (hsize : ls.size = nL) (hst : st0 = As.reverse ++ .ref b :: rest) (hW : (rest.map fun v => v.category).sum ≤ 8) (hdg : decode cc pc = .ok (.invokevirtual 144, 3)) (hR : rm.frames + 1 ≤ R.frames ∧ 8 + (4 + 11) + rm.locals ≤ R.locals) (hf : cells + rm.cells ≤ R.cells ∧ slots + rm.slots ≤ R.slots) : va_Run p l e R s m args below meth c H locs cells slots rm.cells rm.slots (F0 m pc ls st0) rest (Qc (Value.ref b :: As).toArray) (fun q => eB E ≤ q) := rn_V (y := y_AL_fastRemove) tw_539 tw_536 tw_538 ps_AL_fastRemove tw_8 ⟨by decide, by decide, by rfl⟩ cx hM (hrecv.recv cx.K rfl) hn hsize hst hW hdg hR hf
theorem iv_Ars_300 (cx : Cx E p s m args meth c "java/util/Arrays" cc nL ret) (hM : Ct l E y_Ars_copyOf2 b_Ars_copyOf2 4 (some (.array (.object "java/lang/Object"))) rm As H Qc) (hn : As.length = 3) (hsize : ls.size = nL) (hst : st0 = As.reverse ++ rest) (hW : (rest.map fun v => v.category).sum ≤ 8) (hdg : decode cc pc = .ok (.invokestatic 300, 3)) (hR : rm.frames + 1 ≤ R.frames ∧ 8 + (4 + 11) + rm.locals ≤ R.locals) (hf : cells + rm.cells ≤ R.cells ∧ slots + rm.slots ≤ R.slots) : va_Run p l e R s m args below meth c H locs cells slots rm.cells rm.slots (F0 m pc ls st0) rest (Qc (As).toArray) (fun q => eB E ≤ q) := rn_S (y := y_Ars_copyOf2) tw_607 tw_605 tw_606 tw_23 ⟨by decide, by decide, by rfl⟩ cx hM hn hsize hst hW hdg hR hf
theorem iv_Ars_304 (cx : Cx E p s m args meth c "java/util/Arrays" cc nL ret) (hM : Ct l E y_Ma_min b_Ma_min 2 (some .int) rm As H Qc) (hn : As.length = 2) (hsize : ls.size = nL) (hst : st0 = As.reverse ++ rest) (hW : (rest.map fun v => v.category).sum ≤ 8) (hdg : decode cc pc = .ok (.invokestatic 304, 3)) (hR : rm.frames + 1 ≤ R.frames ∧ 8 + (2 + 11) + rm.locals ≤ R.locals) (hf : cells + rm.cells ≤ R.cells ∧ slots + rm.slots ≤ R.slots) : va_Run p l e R s m args below meth c H locs cells slots rm.cells rm.slots (F0 m pc ls st0) rest (Qc (As).toArray) (fun q => eB E ≤ q) := rn_S (y := y_Ma_min) tw_613 tw_611 tw_612 tw_22 ⟨by decide, by decide, by rfl⟩ cx hM hn hsize hst hW hdg hR hf
theorem iv_Obs_105 (cx : Cx E p s m args meth c "java/util/Objects" cc nL ret) (hM : Ct l E y_Pre_checkIndex b_Pre_checkIndex 3 (some .int) rm As H Qc) (hn : As.length = 3) (hsize : ls.size = nL) (hst : st0 = As.reverse ++ rest) (hW : (rest.map fun v => v.category).sum ≤ 8) (hdg : decode cc pc = .ok (.invokestatic 105, 3)) (hR : rm.frames + 1 ≤ R.frames ∧ 8 + (3 + 11) + rm.locals ≤ R.locals) (hf : cells + rm.cells ≤ R.cells ∧ slots + rm.slots ≤ R.slots) : va_Run p l e R s m args below meth c H locs cells slots rm.cells rm.slots (F0 m pc ls st0) rest (Qc (As).toArray) (fun q => eB E ≤ q) := rn_S (y := y_Pre_checkIndex) tw_353 tw_504 tw_352 tw_15 ⟨by decide, by decide, by rfl⟩ cx hM hn hsize hst hW hdg hR hf
theorem iv_ASu_194 (cx : Cx E p s m args meth c "jdk/internal/util/ArraysSupport" cc nL ret) (hM : Ct l E y_Ma_max b_Ma_max 2 (some .int) rm As H Qc) (hn : As.length = 2) (hsize : ls.size = nL) (hst : st0 = As.reverse ++ rest) (hW : (rest.map fun v => v.category).sum ≤ 8) (hdg : decode cc pc = .ok (.invokestatic 194, 3)) (hR : rm.frames + 1 ≤ R.frames ∧ 8 + (2 + 11) + rm.locals ≤ R.locals) (hf : cells + rm.cells ≤ R.cells ∧ slots + rm.slots ≤ R.slots) : va_Run p l e R s m args below meth c H locs cells slots rm.cells rm.slots (F0 m pc ls st0) rest (Qc (As).toArray) (fun q => eB E ≤ q) := rn_S (y := y_Ma_max) tw_582 tw_580 tw_581 tw_22 ⟨by decide, by decide, by rfl⟩ cx hM hn hsize hst hW hdg hR hf
theorem iv_ASu_201 (cx : Cx E p s m args meth c "jdk/internal/util/ArraysSupport" cc nL ret) (hM : Ct l E y_ASu_hugeLength b_ASu_hugeLength 3 (some .int) rm As H Qc) (hn : As.length = 2) (hsize : ls.size = nL) (hst : st0 = As.reverse ++ rest) (hW : (rest.map fun v => v.category).sum ≤ 8) (hdg : decode cc pc = .ok (.invokestatic 201, 3)) (hR : rm.frames + 1 ≤ R.frames ∧ 8 + (3 + 11) + rm.locals ≤ R.locals) (hf : cells + rm.cells ≤ R.cells ∧ slots + rm.slots ≤ R.slots) : va_Run p l e R s m args below meth c H locs cells slots rm.cells rm.slots (F0 m pc ls st0) rest (Qc (As).toArray) (fun q => eB E ≤ q) := rn_S (y := y_ASu_hugeLength) tw_586 tw_584 tw_585 tw_21 ⟨by decide, by decide, by rfl⟩ cx hM hn hsize hst hW hdg hR hf
end SITES
end
section
theorem d_Rw_init_0 : decode b_Rw_init 0 = .ok (.aload_n 0, 1) := by decide +kernel
theorem d_Rw_init_1 : decode b_Rw_init 1 = .ok (.invokespecial 3, 3) := by decide +kernel
theorem d_Rw_init_4 : decode b_Rw_init 4 = .ok (.aload_n 0, 1) := by decide +kernel
theorem d_Rw_init_5 : decode b_Rw_init 5 = .ok (.iload_n 1, 1) := by decide +kernel
theorem d_Rw_init_6 : decode b_Rw_init 6 = .ok (.newarray .char, 2) := by decide +kernel
theorem d_Rw_init_8 : decode b_Rw_init 8 = .ok (.putfield 9, 3) := by decide +kernel
theorem d_Rw_init_11 : decode b_Rw_init 11 = .ok (.return_, 1) := by decide +kernel
theorem d_Dg_init_0 : decode b_Dg_init 0 = .ok (.aload_n 0, 1) := by decide +kernel
theorem d_Dg_init_1 : decode b_Dg_init 1 = .ok (.invokespecial 3, 3) := by decide +kernel
theorem d_Dg_init_4 : decode b_Dg_init 4 = .ok (.aload_n 0, 1) := by decide +kernel
theorem d_Dg_init_5 : decode b_Dg_init 5 = .ok (.bipush 20, 2) := by decide +kernel
theorem d_Dg_init_7 : decode b_Dg_init 7 = .ok (.newarray .int, 2) := by decide +kernel
theorem d_Dg_init_9 : decode b_Dg_init 9 = .ok (.putfield 9, 3) := by decide +kernel
theorem d_Dg_init_12 : decode b_Dg_init 12 = .ok (.aload_n 0, 1) := by decide +kernel
theorem d_Dg_init_13 : decode b_Dg_init 13 = .ok (.bipush 20, 2) := by decide +kernel
theorem d_Dg_init_15 : decode b_Dg_init 15 = .ok (.newarray .int, 2) := by decide +kernel
theorem d_Dg_init_17 : decode b_Dg_init 17 = .ok (.putfield 15, 3) := by decide +kernel
theorem d_Dg_init_20 : decode b_Dg_init 20 = .ok (.aload_n 0, 1) := by decide +kernel
theorem d_Dg_init_21 : decode b_Dg_init 21 = .ok (.bipush 20, 2) := by decide +kernel
theorem d_Dg_init_23 : decode b_Dg_init 23 = .ok (.newarray .int, 2) := by decide +kernel
theorem d_Dg_init_25 : decode b_Dg_init 25 = .ok (.putfield 18, 3) := by decide +kernel
theorem d_Dg_init_28 : decode b_Dg_init 28 = .ok (.return_, 1) := by decide +kernel
theorem d_Rw_length_0 : decode b_Rw_length 0 = .ok (.aload_n 0, 1) := by decide +kernel
theorem d_Rw_length_1 : decode b_Rw_length 1 = .ok (.getfield 15, 3) := by decide +kernel
theorem d_Rw_length_4 : decode b_Rw_length 4 = .ok (.ireturn, 1) := by decide +kernel
theorem d_Rw_add_0 : decode b_Rw_add 0 = .ok (.aload_n 0, 1) := by decide +kernel
theorem d_Rw_add_1 : decode b_Rw_add 1 = .ok (.getfield 15, 3) := by decide +kernel
theorem d_Rw_add_4 : decode b_Rw_add 4 = .ok (.aload_n 0, 1) := by decide +kernel
theorem d_Rw_add_5 : decode b_Rw_add 5 = .ok (.getfield 9, 3) := by decide +kernel
theorem d_Rw_add_8 : decode b_Rw_add 8 = .ok (.arraylength, 1) := by decide +kernel
theorem d_Rw_add_9 : decode b_Rw_add 9 = .ok (.if_icmp .ge 27, 3) := by decide +kernel
theorem d_Rw_add_12 : decode b_Rw_add 12 = .ok (.aload_n 0, 1) := by decide +kernel
theorem d_Rw_add_13 : decode b_Rw_add 13 = .ok (.getfield 9, 3) := by decide +kernel
theorem d_Rw_add_16 : decode b_Rw_add 16 = .ok (.aload_n 0, 1) := by decide +kernel
theorem d_Rw_add_17 : decode b_Rw_add 17 = .ok (.getfield 15, 3) := by decide +kernel
theorem d_Rw_add_20 : decode b_Rw_add 20 = .ok (.iload_n 1, 1) := by decide +kernel
theorem d_Rw_add_21 : decode b_Rw_add 21 = .ok (.i2c, 1) := by decide +kernel
theorem d_Rw_add_22 : decode b_Rw_add 22 = .ok (.castore, 1) := by decide +kernel
theorem d_Rw_add_23 : decode b_Rw_add 23 = .ok (.aload_n 0, 1) := by decide +kernel
theorem d_Rw_add_24 : decode b_Rw_add 24 = .ok (.dup, 1) := by decide +kernel
theorem d_Rw_add_25 : decode b_Rw_add 25 = .ok (.getfield 15, 3) := by decide +kernel
theorem d_Rw_add_28 : decode b_Rw_add 28 = .ok (.iconst 1, 1) := by decide +kernel
theorem d_Rw_add_29 : decode b_Rw_add 29 = .ok (.iadd, 1) := by decide +kernel
theorem d_Rw_add_30 : decode b_Rw_add 30 = .ok (.putfield 15, 3) := by decide +kernel
theorem d_Rw_add_33 : decode b_Rw_add 33 = .ok (.goto 8, 3) := by decide +kernel
theorem d_Rw_add_36 : decode b_Rw_add 36 = .ok (.aload_n 0, 1) := by decide +kernel
theorem d_Rw_add_37 : decode b_Rw_add 37 = .ok (.iconst 1, 1) := by decide +kernel
theorem d_Rw_add_38 : decode b_Rw_add 38 = .ok (.putfield 19, 3) := by decide +kernel
theorem d_Rw_add_41 : decode b_Rw_add 41 = .ok (.return_, 1) := by decide +kernel
theorem d_Rw_empty_0 : decode b_Rw_empty 0 = .ok (.aload_n 0, 1) := by decide +kernel
theorem d_Rw_empty_1 : decode b_Rw_empty 1 = .ok (.iconst 0, 1) := by decide +kernel
theorem d_Rw_empty_2 : decode b_Rw_empty 2 = .ok (.putfield 15, 3) := by decide +kernel
theorem d_Rw_empty_5 : decode b_Rw_empty 5 = .ok (.aload_n 0, 1) := by decide +kernel
theorem d_Rw_empty_6 : decode b_Rw_empty 6 = .ok (.iconst 0, 1) := by decide +kernel
theorem d_Rw_empty_7 : decode b_Rw_empty 7 = .ok (.putfield 19, 3) := by decide +kernel
theorem d_Rw_empty_10 : decode b_Rw_empty 10 = .ok (.return_, 1) := by decide +kernel
theorem d_Dg_empty_0 : decode b_Dg_empty 0 = .ok (.aload_n 0, 1) := by decide +kernel
theorem d_Dg_empty_1 : decode b_Dg_empty 1 = .ok (.iconst 0, 1) := by decide +kernel
theorem d_Dg_empty_2 : decode b_Dg_empty 2 = .ok (.putfield 21, 3) := by decide +kernel
theorem d_Dg_empty_5 : decode b_Dg_empty 5 = .ok (.return_, 1) := by decide +kernel
theorem d_Dc_init_0 : decode b_Dc_init 0 = .ok (.aload_n 0, 1) := by decide +kernel
theorem d_Dc_init_1 : decode b_Dc_init 1 = .ok (.invokespecial 3, 3) := by decide +kernel
theorem d_Dc_init_4 : decode b_Dc_init 4 = .ok (.aload_n 0, 1) := by decide +kernel
theorem d_Dc_init_5 : decode b_Dc_init 5 = .ok (.new 9, 3) := by decide +kernel
theorem d_Dc_init_8 : decode b_Dc_init 8 = .ok (.dup, 1) := by decide +kernel
theorem d_Dc_init_9 : decode b_Dc_init 9 = .ok (.bipush 20, 2) := by decide +kernel
theorem d_Dc_init_11 : decode b_Dc_init 11 = .ok (.invokespecial 11, 3) := by decide +kernel
theorem d_Dc_init_14 : decode b_Dc_init 14 = .ok (.putfield 14, 3) := by decide +kernel
theorem d_Dc_init_17 : decode b_Dc_init 17 = .ok (.aload_n 0, 1) := by decide +kernel
theorem d_Dc_init_18 : decode b_Dc_init 18 = .ok (.new 9, 3) := by decide +kernel
theorem d_Dc_init_21 : decode b_Dc_init 21 = .ok (.dup, 1) := by decide +kernel
theorem d_Dc_init_22 : decode b_Dc_init 22 = .ok (.bipush 20, 2) := by decide +kernel
theorem d_Dc_init_24 : decode b_Dc_init 24 = .ok (.invokespecial 11, 3) := by decide +kernel
theorem d_Dc_init_27 : decode b_Dc_init 27 = .ok (.putfield 20, 3) := by decide +kernel
theorem d_Dc_init_30 : decode b_Dc_init 30 = .ok (.return_, 1) := by decide +kernel
theorem d_Rw_at_0 : decode b_Rw_at 0 = .ok (.iload_n 1, 1) := by decide +kernel
theorem d_Rw_at_1 : decode b_Rw_at 1 = .ok (.ifCond .lt 20, 3) := by decide +kernel
theorem d_Rw_at_4 : decode b_Rw_at 4 = .ok (.iload_n 1, 1) := by decide +kernel
theorem d_Rw_at_5 : decode b_Rw_at 5 = .ok (.aload_n 0, 1) := by decide +kernel
theorem d_Rw_at_6 : decode b_Rw_at 6 = .ok (.getfield 15, 3) := by decide +kernel
theorem d_Rw_at_9 : decode b_Rw_at 9 = .ok (.if_icmp .ge 12, 3) := by decide +kernel
theorem d_Rw_at_12 : decode b_Rw_at 12 = .ok (.aload_n 0, 1) := by decide +kernel
theorem d_Rw_at_13 : decode b_Rw_at 13 = .ok (.getfield 9, 3) := by decide +kernel
theorem d_Rw_at_16 : decode b_Rw_at 16 = .ok (.iload_n 1, 1) := by decide +kernel
theorem d_Rw_at_17 : decode b_Rw_at 17 = .ok (.caload, 1) := by decide +kernel
theorem d_Rw_at_18 : decode b_Rw_at 18 = .ok (.goto 4, 3) := by decide +kernel
theorem d_Rw_at_21 : decode b_Rw_at 21 = .ok (.iconst (-1), 1) := by decide +kernel
theorem d_Rw_at_22 : decode b_Rw_at 22 = .ok (.ireturn, 1) := by decide +kernel
theorem d_Dg_add_0 : decode b_Dg_add 0 = .ok (.aload_n 0, 1) := by decide +kernel
theorem d_Dg_add_1 : decode b_Dg_add 1 = .ok (.getfield 21, 3) := by decide +kernel
theorem d_Dg_add_4 : decode b_Dg_add 4 = .ok (.bipush 20, 2) := by decide +kernel
theorem d_Dg_add_6 : decode b_Dg_add 6 = .ok (.if_icmp .ge 33, 3) := by decide +kernel
theorem d_Dg_add_9 : decode b_Dg_add 9 = .ok (.aload_n 0, 1) := by decide +kernel
theorem d_Dg_add_10 : decode b_Dg_add 10 = .ok (.getfield 9, 3) := by decide +kernel
theorem d_Dg_add_13 : decode b_Dg_add 13 = .ok (.aload_n 0, 1) := by decide +kernel
theorem d_Dg_add_14 : decode b_Dg_add 14 = .ok (.getfield 21, 3) := by decide +kernel
theorem d_Dg_add_17 : decode b_Dg_add 17 = .ok (.iload_n 1, 1) := by decide +kernel
theorem d_Dg_add_18 : decode b_Dg_add 18 = .ok (.iastore, 1) := by decide +kernel
theorem d_Dg_add_19 : decode b_Dg_add 19 = .ok (.aload_n 0, 1) := by decide +kernel
theorem d_Dg_add_20 : decode b_Dg_add 20 = .ok (.getfield 15, 3) := by decide +kernel
theorem d_Dg_add_23 : decode b_Dg_add 23 = .ok (.aload_n 0, 1) := by decide +kernel
theorem d_Dg_add_24 : decode b_Dg_add 24 = .ok (.getfield 21, 3) := by decide +kernel
theorem d_Dg_add_27 : decode b_Dg_add 27 = .ok (.iload_n 2, 1) := by decide +kernel
theorem d_Dg_add_28 : decode b_Dg_add 28 = .ok (.iastore, 1) := by decide +kernel
theorem d_Dg_add_29 : decode b_Dg_add 29 = .ok (.aload_n 0, 1) := by decide +kernel
theorem d_Dg_add_30 : decode b_Dg_add 30 = .ok (.getfield 18, 3) := by decide +kernel
theorem d_Dg_add_33 : decode b_Dg_add 33 = .ok (.aload_n 0, 1) := by decide +kernel
theorem d_Dg_add_34 : decode b_Dg_add 34 = .ok (.getfield 21, 3) := by decide +kernel
theorem d_Dg_add_37 : decode b_Dg_add 37 = .ok (.iload_n 3, 1) := by decide +kernel
theorem d_Dg_add_38 : decode b_Dg_add 38 = .ok (.iastore, 1) := by decide +kernel
theorem d_Dg_add_39 : decode b_Dg_add 39 = .ok (.aload_n 0, 1) := by decide +kernel
theorem d_Dg_add_40 : decode b_Dg_add 40 = .ok (.dup, 1) := by decide +kernel
theorem d_Dg_add_41 : decode b_Dg_add 41 = .ok (.getfield 21, 3) := by decide +kernel
theorem d_Dg_add_44 : decode b_Dg_add 44 = .ok (.iconst 1, 1) := by decide +kernel
theorem d_Dg_add_45 : decode b_Dg_add 45 = .ok (.iadd, 1) := by decide +kernel
theorem d_Dg_add_46 : decode b_Dg_add 46 = .ok (.putfield 21, 3) := by decide +kernel
theorem d_Dg_add_49 : decode b_Dg_add 49 = .ok (.return_, 1) := by decide +kernel
theorem d_Vo_marks_0 : decode b_Vo_marks 0 = .ok (.iload_n 0, 1) := by decide +kernel
theorem d_Vo_marks_1 : decode b_Vo_marks 1 = .ok (.ifCond .eq 7, 3) := by decide +kernel
theorem d_Vo_marks_4 : decode b_Vo_marks 4 = .ok (.iconst 5, 1) := by decide +kernel
theorem d_Vo_marks_5 : decode b_Vo_marks 5 = .ok (.goto 4, 3) := by decide +kernel
theorem d_Vo_marks_8 : decode b_Vo_marks 8 = .ok (.iconst 3, 1) := by decide +kernel
theorem d_Vo_marks_9 : decode b_Vo_marks 9 = .ok (.ireturn, 1) := by decide +kernel
theorem d_Vo_mark_0 : decode b_Vo_mark 0 = .ok (.iload_n 0, 1) := by decide +kernel
theorem d_Vo_mark_1 : decode b_Vo_mark 1 = .ok (.ifCond .eq 10, 3) := by decide +kernel
theorem d_Vo_mark_4 : decode b_Vo_mark 4 = .ok (.iload_n 1, 1) := by decide +kernel
theorem d_Vo_mark_5 : decode b_Vo_mark 5 = .ok (.invokestatic 9, 3) := by decide +kernel
theorem d_Vo_mark_8 : decode b_Vo_mark 8 = .ok (.goto 7, 3) := by decide +kernel
theorem d_Vo_mark_11 : decode b_Vo_mark 11 = .ok (.iload_n 1, 1) := by decide +kernel
theorem d_Vo_mark_12 : decode b_Vo_mark 12 = .ok (.invokestatic 15, 3) := by decide +kernel
theorem d_Vo_mark_15 : decode b_Vo_mark 15 = .ok (.areturn, 1) := by decide +kernel
theorem d_Vo_memberMark_0 : decode b_Vo_memberMark 0 = .ok (.iload_n 0, 1) := by decide +kernel
theorem d_Vo_memberMark_1 : decode b_Vo_memberMark 1 = .ok (.tableswitch 43 0 3 #[31, 34, 37, 40], 31) := by decide +kernel
theorem d_Vo_memberMark_32 : decode b_Vo_memberMark 32 = .ok (.ldc 24, 2) := by decide +kernel
theorem d_Vo_memberMark_34 : decode b_Vo_memberMark 34 = .ok (.areturn, 1) := by decide +kernel
theorem d_Vo_memberMark_35 : decode b_Vo_memberMark 35 = .ok (.ldc 30, 2) := by decide +kernel
theorem d_Vo_memberMark_37 : decode b_Vo_memberMark 37 = .ok (.areturn, 1) := by decide +kernel
theorem d_Vo_memberMark_38 : decode b_Vo_memberMark 38 = .ok (.ldc 32, 2) := by decide +kernel
theorem d_Vo_memberMark_40 : decode b_Vo_memberMark 40 = .ok (.areturn, 1) := by decide +kernel
theorem d_Vo_memberMark_41 : decode b_Vo_memberMark 41 = .ok (.ldc 28, 2) := by decide +kernel
theorem d_Vo_memberMark_43 : decode b_Vo_memberMark 43 = .ok (.areturn, 1) := by decide +kernel
theorem d_Vo_memberMark_44 : decode b_Vo_memberMark 44 = .ok (.ldc 26, 2) := by decide +kernel
theorem d_Vo_memberMark_46 : decode b_Vo_memberMark 46 = .ok (.areturn, 1) := by decide +kernel
theorem d_Vo_typeMark_0 : decode b_Vo_typeMark 0 = .ok (.iload_n 0, 1) := by decide +kernel
theorem d_Vo_typeMark_1 : decode b_Vo_typeMark 1 = .ok (.lookupswitch 33 #[(0, 27), (1, 30)], 27) := by decide +kernel
theorem d_Vo_typeMark_28 : decode b_Vo_typeMark 28 = .ok (.ldc 24, 2) := by decide +kernel
theorem d_Vo_typeMark_30 : decode b_Vo_typeMark 30 = .ok (.areturn, 1) := by decide +kernel
theorem d_Vo_typeMark_31 : decode b_Vo_typeMark 31 = .ok (.ldc 26, 2) := by decide +kernel
theorem d_Vo_typeMark_33 : decode b_Vo_typeMark 33 = .ok (.areturn, 1) := by decide +kernel
theorem d_Vo_typeMark_34 : decode b_Vo_typeMark 34 = .ok (.ldc 28, 2) := by decide +kernel
theorem d_Vo_typeMark_36 : decode b_Vo_typeMark 36 = .ok (.areturn, 1) := by decide +kernel
theorem d_Vo_kinds_0 : decode b_Vo_kinds 0 = .ok (.iload_n 0, 1) := by decide +kernel
theorem d_Vo_kinds_1 : decode b_Vo_kinds 1 = .ok (.ifCond .eq 7, 3) := by decide +kernel
theorem d_Vo_kinds_4 : decode b_Vo_kinds 4 = .ok (.iconst 2, 1) := by decide +kernel
theorem d_Vo_kinds_5 : decode b_Vo_kinds 5 = .ok (.goto 4, 3) := by decide +kernel
theorem d_Vo_kinds_8 : decode b_Vo_kinds 8 = .ok (.iconst 4, 1) := by decide +kernel
theorem d_Vo_kinds_9 : decode b_Vo_kinds 9 = .ok (.ireturn, 1) := by decide +kernel
theorem d_Vo_kind_0 : decode b_Vo_kind 0 = .ok (.iload_n 0, 1) := by decide +kernel
theorem d_Vo_kind_1 : decode b_Vo_kind 1 = .ok (.ifCond .eq 10, 3) := by decide +kernel
theorem d_Vo_kind_4 : decode b_Vo_kind 4 = .ok (.iload_n 1, 1) := by decide +kernel
theorem d_Vo_kind_5 : decode b_Vo_kind 5 = .ok (.invokestatic 18, 3) := by decide +kernel
theorem d_Vo_kind_8 : decode b_Vo_kind 8 = .ok (.goto 7, 3) := by decide +kernel
theorem d_Vo_kind_11 : decode b_Vo_kind 11 = .ok (.iload_n 1, 1) := by decide +kernel
theorem d_Vo_kind_12 : decode b_Vo_kind 12 = .ok (.invokestatic 21, 3) := by decide +kernel
theorem d_Vo_kind_15 : decode b_Vo_kind 15 = .ok (.areturn, 1) := by decide +kernel
theorem d_Vo_memberKind_0 : decode b_Vo_memberKind 0 = .ok (.iload_n 0, 1) := by decide +kernel
theorem d_Vo_memberKind_1 : decode b_Vo_memberKind 1 = .ok (.iconst 1, 1) := by decide +kernel
theorem d_Vo_memberKind_2 : decode b_Vo_memberKind 2 = .ok (.if_icmp .ne 8, 3) := by decide +kernel
theorem d_Vo_memberKind_5 : decode b_Vo_memberKind 5 = .ok (.ldc 42, 2) := by decide +kernel
theorem d_Vo_memberKind_7 : decode b_Vo_memberKind 7 = .ok (.goto 5, 3) := by decide +kernel
theorem d_Vo_memberKind_10 : decode b_Vo_memberKind 10 = .ok (.ldc 44, 2) := by decide +kernel
theorem d_Vo_memberKind_12 : decode b_Vo_memberKind 12 = .ok (.areturn, 1) := by decide +kernel
theorem d_Vo_typeKind_0 : decode b_Vo_typeKind 0 = .ok (.iload_n 0, 1) := by decide +kernel
theorem d_Vo_typeKind_1 : decode b_Vo_typeKind 1 = .ok (.tableswitch 36 0 2 #[27, 30, 33], 27) := by decide +kernel
theorem d_Vo_typeKind_28 : decode b_Vo_typeKind 28 = .ok (.ldc 34, 2) := by decide +kernel
theorem d_Vo_typeKind_30 : decode b_Vo_typeKind 30 = .ok (.areturn, 1) := by decide +kernel
theorem d_Vo_typeKind_31 : decode b_Vo_typeKind 31 = .ok (.ldc 36, 2) := by decide +kernel
theorem d_Vo_typeKind_33 : decode b_Vo_typeKind 33 = .ok (.areturn, 1) := by decide +kernel
theorem d_Vo_typeKind_34 : decode b_Vo_typeKind 34 = .ok (.ldc 38, 2) := by decide +kernel
theorem d_Vo_typeKind_36 : decode b_Vo_typeKind 36 = .ok (.areturn, 1) := by decide +kernel
theorem d_Vo_typeKind_37 : decode b_Vo_typeKind 37 = .ok (.ldc 40, 2) := by decide +kernel
theorem d_Vo_typeKind_39 : decode b_Vo_typeKind 39 = .ok (.areturn, 1) := by decide +kernel
theorem d_Gr_isName_0 : decode b_Gr_isName 0 = .ok (.iload_n 1, 1) := by decide +kernel
theorem d_Gr_isName_1 : decode b_Gr_isName 1 = .ok (.ifCond .eq 19, 3) := by decide +kernel
theorem d_Gr_isName_4 : decode b_Gr_isName 4 = .ok (.iload_n 2, 1) := by decide +kernel
theorem d_Gr_isName_5 : decode b_Gr_isName 5 = .ok (.iconst 1, 1) := by decide +kernel
theorem d_Gr_isName_6 : decode b_Gr_isName 6 = .ok (.if_icmp .ne 14, 3) := by decide +kernel
theorem d_Gr_isName_9 : decode b_Gr_isName 9 = .ok (.aload_n 0, 1) := by decide +kernel
theorem d_Gr_isName_10 : decode b_Gr_isName 10 = .ok (.ldc 9, 2) := by decide +kernel
theorem d_Gr_isName_12 : decode b_Gr_isName 12 = .ok (.invokevirtual 10, 3) := by decide +kernel
theorem d_Gr_isName_15 : decode b_Gr_isName 15 = .ok (.ifCond .eq 5, 3) := by decide +kernel
theorem d_Gr_isName_18 : decode b_Gr_isName 18 = .ok (.iconst 1, 1) := by decide +kernel
theorem d_Gr_isName_19 : decode b_Gr_isName 19 = .ok (.ireturn, 1) := by decide +kernel
theorem d_Gr_isName_20 : decode b_Gr_isName 20 = .ok (.iload_n 1, 1) := by decide +kernel
theorem d_Gr_isName_21 : decode b_Gr_isName 21 = .ok (.ifCond .eq 7, 3) := by decide +kernel
theorem d_Gr_isName_24 : decode b_Gr_isName 24 = .ok (.iconst 0, 1) := by decide +kernel
theorem d_Gr_isName_25 : decode b_Gr_isName 25 = .ok (.goto 5, 3) := by decide +kernel
theorem d_Gr_isName_28 : decode b_Gr_isName 28 = .ok (.bipush 46, 2) := by decide +kernel
theorem d_Gr_isName_30 : decode b_Gr_isName 30 = .ok (.istore_n 3, 1) := by decide +kernel
theorem d_Gr_isName_31 : decode b_Gr_isName 31 = .ok (.aload_n 0, 1) := by decide +kernel
theorem d_Gr_isName_32 : decode b_Gr_isName 32 = .ok (.invokevirtual 18, 3) := by decide +kernel
theorem d_Gr_isName_35 : decode b_Gr_isName 35 = .ok (.ifCond .eq 20, 3) := by decide +kernel
theorem d_Gr_isName_38 : decode b_Gr_isName 38 = .ok (.aload_n 0, 1) := by decide +kernel
theorem d_Gr_isName_39 : decode b_Gr_isName 39 = .ok (.iconst 0, 1) := by decide +kernel
theorem d_Gr_isName_40 : decode b_Gr_isName 40 = .ok (.iload_n 3, 1) := by decide +kernel
theorem d_Gr_isName_41 : decode b_Gr_isName 41 = .ok (.invokestatic 22, 3) := by decide +kernel
theorem d_Gr_isName_44 : decode b_Gr_isName 44 = .ok (.aload_n 0, 1) := by decide +kernel
theorem d_Gr_isName_45 : decode b_Gr_isName 45 = .ok (.invokevirtual 26, 3) := by decide +kernel
theorem d_Gr_isName_48 : decode b_Gr_isName 48 = .ok (.if_icmp .ne 7, 3) := by decide +kernel
theorem d_Gr_isName_51 : decode b_Gr_isName 51 = .ok (.iconst 1, 1) := by decide +kernel
theorem d_Gr_isName_52 : decode b_Gr_isName 52 = .ok (.goto 4, 3) := by decide +kernel
theorem d_Gr_isName_55 : decode b_Gr_isName 55 = .ok (.iconst 0, 1) := by decide +kernel
theorem d_Gr_isName_56 : decode b_Gr_isName 56 = .ok (.ireturn, 1) := by decide +kernel
theorem d_Rw_isWord_0 : decode b_Rw_isWord 0 = .ok (.aload_n 0, 1) := by decide +kernel
theorem d_Rw_isWord_1 : decode b_Rw_isWord 1 = .ok (.getfield 15, 3) := by decide +kernel
theorem d_Rw_isWord_4 : decode b_Rw_isWord 4 = .ok (.aload_n 1, 1) := by decide +kernel
theorem d_Rw_isWord_5 : decode b_Rw_isWord 5 = .ok (.invokevirtual 23, 3) := by decide +kernel
theorem d_Rw_isWord_8 : decode b_Rw_isWord 8 = .ok (.if_icmp .eq 5, 3) := by decide +kernel
theorem d_Rw_isWord_11 : decode b_Rw_isWord 11 = .ok (.iconst 0, 1) := by decide +kernel
theorem d_Rw_isWord_12 : decode b_Rw_isWord 12 = .ok (.ireturn, 1) := by decide +kernel
theorem d_Rw_isWord_13 : decode b_Rw_isWord 13 = .ok (.iconst 0, 1) := by decide +kernel
theorem d_Rw_isWord_14 : decode b_Rw_isWord 14 = .ok (.istore_n 2, 1) := by decide +kernel
theorem d_Rw_isWord_15 : decode b_Rw_isWord 15 = .ok (.iload_n 2, 1) := by decide +kernel
theorem d_Rw_isWord_16 : decode b_Rw_isWord 16 = .ok (.aload_n 0, 1) := by decide +kernel
theorem d_Rw_isWord_17 : decode b_Rw_isWord 17 = .ok (.getfield 15, 3) := by decide +kernel
theorem d_Rw_isWord_20 : decode b_Rw_isWord 20 = .ok (.if_icmp .ge 25, 3) := by decide +kernel
theorem d_Rw_isWord_23 : decode b_Rw_isWord 23 = .ok (.aload_n 0, 1) := by decide +kernel
theorem d_Rw_isWord_24 : decode b_Rw_isWord 24 = .ok (.getfield 9, 3) := by decide +kernel
theorem d_Rw_isWord_27 : decode b_Rw_isWord 27 = .ok (.iload_n 2, 1) := by decide +kernel
theorem d_Rw_isWord_28 : decode b_Rw_isWord 28 = .ok (.caload, 1) := by decide +kernel
theorem d_Rw_isWord_29 : decode b_Rw_isWord 29 = .ok (.aload_n 1, 1) := by decide +kernel
theorem d_Rw_isWord_30 : decode b_Rw_isWord 30 = .ok (.iload_n 2, 1) := by decide +kernel
theorem d_Rw_isWord_31 : decode b_Rw_isWord 31 = .ok (.invokevirtual 28, 3) := by decide +kernel
theorem d_Rw_isWord_34 : decode b_Rw_isWord 34 = .ok (.if_icmp .eq 5, 3) := by decide +kernel
theorem d_Rw_isWord_37 : decode b_Rw_isWord 37 = .ok (.iconst 0, 1) := by decide +kernel
theorem d_Rw_isWord_38 : decode b_Rw_isWord 38 = .ok (.ireturn, 1) := by decide +kernel
theorem d_Rw_isWord_39 : decode b_Rw_isWord 39 = .ok (.iinc 2 1, 3) := by decide +kernel
theorem d_Rw_isWord_42 : decode b_Rw_isWord 42 = .ok (.goto (-27), 3) := by decide +kernel
theorem d_Rw_isWord_45 : decode b_Rw_isWord 45 = .ok (.iconst 1, 1) := by decide +kernel
theorem d_Rw_isWord_46 : decode b_Rw_isWord 46 = .ok (.ireturn, 1) := by decide +kernel
theorem d_Rw_fits_0 : decode b_Rw_fits 0 = .ok (.aload_n 0, 1) := by decide +kernel
theorem d_Rw_fits_1 : decode b_Rw_fits 1 = .ok (.getfield 19, 3) := by decide +kernel
theorem d_Rw_fits_4 : decode b_Rw_fits 4 = .ok (.ifCond .ne 7, 3) := by decide +kernel
theorem d_Rw_fits_7 : decode b_Rw_fits 7 = .ok (.iconst 1, 1) := by decide +kernel
theorem d_Rw_fits_8 : decode b_Rw_fits 8 = .ok (.goto 4, 3) := by decide +kernel
theorem d_Rw_fits_11 : decode b_Rw_fits 11 = .ok (.iconst 0, 1) := by decide +kernel
theorem d_Rw_fits_12 : decode b_Rw_fits 12 = .ok (.ireturn, 1) := by decide +kernel
theorem d_Gr_nameEnd_0 : decode b_Gr_nameEnd 0 = .ok (.iconst 1, 1) := by decide +kernel
theorem d_Gr_nameEnd_1 : decode b_Gr_nameEnd 1 = .ok (.istore_n 3, 1) := by decide +kernel
theorem d_Gr_nameEnd_2 : decode b_Gr_nameEnd 2 = .ok (.iload_n 1, 1) := by decide +kernel
theorem d_Gr_nameEnd_3 : decode b_Gr_nameEnd 3 = .ok (.istore 4, 2) := by decide +kernel
theorem d_Gr_nameEnd_5 : decode b_Gr_nameEnd 5 = .ok (.iload 4, 2) := by decide +kernel
theorem d_Gr_nameEnd_7 : decode b_Gr_nameEnd 7 = .ok (.aload_n 0, 1) := by decide +kernel
theorem d_Gr_nameEnd_8 : decode b_Gr_nameEnd 8 = .ok (.invokevirtual 26, 3) := by decide +kernel
theorem d_Gr_nameEnd_11 : decode b_Gr_nameEnd 11 = .ok (.if_icmp .ge 54, 3) := by decide +kernel
theorem d_Gr_nameEnd_14 : decode b_Gr_nameEnd 14 = .ok (.aload_n 0, 1) := by decide +kernel
theorem d_Gr_nameEnd_15 : decode b_Gr_nameEnd 15 = .ok (.iload 4, 2) := by decide +kernel
theorem d_Gr_nameEnd_17 : decode b_Gr_nameEnd 17 = .ok (.invokevirtual 34, 3) := by decide +kernel
theorem d_Gr_nameEnd_20 : decode b_Gr_nameEnd 20 = .ok (.istore 5, 2) := by decide +kernel
theorem d_Gr_nameEnd_22 : decode b_Gr_nameEnd 22 = .ok (.iload 5, 2) := by decide +kernel
theorem d_Gr_nameEnd_24 : decode b_Gr_nameEnd 24 = .ok (.invokestatic 42, 3) := by decide +kernel
theorem d_Gr_nameEnd_27 : decode b_Gr_nameEnd 27 = .ok (.ifCond .ne 15, 3) := by decide +kernel
theorem d_Gr_nameEnd_30 : decode b_Gr_nameEnd 30 = .ok (.iload_n 3, 1) := by decide +kernel
theorem d_Gr_nameEnd_31 : decode b_Gr_nameEnd 31 = .ok (.ifCond .ne 16, 3) := by decide +kernel
theorem d_Gr_nameEnd_34 : decode b_Gr_nameEnd 34 = .ok (.iload 5, 2) := by decide +kernel
theorem d_Gr_nameEnd_36 : decode b_Gr_nameEnd 36 = .ok (.invokestatic 45, 3) := by decide +kernel
theorem d_Gr_nameEnd_39 : decode b_Gr_nameEnd 39 = .ok (.ifCond .eq 8, 3) := by decide +kernel
theorem d_Gr_nameEnd_42 : decode b_Gr_nameEnd 42 = .ok (.iconst 0, 1) := by decide +kernel
theorem d_Gr_nameEnd_43 : decode b_Gr_nameEnd 43 = .ok (.istore_n 3, 1) := by decide +kernel
theorem d_Gr_nameEnd_44 : decode b_Gr_nameEnd 44 = .ok (.goto 15, 3) := by decide +kernel
theorem d_Gr_nameEnd_47 : decode b_Gr_nameEnd 47 = .ok (.iload_n 3, 1) := by decide +kernel
theorem d_Gr_nameEnd_48 : decode b_Gr_nameEnd 48 = .ok (.ifCond .ne 17, 3) := by decide +kernel
theorem d_Gr_nameEnd_51 : decode b_Gr_nameEnd 51 = .ok (.iload 5, 2) := by decide +kernel
theorem d_Gr_nameEnd_53 : decode b_Gr_nameEnd 53 = .ok (.iload_n 2, 1) := by decide +kernel
theorem d_Gr_nameEnd_54 : decode b_Gr_nameEnd 54 = .ok (.if_icmp .ne 11, 3) := by decide +kernel
theorem d_Gr_nameEnd_57 : decode b_Gr_nameEnd 57 = .ok (.iconst 1, 1) := by decide +kernel
theorem d_Gr_nameEnd_58 : decode b_Gr_nameEnd 58 = .ok (.istore_n 3, 1) := by decide +kernel
theorem d_Gr_nameEnd_59 : decode b_Gr_nameEnd 59 = .ok (.iinc 4 1, 3) := by decide +kernel
theorem d_Gr_nameEnd_62 : decode b_Gr_nameEnd 62 = .ok (.goto (-57), 3) := by decide +kernel
theorem d_Gr_nameEnd_65 : decode b_Gr_nameEnd 65 = .ok (.iload_n 3, 1) := by decide +kernel
theorem d_Gr_nameEnd_66 : decode b_Gr_nameEnd 66 = .ok (.ifCond .eq 7, 3) := by decide +kernel
theorem d_Gr_nameEnd_69 : decode b_Gr_nameEnd 69 = .ok (.iconst (-1), 1) := by decide +kernel
theorem d_Gr_nameEnd_70 : decode b_Gr_nameEnd 70 = .ok (.goto 5, 3) := by decide +kernel
theorem d_Gr_nameEnd_73 : decode b_Gr_nameEnd 73 = .ok (.iload 4, 2) := by decide +kernel
theorem d_Gr_nameEnd_75 : decode b_Gr_nameEnd 75 = .ok (.ireturn, 1) := by decide +kernel
theorem d_Gr_isLetter_0 : decode b_Gr_isLetter 0 = .ok (.iload_n 0, 1) := by decide +kernel
theorem d_Gr_isLetter_1 : decode b_Gr_isLetter 1 = .ok (.bipush 97, 2) := by decide +kernel
theorem d_Gr_isLetter_3 : decode b_Gr_isLetter 3 = .ok (.if_icmp .lt 9, 3) := by decide +kernel
theorem d_Gr_isLetter_6 : decode b_Gr_isLetter 6 = .ok (.iload_n 0, 1) := by decide +kernel
theorem d_Gr_isLetter_7 : decode b_Gr_isLetter 7 = .ok (.bipush 122, 2) := by decide +kernel
theorem d_Gr_isLetter_9 : decode b_Gr_isLetter 9 = .ok (.if_icmp .le 27, 3) := by decide +kernel
theorem d_Gr_isLetter_12 : decode b_Gr_isLetter 12 = .ok (.iload_n 0, 1) := by decide +kernel
theorem d_Gr_isLetter_13 : decode b_Gr_isLetter 13 = .ok (.bipush 65, 2) := by decide +kernel
theorem d_Gr_isLetter_15 : decode b_Gr_isLetter 15 = .ok (.if_icmp .lt 9, 3) := by decide +kernel
theorem d_Gr_isLetter_18 : decode b_Gr_isLetter 18 = .ok (.iload_n 0, 1) := by decide +kernel
theorem d_Gr_isLetter_19 : decode b_Gr_isLetter 19 = .ok (.bipush 90, 2) := by decide +kernel
theorem d_Gr_isLetter_21 : decode b_Gr_isLetter 21 = .ok (.if_icmp .le 15, 3) := by decide +kernel
theorem d_Gr_isLetter_24 : decode b_Gr_isLetter 24 = .ok (.iload_n 0, 1) := by decide +kernel
theorem d_Gr_isLetter_25 : decode b_Gr_isLetter 25 = .ok (.bipush 36, 2) := by decide +kernel
theorem d_Gr_isLetter_27 : decode b_Gr_isLetter 27 = .ok (.if_icmp .eq 9, 3) := by decide +kernel
theorem d_Gr_isLetter_30 : decode b_Gr_isLetter 30 = .ok (.iload_n 0, 1) := by decide +kernel
theorem d_Gr_isLetter_31 : decode b_Gr_isLetter 31 = .ok (.bipush 95, 2) := by decide +kernel
theorem d_Gr_isLetter_33 : decode b_Gr_isLetter 33 = .ok (.if_icmp .ne 7, 3) := by decide +kernel
theorem d_Gr_isLetter_36 : decode b_Gr_isLetter 36 = .ok (.iconst 1, 1) := by decide +kernel
theorem d_Gr_isLetter_37 : decode b_Gr_isLetter 37 = .ok (.goto 4, 3) := by decide +kernel
theorem d_Gr_isLetter_40 : decode b_Gr_isLetter 40 = .ok (.iconst 0, 1) := by decide +kernel
theorem d_Gr_isLetter_41 : decode b_Gr_isLetter 41 = .ok (.ireturn, 1) := by decide +kernel
theorem d_Gr_isDigit_0 : decode b_Gr_isDigit 0 = .ok (.iload_n 0, 1) := by decide +kernel
theorem d_Gr_isDigit_1 : decode b_Gr_isDigit 1 = .ok (.bipush 48, 2) := by decide +kernel
theorem d_Gr_isDigit_3 : decode b_Gr_isDigit 3 = .ok (.if_icmp .lt 13, 3) := by decide +kernel
theorem d_Gr_isDigit_6 : decode b_Gr_isDigit 6 = .ok (.iload_n 0, 1) := by decide +kernel
theorem d_Gr_isDigit_7 : decode b_Gr_isDigit 7 = .ok (.bipush 57, 2) := by decide +kernel
theorem d_Gr_isDigit_9 : decode b_Gr_isDigit 9 = .ok (.if_icmp .gt 7, 3) := by decide +kernel
theorem d_Gr_isDigit_12 : decode b_Gr_isDigit 12 = .ok (.iconst 1, 1) := by decide +kernel
theorem d_Gr_isDigit_13 : decode b_Gr_isDigit 13 = .ok (.goto 4, 3) := by decide +kernel
theorem d_Gr_isDigit_16 : decode b_Gr_isDigit 16 = .ok (.iconst 0, 1) := by decide +kernel
theorem d_Gr_isDigit_17 : decode b_Gr_isDigit 17 = .ok (.ireturn, 1) := by decide +kernel
theorem d_Gr_isMethodDescriptor_0 : decode b_Gr_isMethodDescriptor 0 = .ok (.aload_n 0, 1) := by decide +kernel
theorem d_Gr_isMethodDescriptor_1 : decode b_Gr_isMethodDescriptor 1 = .ok (.invokevirtual 18, 3) := by decide +kernel
theorem d_Gr_isMethodDescriptor_4 : decode b_Gr_isMethodDescriptor 4 = .ok (.ifCond .eq 13, 3) := by decide +kernel
theorem d_Gr_isMethodDescriptor_7 : decode b_Gr_isMethodDescriptor 7 = .ok (.aload_n 0, 1) := by decide +kernel
theorem d_Gr_isMethodDescriptor_8 : decode b_Gr_isMethodDescriptor 8 = .ok (.iconst 0, 1) := by decide +kernel
theorem d_Gr_isMethodDescriptor_9 : decode b_Gr_isMethodDescriptor 9 = .ok (.invokevirtual 34, 3) := by decide +kernel
theorem d_Gr_isMethodDescriptor_12 : decode b_Gr_isMethodDescriptor 12 = .ok (.bipush 40, 2) := by decide +kernel
theorem d_Gr_isMethodDescriptor_14 : decode b_Gr_isMethodDescriptor 14 = .ok (.if_icmp .eq 5, 3) := by decide +kernel
theorem d_Gr_isMethodDescriptor_17 : decode b_Gr_isMethodDescriptor 17 = .ok (.iconst 0, 1) := by decide +kernel
theorem d_Gr_isMethodDescriptor_18 : decode b_Gr_isMethodDescriptor 18 = .ok (.ireturn, 1) := by decide +kernel
theorem d_Gr_isMethodDescriptor_19 : decode b_Gr_isMethodDescriptor 19 = .ok (.iconst 1, 1) := by decide +kernel
theorem d_Gr_isMethodDescriptor_20 : decode b_Gr_isMethodDescriptor 20 = .ok (.istore_n 1, 1) := by decide +kernel
theorem d_Gr_isMethodDescriptor_21 : decode b_Gr_isMethodDescriptor 21 = .ok (.iconst 0, 1) := by decide +kernel
theorem d_Gr_isMethodDescriptor_22 : decode b_Gr_isMethodDescriptor 22 = .ok (.istore_n 2, 1) := by decide +kernel
theorem d_Gr_isMethodDescriptor_23 : decode b_Gr_isMethodDescriptor 23 = .ok (.iload_n 2, 1) := by decide +kernel
theorem d_Gr_isMethodDescriptor_24 : decode b_Gr_isMethodDescriptor 24 = .ok (.bipush 20, 2) := by decide +kernel
theorem d_Gr_isMethodDescriptor_26 : decode b_Gr_isMethodDescriptor 26 = .ok (.if_icmp .ge 30, 3) := by decide +kernel
theorem d_Gr_isMethodDescriptor_29 : decode b_Gr_isMethodDescriptor 29 = .ok (.iload_n 1, 1) := by decide +kernel
theorem d_Gr_isMethodDescriptor_30 : decode b_Gr_isMethodDescriptor 30 = .ok (.iconst (-1), 1) := by decide +kernel
theorem d_Gr_isMethodDescriptor_31 : decode b_Gr_isMethodDescriptor 31 = .ok (.if_icmp .eq 25, 3) := by decide +kernel
theorem d_Gr_isMethodDescriptor_34 : decode b_Gr_isMethodDescriptor 34 = .ok (.aload_n 0, 1) := by decide +kernel
theorem d_Gr_isMethodDescriptor_35 : decode b_Gr_isMethodDescriptor 35 = .ok (.iload_n 1, 1) := by decide +kernel
theorem d_Gr_isMethodDescriptor_36 : decode b_Gr_isMethodDescriptor 36 = .ok (.invokevirtual 34, 3) := by decide +kernel
theorem d_Gr_isMethodDescriptor_39 : decode b_Gr_isMethodDescriptor 39 = .ok (.bipush 41, 2) := by decide +kernel
theorem d_Gr_isMethodDescriptor_41 : decode b_Gr_isMethodDescriptor 41 = .ok (.if_icmp .eq 15, 3) := by decide +kernel
theorem d_Gr_isMethodDescriptor_44 : decode b_Gr_isMethodDescriptor 44 = .ok (.aload_n 0, 1) := by decide +kernel
theorem d_Gr_isMethodDescriptor_45 : decode b_Gr_isMethodDescriptor 45 = .ok (.iload_n 1, 1) := by decide +kernel
theorem d_Gr_isMethodDescriptor_46 : decode b_Gr_isMethodDescriptor 46 = .ok (.invokestatic 30, 3) := by decide +kernel
theorem d_Gr_isMethodDescriptor_49 : decode b_Gr_isMethodDescriptor 49 = .ok (.istore_n 1, 1) := by decide +kernel
theorem d_Gr_isMethodDescriptor_50 : decode b_Gr_isMethodDescriptor 50 = .ok (.iinc 2 1, 3) := by decide +kernel
theorem d_Gr_isMethodDescriptor_53 : decode b_Gr_isMethodDescriptor 53 = .ok (.goto (-30), 3) := by decide +kernel
theorem d_Gr_isMethodDescriptor_56 : decode b_Gr_isMethodDescriptor 56 = .ok (.aload_n 0, 1) := by decide +kernel
theorem d_Gr_isMethodDescriptor_57 : decode b_Gr_isMethodDescriptor 57 = .ok (.iload_n 1, 1) := by decide +kernel
theorem d_Gr_isMethodDescriptor_58 : decode b_Gr_isMethodDescriptor 58 = .ok (.invokevirtual 34, 3) := by decide +kernel
theorem d_Gr_isMethodDescriptor_61 : decode b_Gr_isMethodDescriptor 61 = .ok (.bipush 41, 2) := by decide +kernel
theorem d_Gr_isMethodDescriptor_63 : decode b_Gr_isMethodDescriptor 63 = .ok (.if_icmp .eq 5, 3) := by decide +kernel
theorem d_Gr_isMethodDescriptor_66 : decode b_Gr_isMethodDescriptor 66 = .ok (.iconst 0, 1) := by decide +kernel
theorem d_Gr_isMethodDescriptor_67 : decode b_Gr_isMethodDescriptor 67 = .ok (.ireturn, 1) := by decide +kernel
theorem d_Gr_isMethodDescriptor_68 : decode b_Gr_isMethodDescriptor 68 = .ok (.aload_n 0, 1) := by decide +kernel
theorem d_Gr_isMethodDescriptor_69 : decode b_Gr_isMethodDescriptor 69 = .ok (.iload_n 1, 1) := by decide +kernel
theorem d_Gr_isMethodDescriptor_70 : decode b_Gr_isMethodDescriptor 70 = .ok (.iconst 1, 1) := by decide +kernel
theorem d_Gr_isMethodDescriptor_71 : decode b_Gr_isMethodDescriptor 71 = .ok (.iadd, 1) := by decide +kernel
theorem d_Gr_isMethodDescriptor_72 : decode b_Gr_isMethodDescriptor 72 = .ok (.invokevirtual 34, 3) := by decide +kernel
theorem d_Gr_isMethodDescriptor_75 : decode b_Gr_isMethodDescriptor 75 = .ok (.bipush 86, 2) := by decide +kernel
theorem d_Gr_isMethodDescriptor_77 : decode b_Gr_isMethodDescriptor 77 = .ok (.if_icmp .ne 9, 3) := by decide +kernel
theorem d_Gr_isMethodDescriptor_80 : decode b_Gr_isMethodDescriptor 80 = .ok (.iload_n 1, 1) := by decide +kernel
theorem d_Gr_isMethodDescriptor_81 : decode b_Gr_isMethodDescriptor 81 = .ok (.iconst 2, 1) := by decide +kernel
theorem d_Gr_isMethodDescriptor_82 : decode b_Gr_isMethodDescriptor 82 = .ok (.iadd, 1) := by decide +kernel
theorem d_Gr_isMethodDescriptor_83 : decode b_Gr_isMethodDescriptor 83 = .ok (.goto 10, 3) := by decide +kernel
theorem d_Gr_isMethodDescriptor_86 : decode b_Gr_isMethodDescriptor 86 = .ok (.aload_n 0, 1) := by decide +kernel
theorem d_Gr_isMethodDescriptor_87 : decode b_Gr_isMethodDescriptor 87 = .ok (.iload_n 1, 1) := by decide +kernel
theorem d_Gr_isMethodDescriptor_88 : decode b_Gr_isMethodDescriptor 88 = .ok (.iconst 1, 1) := by decide +kernel
theorem d_Gr_isMethodDescriptor_89 : decode b_Gr_isMethodDescriptor 89 = .ok (.iadd, 1) := by decide +kernel
theorem d_Gr_isMethodDescriptor_90 : decode b_Gr_isMethodDescriptor 90 = .ok (.invokestatic 30, 3) := by decide +kernel
theorem d_Gr_isMethodDescriptor_93 : decode b_Gr_isMethodDescriptor 93 = .ok (.istore_n 2, 1) := by decide +kernel
theorem d_Gr_isMethodDescriptor_94 : decode b_Gr_isMethodDescriptor 94 = .ok (.iload_n 2, 1) := by decide +kernel
theorem d_Gr_isMethodDescriptor_95 : decode b_Gr_isMethodDescriptor 95 = .ok (.aload_n 0, 1) := by decide +kernel
theorem d_Gr_isMethodDescriptor_96 : decode b_Gr_isMethodDescriptor 96 = .ok (.invokevirtual 26, 3) := by decide +kernel
theorem d_Gr_isMethodDescriptor_99 : decode b_Gr_isMethodDescriptor 99 = .ok (.if_icmp .ne 7, 3) := by decide +kernel
theorem d_Gr_isMethodDescriptor_102 : decode b_Gr_isMethodDescriptor 102 = .ok (.iconst 1, 1) := by decide +kernel
theorem d_Gr_isMethodDescriptor_103 : decode b_Gr_isMethodDescriptor 103 = .ok (.goto 4, 3) := by decide +kernel
theorem d_Gr_isMethodDescriptor_106 : decode b_Gr_isMethodDescriptor 106 = .ok (.iconst 0, 1) := by decide +kernel
theorem d_Gr_isMethodDescriptor_107 : decode b_Gr_isMethodDescriptor 107 = .ok (.ireturn, 1) := by decide +kernel
theorem d_Gr_fieldEnd_0 : decode b_Gr_fieldEnd 0 = .ok (.iload_n 1, 1) := by decide +kernel
theorem d_Gr_fieldEnd_1 : decode b_Gr_fieldEnd 1 = .ok (.istore_n 2, 1) := by decide +kernel
theorem d_Gr_fieldEnd_2 : decode b_Gr_fieldEnd 2 = .ok (.iload_n 2, 1) := by decide +kernel
theorem d_Gr_fieldEnd_3 : decode b_Gr_fieldEnd 3 = .ok (.aload_n 0, 1) := by decide +kernel
theorem d_Gr_fieldEnd_4 : decode b_Gr_fieldEnd 4 = .ok (.invokevirtual 26, 3) := by decide +kernel
theorem d_Gr_fieldEnd_7 : decode b_Gr_fieldEnd 7 = .ok (.if_icmp .ge 19, 3) := by decide +kernel
theorem d_Gr_fieldEnd_10 : decode b_Gr_fieldEnd 10 = .ok (.aload_n 0, 1) := by decide +kernel
theorem d_Gr_fieldEnd_11 : decode b_Gr_fieldEnd 11 = .ok (.iload_n 2, 1) := by decide +kernel
theorem d_Gr_fieldEnd_12 : decode b_Gr_fieldEnd 12 = .ok (.invokevirtual 34, 3) := by decide +kernel
theorem d_Gr_fieldEnd_15 : decode b_Gr_fieldEnd 15 = .ok (.bipush 91, 2) := by decide +kernel
theorem d_Gr_fieldEnd_17 : decode b_Gr_fieldEnd 17 = .ok (.if_icmp .ne 9, 3) := by decide +kernel
theorem d_Gr_fieldEnd_20 : decode b_Gr_fieldEnd 20 = .ok (.iinc 2 1, 3) := by decide +kernel
theorem d_Gr_fieldEnd_23 : decode b_Gr_fieldEnd 23 = .ok (.goto (-21), 3) := by decide +kernel
theorem d_Gr_fieldEnd_26 : decode b_Gr_fieldEnd 26 = .ok (.aload_n 0, 1) := by decide +kernel
theorem d_Gr_fieldEnd_27 : decode b_Gr_fieldEnd 27 = .ok (.iload_n 2, 1) := by decide +kernel
theorem d_Gr_fieldEnd_28 : decode b_Gr_fieldEnd 28 = .ok (.invokevirtual 34, 3) := by decide +kernel
theorem d_Gr_fieldEnd_31 : decode b_Gr_fieldEnd 31 = .ok (.invokestatic 38, 3) := by decide +kernel
theorem d_Gr_fieldEnd_34 : decode b_Gr_fieldEnd 34 = .ok (.ifCond .eq 7, 3) := by decide +kernel
theorem d_Gr_fieldEnd_37 : decode b_Gr_fieldEnd 37 = .ok (.iload_n 2, 1) := by decide +kernel
theorem d_Gr_fieldEnd_38 : decode b_Gr_fieldEnd 38 = .ok (.iconst 1, 1) := by decide +kernel
theorem d_Gr_fieldEnd_39 : decode b_Gr_fieldEnd 39 = .ok (.iadd, 1) := by decide +kernel
theorem d_Gr_fieldEnd_40 : decode b_Gr_fieldEnd 40 = .ok (.ireturn, 1) := by decide +kernel
theorem d_Gr_fieldEnd_41 : decode b_Gr_fieldEnd 41 = .ok (.aload_n 0, 1) := by decide +kernel
theorem d_Gr_fieldEnd_42 : decode b_Gr_fieldEnd 42 = .ok (.iload_n 2, 1) := by decide +kernel
theorem d_Gr_fieldEnd_43 : decode b_Gr_fieldEnd 43 = .ok (.invokevirtual 34, 3) := by decide +kernel
theorem d_Gr_fieldEnd_46 : decode b_Gr_fieldEnd 46 = .ok (.bipush 76, 2) := by decide +kernel
theorem d_Gr_fieldEnd_48 : decode b_Gr_fieldEnd 48 = .ok (.if_icmp .eq 5, 3) := by decide +kernel
theorem d_Gr_fieldEnd_51 : decode b_Gr_fieldEnd 51 = .ok (.iconst (-1), 1) := by decide +kernel
theorem d_Gr_fieldEnd_52 : decode b_Gr_fieldEnd 52 = .ok (.ireturn, 1) := by decide +kernel
theorem d_Gr_fieldEnd_53 : decode b_Gr_fieldEnd 53 = .ok (.aload_n 0, 1) := by decide +kernel
theorem d_Gr_fieldEnd_54 : decode b_Gr_fieldEnd 54 = .ok (.iload_n 2, 1) := by decide +kernel
theorem d_Gr_fieldEnd_55 : decode b_Gr_fieldEnd 55 = .ok (.iconst 1, 1) := by decide +kernel
theorem d_Gr_fieldEnd_56 : decode b_Gr_fieldEnd 56 = .ok (.iadd, 1) := by decide +kernel
theorem d_Gr_fieldEnd_57 : decode b_Gr_fieldEnd 57 = .ok (.bipush 47, 2) := by decide +kernel
theorem d_Gr_fieldEnd_59 : decode b_Gr_fieldEnd 59 = .ok (.invokestatic 22, 3) := by decide +kernel
theorem d_Gr_fieldEnd_62 : decode b_Gr_fieldEnd 62 = .ok (.istore_n 3, 1) := by decide +kernel
theorem d_Gr_fieldEnd_63 : decode b_Gr_fieldEnd 63 = .ok (.aload_n 0, 1) := by decide +kernel
theorem d_Gr_fieldEnd_64 : decode b_Gr_fieldEnd 64 = .ok (.iload_n 3, 1) := by decide +kernel
theorem d_Gr_fieldEnd_65 : decode b_Gr_fieldEnd 65 = .ok (.invokevirtual 34, 3) := by decide +kernel
theorem d_Gr_fieldEnd_68 : decode b_Gr_fieldEnd 68 = .ok (.bipush 59, 2) := by decide +kernel
theorem d_Gr_fieldEnd_70 : decode b_Gr_fieldEnd 70 = .ok (.if_icmp .ne 9, 3) := by decide +kernel
theorem d_Gr_fieldEnd_73 : decode b_Gr_fieldEnd 73 = .ok (.iload_n 3, 1) := by decide +kernel
theorem d_Gr_fieldEnd_74 : decode b_Gr_fieldEnd 74 = .ok (.iconst 1, 1) := by decide +kernel
theorem d_Gr_fieldEnd_75 : decode b_Gr_fieldEnd 75 = .ok (.iadd, 1) := by decide +kernel
theorem d_Gr_fieldEnd_76 : decode b_Gr_fieldEnd 76 = .ok (.goto 4, 3) := by decide +kernel
theorem d_Gr_fieldEnd_79 : decode b_Gr_fieldEnd 79 = .ok (.iconst (-1), 1) := by decide +kernel
theorem d_Gr_fieldEnd_80 : decode b_Gr_fieldEnd 80 = .ok (.ireturn, 1) := by decide +kernel
theorem d_Gr_isBase_0 : decode b_Gr_isBase 0 = .ok (.iload_n 0, 1) := by decide +kernel
theorem d_Gr_isBase_1 : decode b_Gr_isBase 1 = .ok (.tableswitch 117 66 90 #[115, 115, 115, 117, 115, 117, 117, 115, 115, 117, 117, 117, 117, 117, 117, 117, 117, 115, 117, 117, 117, 117, 117, 117, 115], 115) := by decide +kernel
theorem d_Gr_isBase_116 : decode b_Gr_isBase 116 = .ok (.iconst 1, 1) := by decide +kernel
theorem d_Gr_isBase_117 : decode b_Gr_isBase 117 = .ok (.ireturn, 1) := by decide +kernel
theorem d_Gr_isBase_118 : decode b_Gr_isBase 118 = .ok (.iconst 0, 1) := by decide +kernel
theorem d_Gr_isBase_119 : decode b_Gr_isBase 119 = .ok (.ireturn, 1) := by decide +kernel
theorem d_Gr_isFieldDescriptor_0 : decode b_Gr_isFieldDescriptor 0 = .ok (.aload_n 0, 1) := by decide +kernel
theorem d_Gr_isFieldDescriptor_1 : decode b_Gr_isFieldDescriptor 1 = .ok (.invokevirtual 18, 3) := by decide +kernel
theorem d_Gr_isFieldDescriptor_4 : decode b_Gr_isFieldDescriptor 4 = .ok (.ifCond .eq 19, 3) := by decide +kernel
theorem d_Gr_isFieldDescriptor_7 : decode b_Gr_isFieldDescriptor 7 = .ok (.aload_n 0, 1) := by decide +kernel
theorem d_Gr_isFieldDescriptor_8 : decode b_Gr_isFieldDescriptor 8 = .ok (.iconst 0, 1) := by decide +kernel
theorem d_Gr_isFieldDescriptor_9 : decode b_Gr_isFieldDescriptor 9 = .ok (.invokestatic 30, 3) := by decide +kernel
theorem d_Gr_isFieldDescriptor_12 : decode b_Gr_isFieldDescriptor 12 = .ok (.aload_n 0, 1) := by decide +kernel
theorem d_Gr_isFieldDescriptor_13 : decode b_Gr_isFieldDescriptor 13 = .ok (.invokevirtual 26, 3) := by decide +kernel
theorem d_Gr_isFieldDescriptor_16 : decode b_Gr_isFieldDescriptor 16 = .ok (.if_icmp .ne 7, 3) := by decide +kernel
theorem d_Gr_isFieldDescriptor_19 : decode b_Gr_isFieldDescriptor 19 = .ok (.iconst 1, 1) := by decide +kernel
theorem d_Gr_isFieldDescriptor_20 : decode b_Gr_isFieldDescriptor 20 = .ok (.goto 4, 3) := by decide +kernel
theorem d_Gr_isFieldDescriptor_23 : decode b_Gr_isFieldDescriptor 23 = .ok (.iconst 0, 1) := by decide +kernel
theorem d_Gr_isFieldDescriptor_24 : decode b_Gr_isFieldDescriptor 24 = .ok (.ireturn, 1) := by decide +kernel
theorem d_Dc_compare_0 : decode b_Dc_compare 0 = .ok (.aload_n 0, 1) := by decide +kernel
theorem d_Dc_compare_1 : decode b_Dc_compare 1 = .ok (.getfield 14, 3) := by decide +kernel
theorem d_Dc_compare_4 : decode b_Dc_compare 4 = .ok (.aload_n 1, 1) := by decide +kernel
theorem d_Dc_compare_5 : decode b_Dc_compare 5 = .ok (.getfield 14, 3) := by decide +kernel
theorem d_Dc_compare_8 : decode b_Dc_compare 8 = .ok (.invokevirtual 34, 3) := by decide +kernel
theorem d_Dc_compare_11 : decode b_Dc_compare 11 = .ok (.istore_n 2, 1) := by decide +kernel
theorem d_Dc_compare_12 : decode b_Dc_compare 12 = .ok (.iload_n 2, 1) := by decide +kernel
theorem d_Dc_compare_13 : decode b_Dc_compare 13 = .ok (.ifCond .ne 13, 3) := by decide +kernel
theorem d_Dc_compare_16 : decode b_Dc_compare 16 = .ok (.aload_n 0, 1) := by decide +kernel
theorem d_Dc_compare_17 : decode b_Dc_compare 17 = .ok (.getfield 27, 3) := by decide +kernel
theorem d_Dc_compare_20 : decode b_Dc_compare 20 = .ok (.aload_n 1, 1) := by decide +kernel
theorem d_Dc_compare_21 : decode b_Dc_compare 21 = .ok (.getfield 27, 3) := by decide +kernel
theorem d_Dc_compare_24 : decode b_Dc_compare 24 = .ok (.isub, 1) := by decide +kernel
theorem d_Dc_compare_25 : decode b_Dc_compare 25 = .ok (.istore_n 2, 1) := by decide +kernel
theorem d_Dc_compare_26 : decode b_Dc_compare 26 = .ok (.iload_n 2, 1) := by decide +kernel
theorem d_Dc_compare_27 : decode b_Dc_compare 27 = .ok (.ifCond .ne 17, 3) := by decide +kernel
theorem d_Dc_compare_30 : decode b_Dc_compare 30 = .ok (.aload_n 0, 1) := by decide +kernel
theorem d_Dc_compare_31 : decode b_Dc_compare 31 = .ok (.getfield 20, 3) := by decide +kernel
theorem d_Dc_compare_34 : decode b_Dc_compare 34 = .ok (.aload_n 1, 1) := by decide +kernel
theorem d_Dc_compare_35 : decode b_Dc_compare 35 = .ok (.getfield 20, 3) := by decide +kernel
theorem d_Dc_compare_38 : decode b_Dc_compare 38 = .ok (.invokevirtual 34, 3) := by decide +kernel
theorem d_Dc_compare_41 : decode b_Dc_compare 41 = .ok (.goto 4, 3) := by decide +kernel
theorem d_Dc_compare_44 : decode b_Dc_compare 44 = .ok (.iload_n 2, 1) := by decide +kernel
theorem d_Dc_compare_45 : decode b_Dc_compare 45 = .ok (.ireturn, 1) := by decide +kernel
theorem d_Rw_compare_0 : decode b_Rw_compare 0 = .ok (.iconst 0, 1) := by decide +kernel
theorem d_Rw_compare_1 : decode b_Rw_compare 1 = .ok (.istore_n 2, 1) := by decide +kernel
theorem d_Rw_compare_2 : decode b_Rw_compare 2 = .ok (.iload_n 2, 1) := by decide +kernel
theorem d_Rw_compare_3 : decode b_Rw_compare 3 = .ok (.aload_n 0, 1) := by decide +kernel
theorem d_Rw_compare_4 : decode b_Rw_compare 4 = .ok (.getfield 15, 3) := by decide +kernel
theorem d_Rw_compare_7 : decode b_Rw_compare 7 = .ok (.if_icmp .ge 46, 3) := by decide +kernel
theorem d_Rw_compare_10 : decode b_Rw_compare 10 = .ok (.iload_n 2, 1) := by decide +kernel
theorem d_Rw_compare_11 : decode b_Rw_compare 11 = .ok (.aload_n 1, 1) := by decide +kernel
theorem d_Rw_compare_12 : decode b_Rw_compare 12 = .ok (.getfield 15, 3) := by decide +kernel
theorem d_Rw_compare_15 : decode b_Rw_compare 15 = .ok (.if_icmp .ge 38, 3) := by decide +kernel
theorem d_Rw_compare_18 : decode b_Rw_compare 18 = .ok (.aload_n 0, 1) := by decide +kernel
theorem d_Rw_compare_19 : decode b_Rw_compare 19 = .ok (.getfield 9, 3) := by decide +kernel
theorem d_Rw_compare_22 : decode b_Rw_compare 22 = .ok (.iload_n 2, 1) := by decide +kernel
theorem d_Rw_compare_23 : decode b_Rw_compare 23 = .ok (.caload, 1) := by decide +kernel
theorem d_Rw_compare_24 : decode b_Rw_compare 24 = .ok (.aload_n 1, 1) := by decide +kernel
theorem d_Rw_compare_25 : decode b_Rw_compare 25 = .ok (.getfield 9, 3) := by decide +kernel
theorem d_Rw_compare_28 : decode b_Rw_compare 28 = .ok (.iload_n 2, 1) := by decide +kernel
theorem d_Rw_compare_29 : decode b_Rw_compare 29 = .ok (.caload, 1) := by decide +kernel
theorem d_Rw_compare_30 : decode b_Rw_compare 30 = .ok (.if_icmp .eq 17, 3) := by decide +kernel
theorem d_Rw_compare_33 : decode b_Rw_compare 33 = .ok (.aload_n 0, 1) := by decide +kernel
theorem d_Rw_compare_34 : decode b_Rw_compare 34 = .ok (.getfield 9, 3) := by decide +kernel
theorem d_Rw_compare_37 : decode b_Rw_compare 37 = .ok (.iload_n 2, 1) := by decide +kernel
theorem d_Rw_compare_38 : decode b_Rw_compare 38 = .ok (.caload, 1) := by decide +kernel
theorem d_Rw_compare_39 : decode b_Rw_compare 39 = .ok (.aload_n 1, 1) := by decide +kernel
theorem d_Rw_compare_40 : decode b_Rw_compare 40 = .ok (.getfield 9, 3) := by decide +kernel
theorem d_Rw_compare_43 : decode b_Rw_compare 43 = .ok (.iload_n 2, 1) := by decide +kernel
theorem d_Rw_compare_44 : decode b_Rw_compare 44 = .ok (.caload, 1) := by decide +kernel
theorem d_Rw_compare_45 : decode b_Rw_compare 45 = .ok (.isub, 1) := by decide +kernel
theorem d_Rw_compare_46 : decode b_Rw_compare 46 = .ok (.ireturn, 1) := by decide +kernel
theorem d_Rw_compare_47 : decode b_Rw_compare 47 = .ok (.iinc 2 1, 3) := by decide +kernel
theorem d_Rw_compare_50 : decode b_Rw_compare 50 = .ok (.goto (-48), 3) := by decide +kernel
theorem d_Rw_compare_53 : decode b_Rw_compare 53 = .ok (.aload_n 0, 1) := by decide +kernel
theorem d_Rw_compare_54 : decode b_Rw_compare 54 = .ok (.getfield 15, 3) := by decide +kernel
theorem d_Rw_compare_57 : decode b_Rw_compare 57 = .ok (.aload_n 1, 1) := by decide +kernel
theorem d_Rw_compare_58 : decode b_Rw_compare 58 = .ok (.getfield 15, 3) := by decide +kernel
theorem d_Rw_compare_61 : decode b_Rw_compare 61 = .ok (.isub, 1) := by decide +kernel
theorem d_Rw_compare_62 : decode b_Rw_compare 62 = .ok (.ireturn, 1) := by decide +kernel
theorem d_Dc_copy_0 : decode b_Dc_copy 0 = .ok (.aload_n 0, 1) := by decide +kernel
theorem d_Dc_copy_1 : decode b_Dc_copy 1 = .ok (.getfield 14, 3) := by decide +kernel
theorem d_Dc_copy_4 : decode b_Dc_copy 4 = .ok (.aload_n 1, 1) := by decide +kernel
theorem d_Dc_copy_5 : decode b_Dc_copy 5 = .ok (.getfield 14, 3) := by decide +kernel
theorem d_Dc_copy_8 : decode b_Dc_copy 8 = .ok (.invokevirtual 23, 3) := by decide +kernel
theorem d_Dc_copy_11 : decode b_Dc_copy 11 = .ok (.aload_n 0, 1) := by decide +kernel
theorem d_Dc_copy_12 : decode b_Dc_copy 12 = .ok (.getfield 20, 3) := by decide +kernel
theorem d_Dc_copy_15 : decode b_Dc_copy 15 = .ok (.aload_n 1, 1) := by decide +kernel
theorem d_Dc_copy_16 : decode b_Dc_copy 16 = .ok (.getfield 20, 3) := by decide +kernel
theorem d_Dc_copy_19 : decode b_Dc_copy 19 = .ok (.invokevirtual 23, 3) := by decide +kernel
theorem d_Dc_copy_22 : decode b_Dc_copy 22 = .ok (.aload_n 0, 1) := by decide +kernel
theorem d_Dc_copy_23 : decode b_Dc_copy 23 = .ok (.aload_n 1, 1) := by decide +kernel
theorem d_Dc_copy_24 : decode b_Dc_copy 24 = .ok (.getfield 27, 3) := by decide +kernel
theorem d_Dc_copy_27 : decode b_Dc_copy 27 = .ok (.putfield 27, 3) := by decide +kernel
theorem d_Dc_copy_30 : decode b_Dc_copy 30 = .ok (.aload_n 0, 1) := by decide +kernel
theorem d_Dc_copy_31 : decode b_Dc_copy 31 = .ok (.aload_n 1, 1) := by decide +kernel
theorem d_Dc_copy_32 : decode b_Dc_copy 32 = .ok (.getfield 31, 3) := by decide +kernel
theorem d_Dc_copy_35 : decode b_Dc_copy 35 = .ok (.putfield 31, 3) := by decide +kernel
theorem d_Dc_copy_38 : decode b_Dc_copy 38 = .ok (.return_, 1) := by decide +kernel
theorem d_Rw_copy_0 : decode b_Rw_copy 0 = .ok (.aload_n 0, 1) := by decide +kernel
theorem d_Rw_copy_1 : decode b_Rw_copy 1 = .ok (.invokevirtual 36, 3) := by decide +kernel
theorem d_Rw_copy_4 : decode b_Rw_copy 4 = .ok (.iconst 0, 1) := by decide +kernel
theorem d_Rw_copy_5 : decode b_Rw_copy 5 = .ok (.istore_n 2, 1) := by decide +kernel
theorem d_Rw_copy_6 : decode b_Rw_copy 6 = .ok (.iload_n 2, 1) := by decide +kernel
theorem d_Rw_copy_7 : decode b_Rw_copy 7 = .ok (.aload_n 1, 1) := by decide +kernel
theorem d_Rw_copy_8 : decode b_Rw_copy 8 = .ok (.getfield 15, 3) := by decide +kernel
theorem d_Rw_copy_11 : decode b_Rw_copy 11 = .ok (.if_icmp .ge 19, 3) := by decide +kernel
theorem d_Rw_copy_14 : decode b_Rw_copy 14 = .ok (.aload_n 0, 1) := by decide +kernel
theorem d_Rw_copy_15 : decode b_Rw_copy 15 = .ok (.aload_n 1, 1) := by decide +kernel
theorem d_Rw_copy_16 : decode b_Rw_copy 16 = .ok (.getfield 9, 3) := by decide +kernel
theorem d_Rw_copy_19 : decode b_Rw_copy 19 = .ok (.iload_n 2, 1) := by decide +kernel
theorem d_Rw_copy_20 : decode b_Rw_copy 20 = .ok (.caload, 1) := by decide +kernel
theorem d_Rw_copy_21 : decode b_Rw_copy 21 = .ok (.invokevirtual 32, 3) := by decide +kernel
theorem d_Rw_copy_24 : decode b_Rw_copy 24 = .ok (.iinc 2 1, 3) := by decide +kernel
theorem d_Rw_copy_27 : decode b_Rw_copy 27 = .ok (.goto (-21), 3) := by decide +kernel
theorem d_Rw_copy_30 : decode b_Rw_copy 30 = .ok (.return_, 1) := by decide +kernel
theorem d_Dg_count_0 : decode b_Dg_count 0 = .ok (.aload_n 0, 1) := by decide +kernel
theorem d_Dg_count_1 : decode b_Dg_count 1 = .ok (.getfield 21, 3) := by decide +kernel
theorem d_Dg_count_4 : decode b_Dg_count 4 = .ok (.ireturn, 1) := by decide +kernel
theorem d_Rw_addWord_0 : decode b_Rw_addWord 0 = .ok (.iconst 0, 1) := by decide +kernel
theorem d_Rw_addWord_1 : decode b_Rw_addWord 1 = .ok (.istore_n 2, 1) := by decide +kernel
theorem d_Rw_addWord_2 : decode b_Rw_addWord 2 = .ok (.iload_n 2, 1) := by decide +kernel
theorem d_Rw_addWord_3 : decode b_Rw_addWord 3 = .ok (.aload_n 1, 1) := by decide +kernel
theorem d_Rw_addWord_4 : decode b_Rw_addWord 4 = .ok (.invokevirtual 23, 3) := by decide +kernel
theorem d_Rw_addWord_7 : decode b_Rw_addWord 7 = .ok (.if_icmp .ge 18, 3) := by decide +kernel
theorem d_Rw_addWord_10 : decode b_Rw_addWord 10 = .ok (.aload_n 0, 1) := by decide +kernel
theorem d_Rw_addWord_11 : decode b_Rw_addWord 11 = .ok (.aload_n 1, 1) := by decide +kernel
theorem d_Rw_addWord_12 : decode b_Rw_addWord 12 = .ok (.iload_n 2, 1) := by decide +kernel
theorem d_Rw_addWord_13 : decode b_Rw_addWord 13 = .ok (.invokevirtual 28, 3) := by decide +kernel
theorem d_Rw_addWord_16 : decode b_Rw_addWord 16 = .ok (.invokevirtual 32, 3) := by decide +kernel
theorem d_Rw_addWord_19 : decode b_Rw_addWord 19 = .ok (.iinc 2 1, 3) := by decide +kernel
theorem d_Rw_addWord_22 : decode b_Rw_addWord 22 = .ok (.goto (-20), 3) := by decide +kernel
theorem d_Rw_addWord_25 : decode b_Rw_addWord 25 = .ok (.return_, 1) := by decide +kernel
theorem d_Dc_addLine_0 : decode b_Dc_addLine 0 = .ok (.iload_n 2, 1) := by decide +kernel
theorem d_Dc_addLine_1 : decode b_Dc_addLine 1 = .ok (.ifCond .eq 9, 3) := by decide +kernel
theorem d_Dc_addLine_4 : decode b_Dc_addLine 4 = .ok (.aload_n 1, 1) := by decide +kernel
theorem d_Dc_addLine_5 : decode b_Dc_addLine 5 = .ok (.ldc 45, 2) := by decide +kernel
theorem d_Dc_addLine_7 : decode b_Dc_addLine 7 = .ok (.invokevirtual 47, 3) := by decide +kernel
theorem d_Dc_addLine_10 : decode b_Dc_addLine 10 = .ok (.iconst 0, 1) := by decide +kernel
theorem d_Dc_addLine_11 : decode b_Dc_addLine 11 = .ok (.istore 4, 2) := by decide +kernel
theorem d_Dc_addLine_13 : decode b_Dc_addLine 13 = .ok (.iload 4, 2) := by decide +kernel
theorem d_Dc_addLine_15 : decode b_Dc_addLine 15 = .ok (.iload_n 2, 1) := by decide +kernel
theorem d_Dc_addLine_16 : decode b_Dc_addLine 16 = .ok (.invokestatic 51, 3) := by decide +kernel
theorem d_Dc_addLine_19 : decode b_Dc_addLine 19 = .ok (.if_icmp .ge 38, 3) := by decide +kernel
theorem d_Dc_addLine_22 : decode b_Dc_addLine 22 = .ok (.aload_n 0, 1) := by decide +kernel
theorem d_Dc_addLine_23 : decode b_Dc_addLine 23 = .ok (.getfield 31, 3) := by decide +kernel
theorem d_Dc_addLine_26 : decode b_Dc_addLine 26 = .ok (.iload 4, 2) := by decide +kernel
theorem d_Dc_addLine_28 : decode b_Dc_addLine 28 = .ok (.ishr, 1) := by decide +kernel
theorem d_Dc_addLine_29 : decode b_Dc_addLine 29 = .ok (.iconst 1, 1) := by decide +kernel
theorem d_Dc_addLine_30 : decode b_Dc_addLine 30 = .ok (.iand, 1) := by decide +kernel
theorem d_Dc_addLine_31 : decode b_Dc_addLine 31 = .ok (.iconst 1, 1) := by decide +kernel
theorem d_Dc_addLine_32 : decode b_Dc_addLine 32 = .ok (.if_icmp .ne 19, 3) := by decide +kernel
theorem d_Dc_addLine_35 : decode b_Dc_addLine 35 = .ok (.aload_n 1, 1) := by decide +kernel
theorem d_Dc_addLine_36 : decode b_Dc_addLine 36 = .ok (.iload_n 2, 1) := by decide +kernel
theorem d_Dc_addLine_37 : decode b_Dc_addLine 37 = .ok (.iload 4, 2) := by decide +kernel
theorem d_Dc_addLine_39 : decode b_Dc_addLine 39 = .ok (.invokestatic 56, 3) := by decide +kernel
theorem d_Dc_addLine_42 : decode b_Dc_addLine 42 = .ok (.invokevirtual 47, 3) := by decide +kernel
theorem d_Dc_addLine_45 : decode b_Dc_addLine 45 = .ok (.aload_n 1, 1) := by decide +kernel
theorem d_Dc_addLine_46 : decode b_Dc_addLine 46 = .ok (.bipush 32, 2) := by decide +kernel
theorem d_Dc_addLine_48 : decode b_Dc_addLine 48 = .ok (.invokevirtual 60, 3) := by decide +kernel
theorem d_Dc_addLine_51 : decode b_Dc_addLine 51 = .ok (.iinc 4 1, 3) := by decide +kernel
theorem d_Dc_addLine_54 : decode b_Dc_addLine 54 = .ok (.goto (-41), 3) := by decide +kernel
theorem d_Dc_addLine_57 : decode b_Dc_addLine 57 = .ok (.aload_n 1, 1) := by decide +kernel
theorem d_Dc_addLine_58 : decode b_Dc_addLine 58 = .ok (.iload_n 2, 1) := by decide +kernel
theorem d_Dc_addLine_59 : decode b_Dc_addLine 59 = .ok (.aload_n 0, 1) := by decide +kernel
theorem d_Dc_addLine_60 : decode b_Dc_addLine 60 = .ok (.getfield 27, 3) := by decide +kernel
theorem d_Dc_addLine_63 : decode b_Dc_addLine 63 = .ok (.invokestatic 63, 3) := by decide +kernel
theorem d_Dc_addLine_66 : decode b_Dc_addLine 66 = .ok (.invokevirtual 47, 3) := by decide +kernel
theorem d_Dc_addLine_69 : decode b_Dc_addLine 69 = .ok (.aload_n 1, 1) := by decide +kernel
theorem d_Dc_addLine_70 : decode b_Dc_addLine 70 = .ok (.bipush 32, 2) := by decide +kernel
theorem d_Dc_addLine_72 : decode b_Dc_addLine 72 = .ok (.invokevirtual 60, 3) := by decide +kernel
theorem d_Dc_addLine_75 : decode b_Dc_addLine 75 = .ok (.aload_n 1, 1) := by decide +kernel
theorem d_Dc_addLine_76 : decode b_Dc_addLine 76 = .ok (.aload_n 0, 1) := by decide +kernel
theorem d_Dc_addLine_77 : decode b_Dc_addLine 77 = .ok (.getfield 14, 3) := by decide +kernel
theorem d_Dc_addLine_80 : decode b_Dc_addLine 80 = .ok (.iload_n 3, 1) := by decide +kernel
theorem d_Dc_addLine_81 : decode b_Dc_addLine 81 = .ok (.invokevirtual 65, 3) := by decide +kernel
theorem d_Dc_addLine_84 : decode b_Dc_addLine 84 = .ok (.iload_n 2, 1) := by decide +kernel
theorem d_Dc_addLine_85 : decode b_Dc_addLine 85 = .ok (.ifCond .eq 18, 3) := by decide +kernel
theorem d_Dc_addLine_88 : decode b_Dc_addLine 88 = .ok (.aload_n 1, 1) := by decide +kernel
theorem d_Dc_addLine_89 : decode b_Dc_addLine 89 = .ok (.bipush 32, 2) := by decide +kernel
theorem d_Dc_addLine_91 : decode b_Dc_addLine 91 = .ok (.invokevirtual 60, 3) := by decide +kernel
theorem d_Dc_addLine_94 : decode b_Dc_addLine 94 = .ok (.aload_n 1, 1) := by decide +kernel
theorem d_Dc_addLine_95 : decode b_Dc_addLine 95 = .ok (.aload_n 0, 1) := by decide +kernel
theorem d_Dc_addLine_96 : decode b_Dc_addLine 96 = .ok (.getfield 20, 3) := by decide +kernel
theorem d_Dc_addLine_99 : decode b_Dc_addLine 99 = .ok (.iload_n 3, 1) := by decide +kernel
theorem d_Dc_addLine_100 : decode b_Dc_addLine 100 = .ok (.invokevirtual 65, 3) := by decide +kernel
theorem d_Dc_addLine_103 : decode b_Dc_addLine 103 = .ok (.aload_n 1, 1) := by decide +kernel
theorem d_Dc_addLine_104 : decode b_Dc_addLine 104 = .ok (.bipush 10, 2) := by decide +kernel
theorem d_Dc_addLine_106 : decode b_Dc_addLine 106 = .ok (.invokevirtual 60, 3) := by decide +kernel
theorem d_Dc_addLine_109 : decode b_Dc_addLine 109 = .ok (.return_, 1) := by decide +kernel
theorem d_Rw_addName_0 : decode b_Rw_addName 0 = .ok (.iconst 0, 1) := by decide +kernel
theorem d_Rw_addName_1 : decode b_Rw_addName 1 = .ok (.istore_n 3, 1) := by decide +kernel
theorem d_Rw_addName_2 : decode b_Rw_addName 2 = .ok (.iload_n 3, 1) := by decide +kernel
theorem d_Rw_addName_3 : decode b_Rw_addName 3 = .ok (.aload_n 1, 1) := by decide +kernel
theorem d_Rw_addName_4 : decode b_Rw_addName 4 = .ok (.getfield 15, 3) := by decide +kernel
theorem d_Rw_addName_7 : decode b_Rw_addName 7 = .ok (.if_icmp .ge 41, 3) := by decide +kernel
theorem d_Rw_addName_10 : decode b_Rw_addName 10 = .ok (.iload_n 2, 1) := by decide +kernel
theorem d_Rw_addName_11 : decode b_Rw_addName 11 = .ok (.iconst 1, 1) := by decide +kernel
theorem d_Rw_addName_12 : decode b_Rw_addName 12 = .ok (.if_icmp .ne 20, 3) := by decide +kernel
theorem d_Rw_addName_15 : decode b_Rw_addName 15 = .ok (.aload_n 1, 1) := by decide +kernel
theorem d_Rw_addName_16 : decode b_Rw_addName 16 = .ok (.getfield 9, 3) := by decide +kernel
theorem d_Rw_addName_19 : decode b_Rw_addName 19 = .ok (.iload_n 3, 1) := by decide +kernel
theorem d_Rw_addName_20 : decode b_Rw_addName 20 = .ok (.caload, 1) := by decide +kernel
theorem d_Rw_addName_21 : decode b_Rw_addName 21 = .ok (.bipush 36, 2) := by decide +kernel
theorem d_Rw_addName_23 : decode b_Rw_addName 23 = .ok (.if_icmp .ne 9, 3) := by decide +kernel
theorem d_Rw_addName_26 : decode b_Rw_addName 26 = .ok (.aload_n 0, 1) := by decide +kernel
theorem d_Rw_addName_27 : decode b_Rw_addName 27 = .ok (.bipush 37, 2) := by decide +kernel
theorem d_Rw_addName_29 : decode b_Rw_addName 29 = .ok (.invokevirtual 32, 3) := by decide +kernel
theorem d_Rw_addName_32 : decode b_Rw_addName 32 = .ok (.aload_n 0, 1) := by decide +kernel
theorem d_Rw_addName_33 : decode b_Rw_addName 33 = .ok (.aload_n 1, 1) := by decide +kernel
theorem d_Rw_addName_34 : decode b_Rw_addName 34 = .ok (.getfield 9, 3) := by decide +kernel
theorem d_Rw_addName_37 : decode b_Rw_addName 37 = .ok (.iload_n 3, 1) := by decide +kernel
theorem d_Rw_addName_38 : decode b_Rw_addName 38 = .ok (.caload, 1) := by decide +kernel
theorem d_Rw_addName_39 : decode b_Rw_addName 39 = .ok (.invokevirtual 32, 3) := by decide +kernel
theorem d_Rw_addName_42 : decode b_Rw_addName 42 = .ok (.iinc 3 1, 3) := by decide +kernel
theorem d_Rw_addName_45 : decode b_Rw_addName 45 = .ok (.goto (-43), 3) := by decide +kernel
theorem d_Rw_addName_48 : decode b_Rw_addName 48 = .ok (.return_, 1) := by decide +kernel
theorem d_Dg_kept_0 : decode b_Dg_kept 0 = .ok (.aload_n 0, 1) := by decide +kernel
theorem d_Dg_kept_1 : decode b_Dg_kept 1 = .ok (.getfield 21, 3) := by decide +kernel
theorem d_Dg_kept_4 : decode b_Dg_kept 4 = .ok (.bipush 20, 2) := by decide +kernel
theorem d_Dg_kept_6 : decode b_Dg_kept 6 = .ok (.invokestatic 25, 3) := by decide +kernel
theorem d_Dg_kept_9 : decode b_Dg_kept 9 = .ok (.ireturn, 1) := by decide +kernel
theorem d_Dc_isSame_0 : decode b_Dc_isSame 0 = .ok (.aload_n 0, 1) := by decide +kernel
theorem d_Dc_isSame_1 : decode b_Dc_isSame 1 = .ok (.getfield 31, 3) := by decide +kernel
theorem d_Dc_isSame_4 : decode b_Dc_isSame 4 = .ok (.aload_n 1, 1) := by decide +kernel
theorem d_Dc_isSame_5 : decode b_Dc_isSame 5 = .ok (.getfield 31, 3) := by decide +kernel
theorem d_Dc_isSame_8 : decode b_Dc_isSame 8 = .ok (.if_icmp .ne 15, 3) := by decide +kernel
theorem d_Dc_isSame_11 : decode b_Dc_isSame 11 = .ok (.aload_n 0, 1) := by decide +kernel
theorem d_Dc_isSame_12 : decode b_Dc_isSame 12 = .ok (.aload_n 1, 1) := by decide +kernel
theorem d_Dc_isSame_13 : decode b_Dc_isSame 13 = .ok (.invokevirtual 38, 3) := by decide +kernel
theorem d_Dc_isSame_16 : decode b_Dc_isSame 16 = .ok (.ifCond .ne 7, 3) := by decide +kernel
theorem d_Dc_isSame_19 : decode b_Dc_isSame 19 = .ok (.iconst 1, 1) := by decide +kernel
theorem d_Dc_isSame_20 : decode b_Dc_isSame 20 = .ok (.goto 4, 3) := by decide +kernel
theorem d_Dc_isSame_23 : decode b_Dc_isSame 23 = .ok (.iconst 0, 1) := by decide +kernel
theorem d_Dc_isSame_24 : decode b_Dc_isSame 24 = .ok (.ireturn, 1) := by decide +kernel
theorem d_Dc_isFormatFree_0 : decode b_Dc_isFormatFree 0 = .ok (.aload_n 0, 1) := by decide +kernel
theorem d_Dc_isFormatFree_1 : decode b_Dc_isFormatFree 1 = .ok (.getfield 14, 3) := by decide +kernel
theorem d_Dc_isFormatFree_4 : decode b_Dc_isFormatFree 4 = .ok (.bipush 36, 2) := by decide +kernel
theorem d_Dc_isFormatFree_6 : decode b_Dc_isFormatFree 6 = .ok (.invokevirtual 41, 3) := by decide +kernel
theorem d_Dc_isFormatFree_9 : decode b_Dc_isFormatFree 9 = .ok (.ifCond .ne 19, 3) := by decide +kernel
theorem d_Dc_isFormatFree_12 : decode b_Dc_isFormatFree 12 = .ok (.aload_n 0, 1) := by decide +kernel
theorem d_Dc_isFormatFree_13 : decode b_Dc_isFormatFree 13 = .ok (.getfield 20, 3) := by decide +kernel
theorem d_Dc_isFormatFree_16 : decode b_Dc_isFormatFree 16 = .ok (.bipush 36, 2) := by decide +kernel
theorem d_Dc_isFormatFree_18 : decode b_Dc_isFormatFree 18 = .ok (.invokevirtual 41, 3) := by decide +kernel
theorem d_Dc_isFormatFree_21 : decode b_Dc_isFormatFree 21 = .ok (.ifCond .ne 7, 3) := by decide +kernel
theorem d_Dc_isFormatFree_24 : decode b_Dc_isFormatFree 24 = .ok (.iconst 1, 1) := by decide +kernel
theorem d_Dc_isFormatFree_25 : decode b_Dc_isFormatFree 25 = .ok (.goto 4, 3) := by decide +kernel
theorem d_Dc_isFormatFree_28 : decode b_Dc_isFormatFree 28 = .ok (.iconst 0, 1) := by decide +kernel
theorem d_Dc_isFormatFree_29 : decode b_Dc_isFormatFree 29 = .ok (.ireturn, 1) := by decide +kernel
theorem d_Rw_contains_0 : decode b_Rw_contains 0 = .ok (.iconst 0, 1) := by decide +kernel
theorem d_Rw_contains_1 : decode b_Rw_contains 1 = .ok (.istore_n 2, 1) := by decide +kernel
theorem d_Rw_contains_2 : decode b_Rw_contains 2 = .ok (.iload_n 2, 1) := by decide +kernel
theorem d_Rw_contains_3 : decode b_Rw_contains 3 = .ok (.aload_n 0, 1) := by decide +kernel
theorem d_Rw_contains_4 : decode b_Rw_contains 4 = .ok (.getfield 15, 3) := by decide +kernel
theorem d_Rw_contains_7 : decode b_Rw_contains 7 = .ok (.if_icmp .ge 21, 3) := by decide +kernel
theorem d_Rw_contains_10 : decode b_Rw_contains 10 = .ok (.aload_n 0, 1) := by decide +kernel
theorem d_Rw_contains_11 : decode b_Rw_contains 11 = .ok (.getfield 9, 3) := by decide +kernel
theorem d_Rw_contains_14 : decode b_Rw_contains 14 = .ok (.iload_n 2, 1) := by decide +kernel
theorem d_Rw_contains_15 : decode b_Rw_contains 15 = .ok (.caload, 1) := by decide +kernel
theorem d_Rw_contains_16 : decode b_Rw_contains 16 = .ok (.iload_n 1, 1) := by decide +kernel
theorem d_Rw_contains_17 : decode b_Rw_contains 17 = .ok (.if_icmp .ne 5, 3) := by decide +kernel
theorem d_Rw_contains_20 : decode b_Rw_contains 20 = .ok (.iconst 1, 1) := by decide +kernel
theorem d_Rw_contains_21 : decode b_Rw_contains 21 = .ok (.ireturn, 1) := by decide +kernel
theorem d_Rw_contains_22 : decode b_Rw_contains 22 = .ok (.iinc 2 1, 3) := by decide +kernel
theorem d_Rw_contains_25 : decode b_Rw_contains 25 = .ok (.goto (-23), 3) := by decide +kernel
theorem d_Rw_contains_28 : decode b_Rw_contains 28 = .ok (.iconst 0, 1) := by decide +kernel
theorem d_Rw_contains_29 : decode b_Rw_contains 29 = .ok (.ireturn, 1) := by decide +kernel
end
section
theorem d_Bl_init_0 : decode b_Bl_init 0 = .ok (.aload_n 0, 1) := by decide +kernel
theorem d_Bl_init_1 : decode b_Bl_init 1 = .ok (.invokespecial 3, 3) := by decide +kernel
theorem d_Bl_init_4 : decode b_Bl_init 4 = .ok (.aload_n 0, 1) := by decide +kernel
theorem d_Bl_init_5 : decode b_Bl_init 5 = .ok (.new 9, 3) := by decide +kernel
theorem d_Bl_init_8 : decode b_Bl_init 8 = .ok (.dup, 1) := by decide +kernel
theorem d_Bl_init_9 : decode b_Bl_init 9 = .ok (.bipush 12, 2) := by decide +kernel
theorem d_Bl_init_11 : decode b_Bl_init 11 = .ok (.invokespecial 11, 3) := by decide +kernel
theorem d_Bl_init_14 : decode b_Bl_init 14 = .ok (.putfield 14, 3) := by decide +kernel
theorem d_Bl_init_17 : decode b_Bl_init 17 = .ok (.aload_n 0, 1) := by decide +kernel
theorem d_Bl_init_18 : decode b_Bl_init 18 = .ok (.iconst 2, 1) := by decide +kernel
theorem d_Bl_init_19 : decode b_Bl_init 19 = .ok (.putfield 20, 3) := by decide +kernel
theorem d_Bl_init_22 : decode b_Bl_init 22 = .ok (.return_, 1) := by decide +kernel
theorem d_Sf_init_0 : decode b_Sf_init 0 = .ok (.aload_n 0, 1) := by decide +kernel
theorem d_Sf_init_1 : decode b_Sf_init 1 = .ok (.invokespecial 1, 3) := by decide +kernel
theorem d_Sf_init_4 : decode b_Sf_init 4 = .ok (.aload_n 0, 1) := by decide +kernel
theorem d_Sf_init_5 : decode b_Sf_init 5 = .ok (.new 7, 3) := by decide +kernel
theorem d_Sf_init_8 : decode b_Sf_init 8 = .ok (.dup, 1) := by decide +kernel
theorem d_Sf_init_9 : decode b_Sf_init 9 = .ok (.invokespecial 9, 3) := by decide +kernel
theorem d_Sf_init_12 : decode b_Sf_init 12 = .ok (.putfield 10, 3) := by decide +kernel
theorem d_Sf_init_15 : decode b_Sf_init 15 = .ok (.aload_n 0, 1) := by decide +kernel
theorem d_Sf_init_16 : decode b_Sf_init 16 = .ok (.iload_n 1, 1) := by decide +kernel
theorem d_Sf_init_17 : decode b_Sf_init 17 = .ok (.putfield 16, 3) := by decide +kernel
theorem d_Sf_init_20 : decode b_Sf_init 20 = .ok (.return_, 1) := by decide +kernel
theorem d_Bl_empty_0 : decode b_Bl_empty 0 = .ok (.aload_n 0, 1) := by decide +kernel
theorem d_Bl_empty_1 : decode b_Bl_empty 1 = .ok (.getfield 14, 3) := by decide +kernel
theorem d_Bl_empty_4 : decode b_Bl_empty 4 = .ok (.invokevirtual 24, 3) := by decide +kernel
theorem d_Bl_empty_7 : decode b_Bl_empty 7 = .ok (.aload_n 0, 1) := by decide +kernel
theorem d_Bl_empty_8 : decode b_Bl_empty 8 = .ok (.iconst 2, 1) := by decide +kernel
theorem d_Bl_empty_9 : decode b_Bl_empty 9 = .ok (.putfield 20, 3) := by decide +kernel
theorem d_Bl_empty_12 : decode b_Bl_empty 12 = .ok (.return_, 1) := by decide +kernel
theorem d_Sf_empty_0 : decode b_Sf_empty 0 = .ok (.aload_n 0, 1) := by decide +kernel
theorem d_Sf_empty_1 : decode b_Sf_empty 1 = .ok (.iconst 0, 1) := by decide +kernel
theorem d_Sf_empty_2 : decode b_Sf_empty 2 = .ok (.putfield 20, 3) := by decide +kernel
theorem d_Sf_empty_5 : decode b_Sf_empty 5 = .ok (.return_, 1) := by decide +kernel
theorem d_Ln_init_0 : decode b_Ln_init 0 = .ok (.aload_n 0, 1) := by decide +kernel
theorem d_Ln_init_1 : decode b_Ln_init 1 = .ok (.invokespecial 3, 3) := by decide +kernel
theorem d_Ln_init_4 : decode b_Ln_init 4 = .ok (.aload_n 0, 1) := by decide +kernel
theorem d_Ln_init_5 : decode b_Ln_init 5 = .ok (.aload_n 1, 1) := by decide +kernel
theorem d_Ln_init_6 : decode b_Ln_init 6 = .ok (.putfield 9, 3) := by decide +kernel
theorem d_Ln_init_9 : decode b_Ln_init 9 = .ok (.return_, 1) := by decide +kernel
theorem d_Ln_frame_0 : decode b_Ln_frame 0 = .ok (.aload_n 0, 1) := by decide +kernel
theorem d_Ln_frame_1 : decode b_Ln_frame 1 = .ok (.iload_n 1, 1) := by decide +kernel
theorem d_Ln_frame_2 : decode b_Ln_frame 2 = .ok (.putfield 15, 3) := by decide +kernel
theorem d_Ln_frame_5 : decode b_Ln_frame 5 = .ok (.aload_n 0, 1) := by decide +kernel
theorem d_Ln_frame_6 : decode b_Ln_frame 6 = .ok (.iload_n 2, 1) := by decide +kernel
theorem d_Ln_frame_7 : decode b_Ln_frame 7 = .ok (.putfield 19, 3) := by decide +kernel
theorem d_Ln_frame_10 : decode b_Ln_frame 10 = .ok (.aload_n 0, 1) := by decide +kernel
theorem d_Ln_frame_11 : decode b_Ln_frame 11 = .ok (.getfield 19, 3) := by decide +kernel
theorem d_Ln_frame_14 : decode b_Ln_frame 14 = .ok (.aload_n 0, 1) := by decide +kernel
theorem d_Ln_frame_15 : decode b_Ln_frame 15 = .ok (.getfield 15, 3) := by decide +kernel
theorem d_Ln_frame_18 : decode b_Ln_frame 18 = .ok (.if_icmp .le 34, 3) := by decide +kernel
theorem d_Ln_frame_21 : decode b_Ln_frame 21 = .ok (.aload_n 0, 1) := by decide +kernel
theorem d_Ln_frame_22 : decode b_Ln_frame 22 = .ok (.getfield 9, 3) := by decide +kernel
theorem d_Ln_frame_25 : decode b_Ln_frame 25 = .ok (.aload_n 0, 1) := by decide +kernel
theorem d_Ln_frame_26 : decode b_Ln_frame 26 = .ok (.getfield 19, 3) := by decide +kernel
theorem d_Ln_frame_29 : decode b_Ln_frame 29 = .ok (.iconst 1, 1) := by decide +kernel
theorem d_Ln_frame_30 : decode b_Ln_frame 30 = .ok (.isub, 1) := by decide +kernel
theorem d_Ln_frame_31 : decode b_Ln_frame 31 = .ok (.invokevirtual 22, 3) := by decide +kernel
theorem d_Ln_frame_34 : decode b_Ln_frame 34 = .ok (.bipush 32, 2) := by decide +kernel
theorem d_Ln_frame_36 : decode b_Ln_frame 36 = .ok (.if_icmp .ne 16, 3) := by decide +kernel
theorem d_Ln_frame_39 : decode b_Ln_frame 39 = .ok (.aload_n 0, 1) := by decide +kernel
theorem d_Ln_frame_40 : decode b_Ln_frame 40 = .ok (.dup, 1) := by decide +kernel
theorem d_Ln_frame_41 : decode b_Ln_frame 41 = .ok (.getfield 19, 3) := by decide +kernel
theorem d_Ln_frame_44 : decode b_Ln_frame 44 = .ok (.iconst 1, 1) := by decide +kernel
theorem d_Ln_frame_45 : decode b_Ln_frame 45 = .ok (.isub, 1) := by decide +kernel
theorem d_Ln_frame_46 : decode b_Ln_frame 46 = .ok (.putfield 19, 3) := by decide +kernel
theorem d_Ln_frame_49 : decode b_Ln_frame 49 = .ok (.goto (-39), 3) := by decide +kernel
theorem d_Ln_frame_52 : decode b_Ln_frame 52 = .ok (.aload_n 0, 1) := by decide +kernel
theorem d_Ln_frame_53 : decode b_Ln_frame 53 = .ok (.invokevirtual 28, 3) := by decide +kernel
theorem d_Ln_frame_56 : decode b_Ln_frame 56 = .ok (.return_, 1) := by decide +kernel
theorem d_Ln_toFirstWord_0 : decode b_Ln_toFirstWord 0 = .ok (.aload_n 0, 1) := by decide +kernel
theorem d_Ln_toFirstWord_1 : decode b_Ln_toFirstWord 1 = .ok (.aload_n 0, 1) := by decide +kernel
theorem d_Ln_toFirstWord_2 : decode b_Ln_toFirstWord 2 = .ok (.getfield 15, 3) := by decide +kernel
theorem d_Ln_toFirstWord_5 : decode b_Ln_toFirstWord 5 = .ok (.putfield 31, 3) := by decide +kernel
theorem d_Ln_toFirstWord_8 : decode b_Ln_toFirstWord 8 = .ok (.aload_n 0, 1) := by decide +kernel
theorem d_Ln_toFirstWord_9 : decode b_Ln_toFirstWord 9 = .ok (.invokevirtual 34, 3) := by decide +kernel
theorem d_Ln_toFirstWord_12 : decode b_Ln_toFirstWord 12 = .ok (.return_, 1) := by decide +kernel
theorem d_Ln_toNextWord_0 : decode b_Ln_toNextWord 0 = .ok (.aload_n 0, 1) := by decide +kernel
theorem d_Ln_toNextWord_1 : decode b_Ln_toNextWord 1 = .ok (.aload_n 0, 1) := by decide +kernel
theorem d_Ln_toNextWord_2 : decode b_Ln_toNextWord 2 = .ok (.getfield 31, 3) := by decide +kernel
theorem d_Ln_toNextWord_5 : decode b_Ln_toNextWord 5 = .ok (.putfield 37, 3) := by decide +kernel
theorem d_Ln_toNextWord_8 : decode b_Ln_toNextWord 8 = .ok (.aload_n 0, 1) := by decide +kernel
theorem d_Ln_toNextWord_9 : decode b_Ln_toNextWord 9 = .ok (.getfield 37, 3) := by decide +kernel
theorem d_Ln_toNextWord_12 : decode b_Ln_toNextWord 12 = .ok (.aload_n 0, 1) := by decide +kernel
theorem d_Ln_toNextWord_13 : decode b_Ln_toNextWord 13 = .ok (.getfield 19, 3) := by decide +kernel
theorem d_Ln_toNextWord_16 : decode b_Ln_toNextWord 16 = .ok (.if_icmp .ge 32, 3) := by decide +kernel
theorem d_Ln_toNextWord_19 : decode b_Ln_toNextWord 19 = .ok (.aload_n 0, 1) := by decide +kernel
theorem d_Ln_toNextWord_20 : decode b_Ln_toNextWord 20 = .ok (.getfield 9, 3) := by decide +kernel
theorem d_Ln_toNextWord_23 : decode b_Ln_toNextWord 23 = .ok (.aload_n 0, 1) := by decide +kernel
theorem d_Ln_toNextWord_24 : decode b_Ln_toNextWord 24 = .ok (.getfield 37, 3) := by decide +kernel
theorem d_Ln_toNextWord_27 : decode b_Ln_toNextWord 27 = .ok (.invokevirtual 22, 3) := by decide +kernel
theorem d_Ln_toNextWord_30 : decode b_Ln_toNextWord 30 = .ok (.bipush 32, 2) := by decide +kernel
theorem d_Ln_toNextWord_32 : decode b_Ln_toNextWord 32 = .ok (.if_icmp .ne 16, 3) := by decide +kernel
theorem d_Ln_toNextWord_35 : decode b_Ln_toNextWord 35 = .ok (.aload_n 0, 1) := by decide +kernel
theorem d_Ln_toNextWord_36 : decode b_Ln_toNextWord 36 = .ok (.dup, 1) := by decide +kernel
theorem d_Ln_toNextWord_37 : decode b_Ln_toNextWord 37 = .ok (.getfield 37, 3) := by decide +kernel
theorem d_Ln_toNextWord_40 : decode b_Ln_toNextWord 40 = .ok (.iconst 1, 1) := by decide +kernel
theorem d_Ln_toNextWord_41 : decode b_Ln_toNextWord 41 = .ok (.iadd, 1) := by decide +kernel
theorem d_Ln_toNextWord_42 : decode b_Ln_toNextWord 42 = .ok (.putfield 37, 3) := by decide +kernel
theorem d_Ln_toNextWord_45 : decode b_Ln_toNextWord 45 = .ok (.goto (-37), 3) := by decide +kernel
theorem d_Ln_toNextWord_48 : decode b_Ln_toNextWord 48 = .ok (.aload_n 0, 1) := by decide +kernel
theorem d_Ln_toNextWord_49 : decode b_Ln_toNextWord 49 = .ok (.aload_n 0, 1) := by decide +kernel
theorem d_Ln_toNextWord_50 : decode b_Ln_toNextWord 50 = .ok (.getfield 37, 3) := by decide +kernel
theorem d_Ln_toNextWord_53 : decode b_Ln_toNextWord 53 = .ok (.putfield 31, 3) := by decide +kernel
theorem d_Ln_toNextWord_56 : decode b_Ln_toNextWord 56 = .ok (.aload_n 0, 1) := by decide +kernel
theorem d_Ln_toNextWord_57 : decode b_Ln_toNextWord 57 = .ok (.getfield 31, 3) := by decide +kernel
theorem d_Ln_toNextWord_60 : decode b_Ln_toNextWord 60 = .ok (.aload_n 0, 1) := by decide +kernel
theorem d_Ln_toNextWord_61 : decode b_Ln_toNextWord 61 = .ok (.getfield 19, 3) := by decide +kernel
theorem d_Ln_toNextWord_64 : decode b_Ln_toNextWord 64 = .ok (.if_icmp .ge 32, 3) := by decide +kernel
theorem d_Ln_toNextWord_67 : decode b_Ln_toNextWord 67 = .ok (.aload_n 0, 1) := by decide +kernel
theorem d_Ln_toNextWord_68 : decode b_Ln_toNextWord 68 = .ok (.getfield 9, 3) := by decide +kernel
theorem d_Ln_toNextWord_71 : decode b_Ln_toNextWord 71 = .ok (.aload_n 0, 1) := by decide +kernel
theorem d_Ln_toNextWord_72 : decode b_Ln_toNextWord 72 = .ok (.getfield 31, 3) := by decide +kernel
theorem d_Ln_toNextWord_75 : decode b_Ln_toNextWord 75 = .ok (.invokevirtual 22, 3) := by decide +kernel
theorem d_Ln_toNextWord_78 : decode b_Ln_toNextWord 78 = .ok (.bipush 32, 2) := by decide +kernel
theorem d_Ln_toNextWord_80 : decode b_Ln_toNextWord 80 = .ok (.if_icmp .eq 16, 3) := by decide +kernel
theorem d_Ln_toNextWord_83 : decode b_Ln_toNextWord 83 = .ok (.aload_n 0, 1) := by decide +kernel
theorem d_Ln_toNextWord_84 : decode b_Ln_toNextWord 84 = .ok (.dup, 1) := by decide +kernel
theorem d_Ln_toNextWord_85 : decode b_Ln_toNextWord 85 = .ok (.getfield 31, 3) := by decide +kernel
theorem d_Ln_toNextWord_88 : decode b_Ln_toNextWord 88 = .ok (.iconst 1, 1) := by decide +kernel
theorem d_Ln_toNextWord_89 : decode b_Ln_toNextWord 89 = .ok (.iadd, 1) := by decide +kernel
theorem d_Ln_toNextWord_90 : decode b_Ln_toNextWord 90 = .ok (.putfield 31, 3) := by decide +kernel
theorem d_Ln_toNextWord_93 : decode b_Ln_toNextWord 93 = .ok (.goto (-37), 3) := by decide +kernel
theorem d_Ln_toNextWord_96 : decode b_Ln_toNextWord 96 = .ok (.return_, 1) := by decide +kernel
theorem d_Ln_isSkipped_0 : decode b_Ln_isSkipped 0 = .ok (.aload_n 0, 1) := by decide +kernel
theorem d_Ln_isSkipped_1 : decode b_Ln_isSkipped 1 = .ok (.invokevirtual 40, 3) := by decide +kernel
theorem d_Ln_isSkipped_4 : decode b_Ln_isSkipped 4 = .ok (.ifCond .eq 19, 3) := by decide +kernel
theorem d_Ln_isSkipped_7 : decode b_Ln_isSkipped 7 = .ok (.aload_n 0, 1) := by decide +kernel
theorem d_Ln_isSkipped_8 : decode b_Ln_isSkipped 8 = .ok (.getfield 9, 3) := by decide +kernel
theorem d_Ln_isSkipped_11 : decode b_Ln_isSkipped 11 = .ok (.aload_n 0, 1) := by decide +kernel
theorem d_Ln_isSkipped_12 : decode b_Ln_isSkipped 12 = .ok (.getfield 37, 3) := by decide +kernel
theorem d_Ln_isSkipped_15 : decode b_Ln_isSkipped 15 = .ok (.invokevirtual 22, 3) := by decide +kernel
theorem d_Ln_isSkipped_18 : decode b_Ln_isSkipped 18 = .ok (.bipush 33, 2) := by decide +kernel
theorem d_Ln_isSkipped_20 : decode b_Ln_isSkipped 20 = .ok (.if_icmp .ne 7, 3) := by decide +kernel
theorem d_Ln_isSkipped_23 : decode b_Ln_isSkipped 23 = .ok (.iconst 1, 1) := by decide +kernel
theorem d_Ln_isSkipped_24 : decode b_Ln_isSkipped 24 = .ok (.goto 4, 3) := by decide +kernel
theorem d_Ln_isSkipped_27 : decode b_Ln_isSkipped 27 = .ok (.iconst 0, 1) := by decide +kernel
theorem d_Ln_isSkipped_28 : decode b_Ln_isSkipped 28 = .ok (.ireturn, 1) := by decide +kernel
theorem d_Ln_hasWord_0 : decode b_Ln_hasWord 0 = .ok (.aload_n 0, 1) := by decide +kernel
theorem d_Ln_hasWord_1 : decode b_Ln_hasWord 1 = .ok (.getfield 37, 3) := by decide +kernel
theorem d_Ln_hasWord_4 : decode b_Ln_hasWord 4 = .ok (.aload_n 0, 1) := by decide +kernel
theorem d_Ln_hasWord_5 : decode b_Ln_hasWord 5 = .ok (.getfield 31, 3) := by decide +kernel
theorem d_Ln_hasWord_8 : decode b_Ln_hasWord 8 = .ok (.if_icmp .ge 7, 3) := by decide +kernel
theorem d_Ln_hasWord_11 : decode b_Ln_hasWord 11 = .ok (.iconst 1, 1) := by decide +kernel
theorem d_Ln_hasWord_12 : decode b_Ln_hasWord 12 = .ok (.goto 4, 3) := by decide +kernel
theorem d_Ln_hasWord_15 : decode b_Ln_hasWord 15 = .ok (.iconst 0, 1) := by decide +kernel
theorem d_Ln_hasWord_16 : decode b_Ln_hasWord 16 = .ok (.ireturn, 1) := by decide +kernel
theorem d_Ln_isAt_0 : decode b_Ln_isAt 0 = .ok (.aload_n 0, 1) := by decide +kernel
theorem d_Ln_isAt_1 : decode b_Ln_isAt 1 = .ok (.getfield 31, 3) := by decide +kernel
theorem d_Ln_isAt_4 : decode b_Ln_isAt 4 = .ok (.aload_n 0, 1) := by decide +kernel
theorem d_Ln_isAt_5 : decode b_Ln_isAt 5 = .ok (.getfield 37, 3) := by decide +kernel
theorem d_Ln_isAt_8 : decode b_Ln_isAt 8 = .ok (.isub, 1) := by decide +kernel
theorem d_Ln_isAt_9 : decode b_Ln_isAt 9 = .ok (.aload_n 1, 1) := by decide +kernel
theorem d_Ln_isAt_10 : decode b_Ln_isAt 10 = .ok (.invokevirtual 44, 3) := by decide +kernel
theorem d_Ln_isAt_13 : decode b_Ln_isAt 13 = .ok (.if_icmp .eq 5, 3) := by decide +kernel
theorem d_Ln_isAt_16 : decode b_Ln_isAt 16 = .ok (.iconst 0, 1) := by decide +kernel
theorem d_Ln_isAt_17 : decode b_Ln_isAt 17 = .ok (.ireturn, 1) := by decide +kernel
theorem d_Ln_isAt_18 : decode b_Ln_isAt 18 = .ok (.iconst 0, 1) := by decide +kernel
theorem d_Ln_isAt_19 : decode b_Ln_isAt 19 = .ok (.istore_n 2, 1) := by decide +kernel
theorem d_Ln_isAt_20 : decode b_Ln_isAt 20 = .ok (.iload_n 2, 1) := by decide +kernel
theorem d_Ln_isAt_21 : decode b_Ln_isAt 21 = .ok (.aload_n 1, 1) := by decide +kernel
theorem d_Ln_isAt_22 : decode b_Ln_isAt 22 = .ok (.invokevirtual 44, 3) := by decide +kernel
theorem d_Ln_isAt_25 : decode b_Ln_isAt 25 = .ok (.if_icmp .ge 32, 3) := by decide +kernel
theorem d_Ln_isAt_28 : decode b_Ln_isAt 28 = .ok (.aload_n 0, 1) := by decide +kernel
theorem d_Ln_isAt_29 : decode b_Ln_isAt 29 = .ok (.getfield 9, 3) := by decide +kernel
theorem d_Ln_isAt_32 : decode b_Ln_isAt 32 = .ok (.aload_n 0, 1) := by decide +kernel
theorem d_Ln_isAt_33 : decode b_Ln_isAt 33 = .ok (.getfield 37, 3) := by decide +kernel
theorem d_Ln_isAt_36 : decode b_Ln_isAt 36 = .ok (.iload_n 2, 1) := by decide +kernel
theorem d_Ln_isAt_37 : decode b_Ln_isAt 37 = .ok (.iadd, 1) := by decide +kernel
theorem d_Ln_isAt_38 : decode b_Ln_isAt 38 = .ok (.invokevirtual 22, 3) := by decide +kernel
theorem d_Ln_isAt_41 : decode b_Ln_isAt 41 = .ok (.aload_n 1, 1) := by decide +kernel
theorem d_Ln_isAt_42 : decode b_Ln_isAt 42 = .ok (.iload_n 2, 1) := by decide +kernel
theorem d_Ln_isAt_43 : decode b_Ln_isAt 43 = .ok (.invokevirtual 50, 3) := by decide +kernel
theorem d_Ln_isAt_46 : decode b_Ln_isAt 46 = .ok (.if_icmp .eq 5, 3) := by decide +kernel
theorem d_Ln_isAt_49 : decode b_Ln_isAt 49 = .ok (.iconst 0, 1) := by decide +kernel
theorem d_Ln_isAt_50 : decode b_Ln_isAt 50 = .ok (.ireturn, 1) := by decide +kernel
theorem d_Ln_isAt_51 : decode b_Ln_isAt 51 = .ok (.iinc 2 1, 3) := by decide +kernel
theorem d_Ln_isAt_54 : decode b_Ln_isAt 54 = .ok (.goto (-34), 3) := by decide +kernel
theorem d_Ln_isAt_57 : decode b_Ln_isAt 57 = .ok (.iconst 1, 1) := by decide +kernel
theorem d_Ln_isAt_58 : decode b_Ln_isAt 58 = .ok (.ireturn, 1) := by decide +kernel
theorem d_Ln_place_0 : decode b_Ln_place 0 = .ok (.aload_n 0, 1) := by decide +kernel
theorem d_Ln_place_1 : decode b_Ln_place 1 = .ok (.getfield 37, 3) := by decide +kernel
theorem d_Ln_place_4 : decode b_Ln_place 4 = .ok (.aload_n 0, 1) := by decide +kernel
theorem d_Ln_place_5 : decode b_Ln_place 5 = .ok (.getfield 15, 3) := by decide +kernel
theorem d_Ln_place_8 : decode b_Ln_place 8 = .ok (.isub, 1) := by decide +kernel
theorem d_Ln_place_9 : decode b_Ln_place 9 = .ok (.iconst 1, 1) := by decide +kernel
theorem d_Ln_place_10 : decode b_Ln_place 10 = .ok (.iadd, 1) := by decide +kernel
theorem d_Ln_place_11 : decode b_Ln_place 11 = .ok (.ireturn, 1) := by decide +kernel
theorem d_Ln_copyName_0 : decode b_Ln_copyName 0 = .ok (.iload_n 2, 1) := by decide +kernel
theorem d_Ln_copyName_1 : decode b_Ln_copyName 1 = .ok (.iconst 1, 1) := by decide +kernel
theorem d_Ln_copyName_2 : decode b_Ln_copyName 2 = .ok (.if_icmp .ne 7, 3) := by decide +kernel
theorem d_Ln_copyName_5 : decode b_Ln_copyName 5 = .ok (.iconst 1, 1) := by decide +kernel
theorem d_Ln_copyName_6 : decode b_Ln_copyName 6 = .ok (.goto 4, 3) := by decide +kernel
theorem d_Ln_copyName_9 : decode b_Ln_copyName 9 = .ok (.iconst 0, 1) := by decide +kernel
theorem d_Ln_copyName_10 : decode b_Ln_copyName 10 = .ok (.istore_n 3, 1) := by decide +kernel
theorem d_Ln_copyName_11 : decode b_Ln_copyName 11 = .ok (.aload_n 1, 1) := by decide +kernel
theorem d_Ln_copyName_12 : decode b_Ln_copyName 12 = .ok (.invokevirtual 54, 3) := by decide +kernel
theorem d_Ln_copyName_15 : decode b_Ln_copyName 15 = .ok (.aload_n 0, 1) := by decide +kernel
theorem d_Ln_copyName_16 : decode b_Ln_copyName 16 = .ok (.getfield 37, 3) := by decide +kernel
theorem d_Ln_copyName_19 : decode b_Ln_copyName 19 = .ok (.istore 4, 2) := by decide +kernel
theorem d_Ln_copyName_21 : decode b_Ln_copyName 21 = .ok (.iload 4, 2) := by decide +kernel
theorem d_Ln_copyName_23 : decode b_Ln_copyName 23 = .ok (.aload_n 0, 1) := by decide +kernel
theorem d_Ln_copyName_24 : decode b_Ln_copyName 24 = .ok (.getfield 31, 3) := by decide +kernel
theorem d_Ln_copyName_27 : decode b_Ln_copyName 27 = .ok (.if_icmp .ge 109, 3) := by decide +kernel
theorem d_Ln_copyName_30 : decode b_Ln_copyName 30 = .ok (.aload_n 0, 1) := by decide +kernel
theorem d_Ln_copyName_31 : decode b_Ln_copyName 31 = .ok (.getfield 9, 3) := by decide +kernel
theorem d_Ln_copyName_34 : decode b_Ln_copyName 34 = .ok (.iload 4, 2) := by decide +kernel
theorem d_Ln_copyName_36 : decode b_Ln_copyName 36 = .ok (.invokevirtual 22, 3) := by decide +kernel
theorem d_Ln_copyName_39 : decode b_Ln_copyName 39 = .ok (.istore 5, 2) := by decide +kernel
theorem d_Ln_copyName_41 : decode b_Ln_copyName 41 = .ok (.iload_n 3, 1) := by decide +kernel
theorem d_Ln_copyName_42 : decode b_Ln_copyName 42 = .ok (.ifCond .eq 30, 3) := by decide +kernel
theorem d_Ln_copyName_45 : decode b_Ln_copyName 45 = .ok (.iload 5, 2) := by decide +kernel
theorem d_Ln_copyName_47 : decode b_Ln_copyName 47 = .ok (.bipush 37, 2) := by decide +kernel
theorem d_Ln_copyName_49 : decode b_Ln_copyName 49 = .ok (.if_icmp .ne 23, 3) := by decide +kernel
theorem d_Ln_copyName_52 : decode b_Ln_copyName 52 = .ok (.aload_n 0, 1) := by decide +kernel
theorem d_Ln_copyName_53 : decode b_Ln_copyName 53 = .ok (.getfield 9, 3) := by decide +kernel
theorem d_Ln_copyName_56 : decode b_Ln_copyName 56 = .ok (.iload 4, 2) := by decide +kernel
theorem d_Ln_copyName_58 : decode b_Ln_copyName 58 = .ok (.iconst 1, 1) := by decide +kernel
theorem d_Ln_copyName_59 : decode b_Ln_copyName 59 = .ok (.iadd, 1) := by decide +kernel
theorem d_Ln_copyName_60 : decode b_Ln_copyName 60 = .ok (.invokevirtual 22, 3) := by decide +kernel
theorem d_Ln_copyName_63 : decode b_Ln_copyName 63 = .ok (.bipush 36, 2) := by decide +kernel
theorem d_Ln_copyName_65 : decode b_Ln_copyName 65 = .ok (.if_icmp .ne 7, 3) := by decide +kernel
theorem d_Ln_copyName_68 : decode b_Ln_copyName 68 = .ok (.iconst 1, 1) := by decide +kernel
theorem d_Ln_copyName_69 : decode b_Ln_copyName 69 = .ok (.goto 4, 3) := by decide +kernel
theorem d_Ln_copyName_72 : decode b_Ln_copyName 72 = .ok (.iconst 0, 1) := by decide +kernel
theorem d_Ln_copyName_73 : decode b_Ln_copyName 73 = .ok (.istore 6, 2) := by decide +kernel
theorem d_Ln_copyName_75 : decode b_Ln_copyName 75 = .ok (.iload_n 3, 1) := by decide +kernel
theorem d_Ln_copyName_76 : decode b_Ln_copyName 76 = .ok (.ifCond .eq 30, 3) := by decide +kernel
theorem d_Ln_copyName_79 : decode b_Ln_copyName 79 = .ok (.iload 5, 2) := by decide +kernel
theorem d_Ln_copyName_81 : decode b_Ln_copyName 81 = .ok (.bipush 36, 2) := by decide +kernel
theorem d_Ln_copyName_83 : decode b_Ln_copyName 83 = .ok (.if_icmp .ne 23, 3) := by decide +kernel
theorem d_Ln_copyName_86 : decode b_Ln_copyName 86 = .ok (.aload_n 0, 1) := by decide +kernel
theorem d_Ln_copyName_87 : decode b_Ln_copyName 87 = .ok (.getfield 9, 3) := by decide +kernel
theorem d_Ln_copyName_90 : decode b_Ln_copyName 90 = .ok (.iload 4, 2) := by decide +kernel
theorem d_Ln_copyName_92 : decode b_Ln_copyName 92 = .ok (.iconst 1, 1) := by decide +kernel
theorem d_Ln_copyName_93 : decode b_Ln_copyName 93 = .ok (.isub, 1) := by decide +kernel
theorem d_Ln_copyName_94 : decode b_Ln_copyName 94 = .ok (.invokevirtual 22, 3) := by decide +kernel
theorem d_Ln_copyName_97 : decode b_Ln_copyName 97 = .ok (.bipush 37, 2) := by decide +kernel
theorem d_Ln_copyName_99 : decode b_Ln_copyName 99 = .ok (.if_icmp .eq 7, 3) := by decide +kernel
theorem d_Ln_copyName_102 : decode b_Ln_copyName 102 = .ok (.iconst 1, 1) := by decide +kernel
theorem d_Ln_copyName_103 : decode b_Ln_copyName 103 = .ok (.goto 4, 3) := by decide +kernel
theorem d_Ln_copyName_106 : decode b_Ln_copyName 106 = .ok (.iconst 0, 1) := by decide +kernel
theorem d_Ln_copyName_107 : decode b_Ln_copyName 107 = .ok (.istore 7, 2) := by decide +kernel
theorem d_Ln_copyName_109 : decode b_Ln_copyName 109 = .ok (.iload 6, 2) := by decide +kernel
theorem d_Ln_copyName_111 : decode b_Ln_copyName 111 = .ok (.ifCond .ne 19, 3) := by decide +kernel
theorem d_Ln_copyName_114 : decode b_Ln_copyName 114 = .ok (.aload_n 1, 1) := by decide +kernel
theorem d_Ln_copyName_115 : decode b_Ln_copyName 115 = .ok (.iload 7, 2) := by decide +kernel
theorem d_Ln_copyName_117 : decode b_Ln_copyName 117 = .ok (.ifCond .eq 8, 3) := by decide +kernel
theorem d_Ln_copyName_120 : decode b_Ln_copyName 120 = .ok (.bipush 37, 2) := by decide +kernel
theorem d_Ln_copyName_122 : decode b_Ln_copyName 122 = .ok (.goto 5, 3) := by decide +kernel
theorem d_Ln_copyName_125 : decode b_Ln_copyName 125 = .ok (.iload 5, 2) := by decide +kernel
theorem d_Ln_copyName_127 : decode b_Ln_copyName 127 = .ok (.invokevirtual 57, 3) := by decide +kernel
theorem d_Ln_copyName_130 : decode b_Ln_copyName 130 = .ok (.iinc 4 1, 3) := by decide +kernel
theorem d_Ln_copyName_133 : decode b_Ln_copyName 133 = .ok (.goto (-112), 3) := by decide +kernel
theorem d_Ln_copyName_136 : decode b_Ln_copyName 136 = .ok (.return_, 1) := by decide +kernel
theorem d_Sf_alike_0 : decode b_Sf_alike 0 = .ok (.iconst 0, 1) := by decide +kernel
theorem d_Sf_alike_1 : decode b_Sf_alike 1 = .ok (.istore_n 2, 1) := by decide +kernel
theorem d_Sf_alike_2 : decode b_Sf_alike 2 = .ok (.iload_n 2, 1) := by decide +kernel
theorem d_Sf_alike_3 : decode b_Sf_alike 3 = .ok (.aload_n 0, 1) := by decide +kernel
theorem d_Sf_alike_4 : decode b_Sf_alike 4 = .ok (.getfield 20, 3) := by decide +kernel
theorem d_Sf_alike_7 : decode b_Sf_alike 7 = .ok (.if_icmp .ge 29, 3) := by decide +kernel
theorem d_Sf_alike_10 : decode b_Sf_alike 10 = .ok (.aload_n 0, 1) := by decide +kernel
theorem d_Sf_alike_11 : decode b_Sf_alike 11 = .ok (.iload_n 2, 1) := by decide +kernel
theorem d_Sf_alike_12 : decode b_Sf_alike 12 = .ok (.invokevirtual 36, 3) := by decide +kernel
theorem d_Sf_alike_15 : decode b_Sf_alike 15 = .ok (.astore_n 3, 1) := by decide +kernel
theorem d_Sf_alike_16 : decode b_Sf_alike 16 = .ok (.aload_n 3, 1) := by decide +kernel
theorem d_Sf_alike_17 : decode b_Sf_alike 17 = .ok (.ifnull 13, 3) := by decide +kernel
theorem d_Sf_alike_20 : decode b_Sf_alike 20 = .ok (.aload_n 3, 1) := by decide +kernel
theorem d_Sf_alike_21 : decode b_Sf_alike 21 = .ok (.aload_n 1, 1) := by decide +kernel
theorem d_Sf_alike_22 : decode b_Sf_alike 22 = .ok (.invokevirtual 39, 3) := by decide +kernel
theorem d_Sf_alike_25 : decode b_Sf_alike 25 = .ok (.ifCond .ne 5, 3) := by decide +kernel
theorem d_Sf_alike_28 : decode b_Sf_alike 28 = .ok (.aload_n 3, 1) := by decide +kernel
theorem d_Sf_alike_29 : decode b_Sf_alike 29 = .ok (.areturn, 1) := by decide +kernel
theorem d_Sf_alike_30 : decode b_Sf_alike 30 = .ok (.iinc 2 1, 3) := by decide +kernel
theorem d_Sf_alike_33 : decode b_Sf_alike 33 = .ok (.goto (-31), 3) := by decide +kernel
theorem d_Sf_alike_36 : decode b_Sf_alike 36 = .ok (.aconst_null, 1) := by decide +kernel
theorem d_Sf_alike_37 : decode b_Sf_alike 37 = .ok (.areturn, 1) := by decide +kernel
theorem d_Sf_get_0 : decode b_Sf_get 0 = .ok (.iload_n 1, 1) := by decide +kernel
theorem d_Sf_get_1 : decode b_Sf_get 1 = .ok (.ifCond .lt 36, 3) := by decide +kernel
theorem d_Sf_get_4 : decode b_Sf_get 4 = .ok (.iload_n 1, 1) := by decide +kernel
theorem d_Sf_get_5 : decode b_Sf_get 5 = .ok (.aload_n 0, 1) := by decide +kernel
theorem d_Sf_get_6 : decode b_Sf_get 6 = .ok (.getfield 20, 3) := by decide +kernel
theorem d_Sf_get_9 : decode b_Sf_get 9 = .ok (.if_icmp .ge 28, 3) := by decide +kernel
theorem d_Sf_get_12 : decode b_Sf_get 12 = .ok (.iload_n 1, 1) := by decide +kernel
theorem d_Sf_get_13 : decode b_Sf_get 13 = .ok (.aload_n 0, 1) := by decide +kernel
theorem d_Sf_get_14 : decode b_Sf_get 14 = .ok (.getfield 10, 3) := by decide +kernel
theorem d_Sf_get_17 : decode b_Sf_get 17 = .ok (.invokevirtual 23, 3) := by decide +kernel
theorem d_Sf_get_20 : decode b_Sf_get 20 = .ok (.if_icmp .ge 17, 3) := by decide +kernel
theorem d_Sf_get_23 : decode b_Sf_get 23 = .ok (.aload_n 0, 1) := by decide +kernel
theorem d_Sf_get_24 : decode b_Sf_get 24 = .ok (.getfield 10, 3) := by decide +kernel
theorem d_Sf_get_27 : decode b_Sf_get 27 = .ok (.iload_n 1, 1) := by decide +kernel
theorem d_Sf_get_28 : decode b_Sf_get 28 = .ok (.invokevirtual 27, 3) := by decide +kernel
theorem d_Sf_get_31 : decode b_Sf_get 31 = .ok (.checkcast 31, 3) := by decide +kernel
theorem d_Sf_get_34 : decode b_Sf_get 34 = .ok (.goto 4, 3) := by decide +kernel
theorem d_Sf_get_37 : decode b_Sf_get 37 = .ok (.aconst_null, 1) := by decide +kernel
theorem d_Sf_get_38 : decode b_Sf_get 38 = .ok (.areturn, 1) := by decide +kernel
theorem d_Sf_isFull_0 : decode b_Sf_isFull 0 = .ok (.aload_n 0, 1) := by decide +kernel
theorem d_Sf_isFull_1 : decode b_Sf_isFull 1 = .ok (.getfield 20, 3) := by decide +kernel
theorem d_Sf_isFull_4 : decode b_Sf_isFull 4 = .ok (.aload_n 0, 1) := by decide +kernel
theorem d_Sf_isFull_5 : decode b_Sf_isFull 5 = .ok (.getfield 16, 3) := by decide +kernel
theorem d_Sf_isFull_8 : decode b_Sf_isFull 8 = .ok (.if_icmp .lt 7, 3) := by decide +kernel
theorem d_Sf_isFull_11 : decode b_Sf_isFull 11 = .ok (.iconst 1, 1) := by decide +kernel
theorem d_Sf_isFull_12 : decode b_Sf_isFull 12 = .ok (.goto 4, 3) := by decide +kernel
theorem d_Sf_isFull_15 : decode b_Sf_isFull 15 = .ok (.iconst 0, 1) := by decide +kernel
theorem d_Sf_isFull_16 : decode b_Sf_isFull 16 = .ok (.ireturn, 1) := by decide +kernel
theorem d_Tp_addMember_0 : decode b_Tp_addMember 0 = .ok (.aload_n 0, 1) := by decide +kernel
theorem d_Tp_addMember_1 : decode b_Tp_addMember 1 = .ok (.getfield 14, 3) := by decide +kernel
theorem d_Tp_addMember_4 : decode b_Tp_addMember 4 = .ok (.invokevirtual 20, 3) := by decide +kernel
theorem d_Tp_addMember_7 : decode b_Tp_addMember 7 = .ok (.astore_n 2, 1) := by decide +kernel
theorem d_Tp_addMember_8 : decode b_Tp_addMember 8 = .ok (.aload_n 2, 1) := by decide +kernel
theorem d_Tp_addMember_9 : decode b_Tp_addMember 9 = .ok (.ifnonnull 13, 3) := by decide +kernel
theorem d_Tp_addMember_12 : decode b_Tp_addMember 12 = .ok (.new 4, 3) := by decide +kernel
theorem d_Tp_addMember_15 : decode b_Tp_addMember 15 = .ok (.dup, 1) := by decide +kernel
theorem d_Tp_addMember_16 : decode b_Tp_addMember 16 = .ok (.invokespecial 3, 3) := by decide +kernel
theorem d_Tp_addMember_19 : decode b_Tp_addMember 19 = .ok (.goto 4, 3) := by decide +kernel
theorem d_Tp_addMember_22 : decode b_Tp_addMember 22 = .ok (.aload_n 2, 1) := by decide +kernel
theorem d_Tp_addMember_23 : decode b_Tp_addMember 23 = .ok (.astore_n 3, 1) := by decide +kernel
theorem d_Tp_addMember_24 : decode b_Tp_addMember 24 = .ok (.aload_n 3, 1) := by decide +kernel
theorem d_Tp_addMember_25 : decode b_Tp_addMember 25 = .ok (.aload_n 1, 1) := by decide +kernel
theorem d_Tp_addMember_26 : decode b_Tp_addMember 26 = .ok (.invokevirtual 24, 3) := by decide +kernel
theorem d_Tp_addMember_29 : decode b_Tp_addMember 29 = .ok (.aload_n 0, 1) := by decide +kernel
theorem d_Tp_addMember_30 : decode b_Tp_addMember 30 = .ok (.getfield 14, 3) := by decide +kernel
theorem d_Tp_addMember_33 : decode b_Tp_addMember 33 = .ok (.aload_n 3, 1) := by decide +kernel
theorem d_Tp_addMember_34 : decode b_Tp_addMember 34 = .ok (.invokevirtual 28, 3) := by decide +kernel
theorem d_Tp_addMember_37 : decode b_Tp_addMember 37 = .ok (.return_, 1) := by decide +kernel
theorem d_Sf_takeSpare_0 : decode b_Sf_takeSpare 0 = .ok (.aload_n 0, 1) := by decide +kernel
theorem d_Sf_takeSpare_1 : decode b_Sf_takeSpare 1 = .ok (.getfield 20, 3) := by decide +kernel
theorem d_Sf_takeSpare_4 : decode b_Sf_takeSpare 4 = .ok (.aload_n 0, 1) := by decide +kernel
theorem d_Sf_takeSpare_5 : decode b_Sf_takeSpare 5 = .ok (.getfield 10, 3) := by decide +kernel
theorem d_Sf_takeSpare_8 : decode b_Sf_takeSpare 8 = .ok (.invokevirtual 23, 3) := by decide +kernel
theorem d_Sf_takeSpare_11 : decode b_Sf_takeSpare 11 = .ok (.if_icmp .ge 20, 3) := by decide +kernel
theorem d_Sf_takeSpare_14 : decode b_Sf_takeSpare 14 = .ok (.aload_n 0, 1) := by decide +kernel
theorem d_Sf_takeSpare_15 : decode b_Sf_takeSpare 15 = .ok (.getfield 10, 3) := by decide +kernel
theorem d_Sf_takeSpare_18 : decode b_Sf_takeSpare 18 = .ok (.aload_n 0, 1) := by decide +kernel
theorem d_Sf_takeSpare_19 : decode b_Sf_takeSpare 19 = .ok (.getfield 20, 3) := by decide +kernel
theorem d_Sf_takeSpare_22 : decode b_Sf_takeSpare 22 = .ok (.invokevirtual 33, 3) := by decide +kernel
theorem d_Sf_takeSpare_25 : decode b_Sf_takeSpare 25 = .ok (.checkcast 31, 3) := by decide +kernel
theorem d_Sf_takeSpare_28 : decode b_Sf_takeSpare 28 = .ok (.goto 4, 3) := by decide +kernel
theorem d_Sf_takeSpare_31 : decode b_Sf_takeSpare 31 = .ok (.aconst_null, 1) := by decide +kernel
theorem d_Sf_takeSpare_32 : decode b_Sf_takeSpare 32 = .ok (.areturn, 1) := by decide +kernel
theorem d_Sf_put_0 : decode b_Sf_put 0 = .ok (.iconst 0, 1) := by decide +kernel
theorem d_Sf_put_1 : decode b_Sf_put 1 = .ok (.istore_n 2, 1) := by decide +kernel
theorem d_Sf_put_2 : decode b_Sf_put 2 = .ok (.iconst 0, 1) := by decide +kernel
theorem d_Sf_put_3 : decode b_Sf_put 3 = .ok (.istore_n 3, 1) := by decide +kernel
theorem d_Sf_put_4 : decode b_Sf_put 4 = .ok (.iload_n 3, 1) := by decide +kernel
theorem d_Sf_put_5 : decode b_Sf_put 5 = .ok (.aload_n 0, 1) := by decide +kernel
theorem d_Sf_put_6 : decode b_Sf_put 6 = .ok (.getfield 20, 3) := by decide +kernel
theorem d_Sf_put_9 : decode b_Sf_put 9 = .ok (.if_icmp .ge 34, 3) := by decide +kernel
theorem d_Sf_put_12 : decode b_Sf_put 12 = .ok (.aload_n 0, 1) := by decide +kernel
theorem d_Sf_put_13 : decode b_Sf_put 13 = .ok (.iload_n 3, 1) := by decide +kernel
theorem d_Sf_put_14 : decode b_Sf_put 14 = .ok (.invokevirtual 36, 3) := by decide +kernel
theorem d_Sf_put_17 : decode b_Sf_put 17 = .ok (.astore 4, 2) := by decide +kernel
theorem d_Sf_put_19 : decode b_Sf_put 19 = .ok (.aload 4, 2) := by decide +kernel
theorem d_Sf_put_21 : decode b_Sf_put 21 = .ok (.ifnull 16, 3) := by decide +kernel
theorem d_Sf_put_24 : decode b_Sf_put 24 = .ok (.aload 4, 2) := by decide +kernel
theorem d_Sf_put_26 : decode b_Sf_put 26 = .ok (.aload_n 1, 1) := by decide +kernel
theorem d_Sf_put_27 : decode b_Sf_put 27 = .ok (.invokevirtual 39, 3) := by decide +kernel
theorem d_Sf_put_30 : decode b_Sf_put 30 = .ok (.ifCond .ge 7, 3) := by decide +kernel
theorem d_Sf_put_33 : decode b_Sf_put 33 = .ok (.iload_n 3, 1) := by decide +kernel
theorem d_Sf_put_34 : decode b_Sf_put 34 = .ok (.iconst 1, 1) := by decide +kernel
theorem d_Sf_put_35 : decode b_Sf_put 35 = .ok (.iadd, 1) := by decide +kernel
theorem d_Sf_put_36 : decode b_Sf_put 36 = .ok (.istore_n 2, 1) := by decide +kernel
theorem d_Sf_put_37 : decode b_Sf_put 37 = .ok (.iinc 3 1, 3) := by decide +kernel
theorem d_Sf_put_40 : decode b_Sf_put 40 = .ok (.goto (-36), 3) := by decide +kernel
theorem d_Sf_put_43 : decode b_Sf_put 43 = .ok (.aload_n 0, 1) := by decide +kernel
theorem d_Sf_put_44 : decode b_Sf_put 44 = .ok (.getfield 10, 3) := by decide +kernel
theorem d_Sf_put_47 : decode b_Sf_put 47 = .ok (.iload_n 2, 1) := by decide +kernel
theorem d_Sf_put_48 : decode b_Sf_put 48 = .ok (.aload_n 1, 1) := by decide +kernel
theorem d_Sf_put_49 : decode b_Sf_put 49 = .ok (.invokevirtual 43, 3) := by decide +kernel
theorem d_Sf_put_52 : decode b_Sf_put 52 = .ok (.aload_n 0, 1) := by decide +kernel
theorem d_Sf_put_53 : decode b_Sf_put 53 = .ok (.dup, 1) := by decide +kernel
theorem d_Sf_put_54 : decode b_Sf_put 54 = .ok (.getfield 20, 3) := by decide +kernel
theorem d_Sf_put_57 : decode b_Sf_put 57 = .ok (.iconst 1, 1) := by decide +kernel
theorem d_Sf_put_58 : decode b_Sf_put 58 = .ok (.iadd, 1) := by decide +kernel
theorem d_Sf_put_59 : decode b_Sf_put 59 = .ok (.putfield 20, 3) := by decide +kernel
theorem d_Sf_put_62 : decode b_Sf_put 62 = .ok (.return_, 1) := by decide +kernel
theorem d_Bl_named_0 : decode b_Bl_named 0 = .ok (.iconst 0, 1) := by decide +kernel
theorem d_Bl_named_1 : decode b_Bl_named 1 = .ok (.istore_n 2, 1) := by decide +kernel
theorem d_Bl_named_2 : decode b_Bl_named 2 = .ok (.iload_n 2, 1) := by decide +kernel
theorem d_Bl_named_3 : decode b_Bl_named 3 = .ok (.aload_n 0, 1) := by decide +kernel
theorem d_Bl_named_4 : decode b_Bl_named 4 = .ok (.getfield 14, 3) := by decide +kernel
theorem d_Bl_named_7 : decode b_Bl_named 7 = .ok (.invokevirtual 27, 3) := by decide +kernel
theorem d_Bl_named_10 : decode b_Bl_named 10 = .ok (.if_icmp .ge 38, 3) := by decide +kernel
theorem d_Bl_named_13 : decode b_Bl_named 13 = .ok (.aload_n 0, 1) := by decide +kernel
theorem d_Bl_named_14 : decode b_Bl_named 14 = .ok (.getfield 14, 3) := by decide +kernel
theorem d_Bl_named_17 : decode b_Bl_named 17 = .ok (.iload_n 2, 1) := by decide +kernel
theorem d_Bl_named_18 : decode b_Bl_named 18 = .ok (.invokevirtual 31, 3) := by decide +kernel
theorem d_Bl_named_21 : decode b_Bl_named 21 = .ok (.checkcast 35, 3) := by decide +kernel
theorem d_Bl_named_24 : decode b_Bl_named 24 = .ok (.astore_n 3, 1) := by decide +kernel
theorem d_Bl_named_25 : decode b_Bl_named 25 = .ok (.aload_n 3, 1) := by decide +kernel
theorem d_Bl_named_26 : decode b_Bl_named 26 = .ok (.ifnull 16, 3) := by decide +kernel
theorem d_Bl_named_29 : decode b_Bl_named 29 = .ok (.aload_n 3, 1) := by decide +kernel
theorem d_Bl_named_30 : decode b_Bl_named 30 = .ok (.getfield 37, 3) := by decide +kernel
theorem d_Bl_named_33 : decode b_Bl_named 33 = .ok (.aload_n 1, 1) := by decide +kernel
theorem d_Bl_named_34 : decode b_Bl_named 34 = .ok (.invokevirtual 41, 3) := by decide +kernel
theorem d_Bl_named_37 : decode b_Bl_named 37 = .ok (.ifCond .ne 5, 3) := by decide +kernel
theorem d_Bl_named_40 : decode b_Bl_named 40 = .ok (.aload_n 3, 1) := by decide +kernel
theorem d_Bl_named_41 : decode b_Bl_named 41 = .ok (.areturn, 1) := by decide +kernel
theorem d_Bl_named_42 : decode b_Bl_named 42 = .ok (.iinc 2 1, 3) := by decide +kernel
theorem d_Bl_named_45 : decode b_Bl_named 45 = .ok (.goto (-43), 3) := by decide +kernel
theorem d_Bl_named_48 : decode b_Bl_named 48 = .ok (.aconst_null, 1) := by decide +kernel
theorem d_Bl_named_49 : decode b_Bl_named 49 = .ok (.areturn, 1) := by decide +kernel
theorem d_Sf_count_0 : decode b_Sf_count 0 = .ok (.aload_n 0, 1) := by decide +kernel
theorem d_Sf_count_1 : decode b_Sf_count 1 = .ok (.getfield 20, 3) := by decide +kernel
theorem d_Sf_count_4 : decode b_Sf_count 4 = .ok (.ireturn, 1) := by decide +kernel
theorem d_Bl_addType_0 : decode b_Bl_addType 0 = .ok (.aload_n 0, 1) := by decide +kernel
theorem d_Bl_addType_1 : decode b_Bl_addType 1 = .ok (.getfield 14, 3) := by decide +kernel
theorem d_Bl_addType_4 : decode b_Bl_addType 4 = .ok (.invokevirtual 47, 3) := by decide +kernel
theorem d_Bl_addType_7 : decode b_Bl_addType 7 = .ok (.checkcast 35, 3) := by decide +kernel
theorem d_Bl_addType_10 : decode b_Bl_addType 10 = .ok (.astore_n 2, 1) := by decide +kernel
theorem d_Bl_addType_11 : decode b_Bl_addType 11 = .ok (.aload_n 2, 1) := by decide +kernel
theorem d_Bl_addType_12 : decode b_Bl_addType 12 = .ok (.ifnonnull 13, 3) := by decide +kernel
theorem d_Bl_addType_15 : decode b_Bl_addType 15 = .ok (.new 35, 3) := by decide +kernel
theorem d_Bl_addType_18 : decode b_Bl_addType 18 = .ok (.dup, 1) := by decide +kernel
theorem d_Bl_addType_19 : decode b_Bl_addType 19 = .ok (.invokespecial 51, 3) := by decide +kernel
theorem d_Bl_addType_22 : decode b_Bl_addType 22 = .ok (.goto 4, 3) := by decide +kernel
theorem d_Bl_addType_25 : decode b_Bl_addType 25 = .ok (.aload_n 2, 1) := by decide +kernel
theorem d_Bl_addType_26 : decode b_Bl_addType 26 = .ok (.astore_n 3, 1) := by decide +kernel
theorem d_Bl_addType_27 : decode b_Bl_addType 27 = .ok (.aload_n 3, 1) := by decide +kernel
theorem d_Bl_addType_28 : decode b_Bl_addType 28 = .ok (.aload_n 1, 1) := by decide +kernel
theorem d_Bl_addType_29 : decode b_Bl_addType 29 = .ok (.invokevirtual 52, 3) := by decide +kernel
theorem d_Bl_addType_32 : decode b_Bl_addType 32 = .ok (.aload_n 3, 1) := by decide +kernel
theorem d_Bl_addType_33 : decode b_Bl_addType 33 = .ok (.getfield 56, 3) := by decide +kernel
theorem d_Bl_addType_36 : decode b_Bl_addType 36 = .ok (.invokevirtual 24, 3) := by decide +kernel
theorem d_Bl_addType_39 : decode b_Bl_addType 39 = .ok (.aload_n 0, 1) := by decide +kernel
theorem d_Bl_addType_40 : decode b_Bl_addType 40 = .ok (.getfield 14, 3) := by decide +kernel
theorem d_Bl_addType_43 : decode b_Bl_addType 43 = .ok (.aload_n 3, 1) := by decide +kernel
theorem d_Bl_addType_44 : decode b_Bl_addType 44 = .ok (.invokevirtual 59, 3) := by decide +kernel
theorem d_Bl_addType_47 : decode b_Bl_addType 47 = .ok (.aload_n 3, 1) := by decide +kernel
theorem d_Bl_addType_48 : decode b_Bl_addType 48 = .ok (.areturn, 1) := by decide +kernel
theorem d_Tp_init_0 : decode b_Tp_init 0 = .ok (.aload_n 0, 1) := by decide +kernel
theorem d_Tp_init_1 : decode b_Tp_init 1 = .ok (.invokespecial 3, 3) := by decide +kernel
theorem d_Tp_init_4 : decode b_Tp_init 4 = .ok (.aload_n 0, 1) := by decide +kernel
theorem d_Tp_init_5 : decode b_Tp_init 5 = .ok (.new 9, 3) := by decide +kernel
theorem d_Tp_init_8 : decode b_Tp_init 8 = .ok (.dup, 1) := by decide +kernel
theorem d_Tp_init_9 : decode b_Tp_init 9 = .ok (.bipush 8, 2) := by decide +kernel
theorem d_Tp_init_11 : decode b_Tp_init 11 = .ok (.invokespecial 11, 3) := by decide +kernel
theorem d_Tp_init_14 : decode b_Tp_init 14 = .ok (.putfield 14, 3) := by decide +kernel
theorem d_Tp_init_17 : decode b_Tp_init 17 = .ok (.return_, 1) := by decide +kernel
theorem d_Bl_addForm_0 : decode b_Bl_addForm 0 = .ok (.aload_n 1, 1) := by decide +kernel
theorem d_Bl_addForm_1 : decode b_Bl_addForm 1 = .ok (.ldc 62, 2) := by decide +kernel
theorem d_Bl_addForm_3 : decode b_Bl_addForm 3 = .ok (.invokevirtual 64, 3) := by decide +kernel
theorem d_Bl_addForm_6 : decode b_Bl_addForm 6 = .ok (.aload_n 1, 1) := by decide +kernel
theorem d_Bl_addForm_7 : decode b_Bl_addForm 7 = .ok (.bipush 48, 2) := by decide +kernel
theorem d_Bl_addForm_9 : decode b_Bl_addForm 9 = .ok (.aload_n 0, 1) := by decide +kernel
theorem d_Bl_addForm_10 : decode b_Bl_addForm 10 = .ok (.getfield 20, 3) := by decide +kernel
theorem d_Bl_addForm_13 : decode b_Bl_addForm 13 = .ok (.iadd, 1) := by decide +kernel
theorem d_Bl_addForm_14 : decode b_Bl_addForm 14 = .ok (.invokevirtual 68, 3) := by decide +kernel
theorem d_Bl_addForm_17 : decode b_Bl_addForm 17 = .ok (.aload_n 1, 1) := by decide +kernel
theorem d_Bl_addForm_18 : decode b_Bl_addForm 18 = .ok (.bipush 10, 2) := by decide +kernel
theorem d_Bl_addForm_20 : decode b_Bl_addForm 20 = .ok (.invokevirtual 68, 3) := by decide +kernel
theorem d_Bl_addForm_23 : decode b_Bl_addForm 23 = .ok (.iconst 0, 1) := by decide +kernel
theorem d_Bl_addForm_24 : decode b_Bl_addForm 24 = .ok (.istore_n 2, 1) := by decide +kernel
theorem d_Bl_addForm_25 : decode b_Bl_addForm 25 = .ok (.iload_n 2, 1) := by decide +kernel
theorem d_Bl_addForm_26 : decode b_Bl_addForm 26 = .ok (.aload_n 0, 1) := by decide +kernel
theorem d_Bl_addForm_27 : decode b_Bl_addForm 27 = .ok (.getfield 14, 3) := by decide +kernel
theorem d_Bl_addForm_30 : decode b_Bl_addForm 30 = .ok (.invokevirtual 27, 3) := by decide +kernel
theorem d_Bl_addForm_33 : decode b_Bl_addForm 33 = .ok (.if_icmp .ge 44, 3) := by decide +kernel
theorem d_Bl_addForm_36 : decode b_Bl_addForm 36 = .ok (.aload_n 0, 1) := by decide +kernel
theorem d_Bl_addForm_37 : decode b_Bl_addForm 37 = .ok (.getfield 14, 3) := by decide +kernel
theorem d_Bl_addForm_40 : decode b_Bl_addForm 40 = .ok (.iload_n 2, 1) := by decide +kernel
theorem d_Bl_addForm_41 : decode b_Bl_addForm 41 = .ok (.invokevirtual 31, 3) := by decide +kernel
theorem d_Bl_addForm_44 : decode b_Bl_addForm 44 = .ok (.checkcast 35, 3) := by decide +kernel
theorem d_Bl_addForm_47 : decode b_Bl_addForm 47 = .ok (.astore_n 3, 1) := by decide +kernel
theorem d_Bl_addForm_48 : decode b_Bl_addForm 48 = .ok (.aload_n 3, 1) := by decide +kernel
theorem d_Bl_addForm_49 : decode b_Bl_addForm 49 = .ok (.ifnull 22, 3) := by decide +kernel
theorem d_Bl_addForm_52 : decode b_Bl_addForm 52 = .ok (.aload_n 3, 1) := by decide +kernel
theorem d_Bl_addForm_53 : decode b_Bl_addForm 53 = .ok (.aload_n 1, 1) := by decide +kernel
theorem d_Bl_addForm_54 : decode b_Bl_addForm 54 = .ok (.iconst 0, 1) := by decide +kernel
theorem d_Bl_addForm_55 : decode b_Bl_addForm 55 = .ok (.aload_n 0, 1) := by decide +kernel
theorem d_Bl_addForm_56 : decode b_Bl_addForm 56 = .ok (.getfield 20, 3) := by decide +kernel
theorem d_Bl_addForm_59 : decode b_Bl_addForm 59 = .ok (.invokevirtual 71, 3) := by decide +kernel
theorem d_Bl_addForm_62 : decode b_Bl_addForm 62 = .ok (.aload_n 0, 1) := by decide +kernel
theorem d_Bl_addForm_63 : decode b_Bl_addForm 63 = .ok (.aload_n 1, 1) := by decide +kernel
theorem d_Bl_addForm_64 : decode b_Bl_addForm 64 = .ok (.aload_n 3, 1) := by decide +kernel
theorem d_Bl_addForm_65 : decode b_Bl_addForm 65 = .ok (.getfield 56, 3) := by decide +kernel
theorem d_Bl_addForm_68 : decode b_Bl_addForm 68 = .ok (.invokevirtual 75, 3) := by decide +kernel
theorem d_Bl_addForm_71 : decode b_Bl_addForm 71 = .ok (.iinc 2 1, 3) := by decide +kernel
theorem d_Bl_addForm_74 : decode b_Bl_addForm 74 = .ok (.goto (-49), 3) := by decide +kernel
theorem d_Bl_addForm_77 : decode b_Bl_addForm 77 = .ok (.return_, 1) := by decide +kernel
theorem d_Bl_addMemberLines_0 : decode b_Bl_addMemberLines 0 = .ok (.iconst 0, 1) := by decide +kernel
theorem d_Bl_addMemberLines_1 : decode b_Bl_addMemberLines 1 = .ok (.istore_n 3, 1) := by decide +kernel
theorem d_Bl_addMemberLines_2 : decode b_Bl_addMemberLines 2 = .ok (.iload_n 3, 1) := by decide +kernel
theorem d_Bl_addMemberLines_3 : decode b_Bl_addMemberLines 3 = .ok (.aload_n 2, 1) := by decide +kernel
theorem d_Bl_addMemberLines_4 : decode b_Bl_addMemberLines 4 = .ok (.invokevirtual 27, 3) := by decide +kernel
theorem d_Bl_addMemberLines_7 : decode b_Bl_addMemberLines 7 = .ok (.if_icmp .ge 32, 3) := by decide +kernel
theorem d_Bl_addMemberLines_10 : decode b_Bl_addMemberLines 10 = .ok (.aload_n 2, 1) := by decide +kernel
theorem d_Bl_addMemberLines_11 : decode b_Bl_addMemberLines 11 = .ok (.iload_n 3, 1) := by decide +kernel
theorem d_Bl_addMemberLines_12 : decode b_Bl_addMemberLines 12 = .ok (.invokevirtual 31, 3) := by decide +kernel
theorem d_Bl_addMemberLines_15 : decode b_Bl_addMemberLines 15 = .ok (.astore 4, 2) := by decide +kernel
theorem d_Bl_addMemberLines_17 : decode b_Bl_addMemberLines 17 = .ok (.aload 4, 2) := by decide +kernel
theorem d_Bl_addMemberLines_19 : decode b_Bl_addMemberLines 19 = .ok (.ifnull 14, 3) := by decide +kernel
theorem d_Bl_addMemberLines_22 : decode b_Bl_addMemberLines 22 = .ok (.aload 4, 2) := by decide +kernel
theorem d_Bl_addMemberLines_24 : decode b_Bl_addMemberLines 24 = .ok (.aload_n 1, 1) := by decide +kernel
theorem d_Bl_addMemberLines_25 : decode b_Bl_addMemberLines 25 = .ok (.iconst 1, 1) := by decide +kernel
theorem d_Bl_addMemberLines_26 : decode b_Bl_addMemberLines 26 = .ok (.aload_n 0, 1) := by decide +kernel
theorem d_Bl_addMemberLines_27 : decode b_Bl_addMemberLines 27 = .ok (.getfield 20, 3) := by decide +kernel
theorem d_Bl_addMemberLines_30 : decode b_Bl_addMemberLines 30 = .ok (.invokevirtual 79, 3) := by decide +kernel
theorem d_Bl_addMemberLines_33 : decode b_Bl_addMemberLines 33 = .ok (.iinc 3 1, 3) := by decide +kernel
theorem d_Bl_addMemberLines_36 : decode b_Bl_addMemberLines 36 = .ok (.goto (-34), 3) := by decide +kernel
theorem d_Bl_addMemberLines_39 : decode b_Bl_addMemberLines 39 = .ok (.return_, 1) := by decide +kernel
theorem d_Bl_firstDifference_0 : decode b_Bl_firstDifference 0 = .ok (.aload_n 0, 1) := by decide +kernel
theorem d_Bl_firstDifference_1 : decode b_Bl_firstDifference 1 = .ok (.getfield 20, 3) := by decide +kernel
theorem d_Bl_firstDifference_4 : decode b_Bl_firstDifference 4 = .ok (.aload_n 1, 1) := by decide +kernel
theorem d_Bl_firstDifference_5 : decode b_Bl_firstDifference 5 = .ok (.getfield 20, 3) := by decide +kernel
theorem d_Bl_firstDifference_8 : decode b_Bl_firstDifference 8 = .ok (.if_icmp .eq 5, 3) := by decide +kernel
theorem d_Bl_firstDifference_11 : decode b_Bl_firstDifference 11 = .ok (.iconst 1, 1) := by decide +kernel
theorem d_Bl_firstDifference_12 : decode b_Bl_firstDifference 12 = .ok (.ireturn, 1) := by decide +kernel
theorem d_Bl_firstDifference_13 : decode b_Bl_firstDifference 13 = .ok (.iconst 2, 1) := by decide +kernel
theorem d_Bl_firstDifference_14 : decode b_Bl_firstDifference 14 = .ok (.istore_n 2, 1) := by decide +kernel
theorem d_Bl_firstDifference_15 : decode b_Bl_firstDifference 15 = .ok (.iconst 0, 1) := by decide +kernel
theorem d_Bl_firstDifference_16 : decode b_Bl_firstDifference 16 = .ok (.istore_n 3, 1) := by decide +kernel
theorem d_Bl_firstDifference_17 : decode b_Bl_firstDifference 17 = .ok (.iload_n 3, 1) := by decide +kernel
theorem d_Bl_firstDifference_18 : decode b_Bl_firstDifference 18 = .ok (.bipush 12, 2) := by decide +kernel
theorem d_Bl_firstDifference_20 : decode b_Bl_firstDifference 20 = .ok (.if_icmp .ge 117, 3) := by decide +kernel
theorem d_Bl_firstDifference_23 : decode b_Bl_firstDifference 23 = .ok (.aload_n 0, 1) := by decide +kernel
theorem d_Bl_firstDifference_24 : decode b_Bl_firstDifference 24 = .ok (.getfield 14, 3) := by decide +kernel
theorem d_Bl_firstDifference_27 : decode b_Bl_firstDifference 27 = .ok (.iload_n 3, 1) := by decide +kernel
theorem d_Bl_firstDifference_28 : decode b_Bl_firstDifference 28 = .ok (.invokevirtual 31, 3) := by decide +kernel
theorem d_Bl_firstDifference_31 : decode b_Bl_firstDifference 31 = .ok (.checkcast 35, 3) := by decide +kernel
theorem d_Bl_firstDifference_34 : decode b_Bl_firstDifference 34 = .ok (.astore 4, 2) := by decide +kernel
theorem d_Bl_firstDifference_36 : decode b_Bl_firstDifference 36 = .ok (.aload_n 1, 1) := by decide +kernel
theorem d_Bl_firstDifference_37 : decode b_Bl_firstDifference 37 = .ok (.getfield 14, 3) := by decide +kernel
theorem d_Bl_firstDifference_40 : decode b_Bl_firstDifference 40 = .ok (.iload_n 3, 1) := by decide +kernel
theorem d_Bl_firstDifference_41 : decode b_Bl_firstDifference 41 = .ok (.invokevirtual 31, 3) := by decide +kernel
theorem d_Bl_firstDifference_44 : decode b_Bl_firstDifference 44 = .ok (.checkcast 35, 3) := by decide +kernel
theorem d_Bl_firstDifference_47 : decode b_Bl_firstDifference 47 = .ok (.astore 5, 2) := by decide +kernel
theorem d_Bl_firstDifference_49 : decode b_Bl_firstDifference 49 = .ok (.aload 4, 2) := by decide +kernel
theorem d_Bl_firstDifference_51 : decode b_Bl_firstDifference 51 = .ok (.ifnonnull 10, 3) := by decide +kernel
theorem d_Bl_firstDifference_54 : decode b_Bl_firstDifference 54 = .ok (.aload 5, 2) := by decide +kernel
theorem d_Bl_firstDifference_56 : decode b_Bl_firstDifference 56 = .ok (.ifnonnull 5, 3) := by decide +kernel
theorem d_Bl_firstDifference_59 : decode b_Bl_firstDifference 59 = .ok (.iconst 0, 1) := by decide +kernel
theorem d_Bl_firstDifference_60 : decode b_Bl_firstDifference 60 = .ok (.ireturn, 1) := by decide +kernel
theorem d_Bl_firstDifference_61 : decode b_Bl_firstDifference 61 = .ok (.aload 4, 2) := by decide +kernel
theorem d_Bl_firstDifference_63 : decode b_Bl_firstDifference 63 = .ok (.ifnull 18, 3) := by decide +kernel
theorem d_Bl_firstDifference_66 : decode b_Bl_firstDifference 66 = .ok (.aload 5, 2) := by decide +kernel
theorem d_Bl_firstDifference_68 : decode b_Bl_firstDifference 68 = .ok (.ifnull 13, 3) := by decide +kernel
theorem d_Bl_firstDifference_71 : decode b_Bl_firstDifference 71 = .ok (.aload 4, 2) := by decide +kernel
theorem d_Bl_firstDifference_73 : decode b_Bl_firstDifference 73 = .ok (.aload 5, 2) := by decide +kernel
theorem d_Bl_firstDifference_75 : decode b_Bl_firstDifference 75 = .ok (.invokevirtual 82, 3) := by decide +kernel
theorem d_Bl_firstDifference_78 : decode b_Bl_firstDifference 78 = .ok (.ifCond .ne 5, 3) := by decide +kernel
theorem d_Bl_firstDifference_81 : decode b_Bl_firstDifference 81 = .ok (.iload_n 2, 1) := by decide +kernel
theorem d_Bl_firstDifference_82 : decode b_Bl_firstDifference 82 = .ok (.ireturn, 1) := by decide +kernel
theorem d_Bl_firstDifference_83 : decode b_Bl_firstDifference 83 = .ok (.aload 4, 2) := by decide +kernel
theorem d_Bl_firstDifference_85 : decode b_Bl_firstDifference 85 = .ok (.getfield 56, 3) := by decide +kernel
theorem d_Bl_firstDifference_88 : decode b_Bl_firstDifference 88 = .ok (.aload 5, 2) := by decide +kernel
theorem d_Bl_firstDifference_90 : decode b_Bl_firstDifference 90 = .ok (.getfield 56, 3) := by decide +kernel
theorem d_Bl_firstDifference_93 : decode b_Bl_firstDifference 93 = .ok (.invokestatic 86, 3) := by decide +kernel
theorem d_Bl_firstDifference_96 : decode b_Bl_firstDifference 96 = .ok (.istore 6, 2) := by decide +kernel
theorem d_Bl_firstDifference_98 : decode b_Bl_firstDifference 98 = .ok (.iload_n 2, 1) := by decide +kernel
theorem d_Bl_firstDifference_99 : decode b_Bl_firstDifference 99 = .ok (.iconst 1, 1) := by decide +kernel
theorem d_Bl_firstDifference_100 : decode b_Bl_firstDifference 100 = .ok (.iload 6, 2) := by decide +kernel
theorem d_Bl_firstDifference_102 : decode b_Bl_firstDifference 102 = .ok (.iadd, 1) := by decide +kernel
theorem d_Bl_firstDifference_103 : decode b_Bl_firstDifference 103 = .ok (.iadd, 1) := by decide +kernel
theorem d_Bl_firstDifference_104 : decode b_Bl_firstDifference 104 = .ok (.istore_n 2, 1) := by decide +kernel
theorem d_Bl_firstDifference_105 : decode b_Bl_firstDifference 105 = .ok (.iload 6, 2) := by decide +kernel
theorem d_Bl_firstDifference_107 : decode b_Bl_firstDifference 107 = .ok (.aload 4, 2) := by decide +kernel
theorem d_Bl_firstDifference_109 : decode b_Bl_firstDifference 109 = .ok (.getfield 56, 3) := by decide +kernel
theorem d_Bl_firstDifference_112 : decode b_Bl_firstDifference 112 = .ok (.invokevirtual 27, 3) := by decide +kernel
theorem d_Bl_firstDifference_115 : decode b_Bl_firstDifference 115 = .ok (.aload 5, 2) := by decide +kernel
theorem d_Bl_firstDifference_117 : decode b_Bl_firstDifference 117 = .ok (.getfield 56, 3) := by decide +kernel
theorem d_Bl_firstDifference_120 : decode b_Bl_firstDifference 120 = .ok (.invokevirtual 27, 3) := by decide +kernel
theorem d_Bl_firstDifference_123 : decode b_Bl_firstDifference 123 = .ok (.invokestatic 90, 3) := by decide +kernel
theorem d_Bl_firstDifference_126 : decode b_Bl_firstDifference 126 = .ok (.if_icmp .ge 5, 3) := by decide +kernel
theorem d_Bl_firstDifference_129 : decode b_Bl_firstDifference 129 = .ok (.iload_n 2, 1) := by decide +kernel
theorem d_Bl_firstDifference_130 : decode b_Bl_firstDifference 130 = .ok (.ireturn, 1) := by decide +kernel
theorem d_Bl_firstDifference_131 : decode b_Bl_firstDifference 131 = .ok (.iinc 3 1, 3) := by decide +kernel
theorem d_Bl_firstDifference_134 : decode b_Bl_firstDifference 134 = .ok (.goto (-117), 3) := by decide +kernel
theorem d_Bl_firstDifference_137 : decode b_Bl_firstDifference 137 = .ok (.iconst 0, 1) := by decide +kernel
theorem d_Bl_firstDifference_138 : decode b_Bl_firstDifference 138 = .ok (.ireturn, 1) := by decide +kernel
theorem d_Bl_sameMembers_0 : decode b_Bl_sameMembers 0 = .ok (.aload_n 0, 1) := by decide +kernel
theorem d_Bl_sameMembers_1 : decode b_Bl_sameMembers 1 = .ok (.invokevirtual 27, 3) := by decide +kernel
theorem d_Bl_sameMembers_4 : decode b_Bl_sameMembers 4 = .ok (.aload_n 1, 1) := by decide +kernel
theorem d_Bl_sameMembers_5 : decode b_Bl_sameMembers 5 = .ok (.invokevirtual 27, 3) := by decide +kernel
theorem d_Bl_sameMembers_8 : decode b_Bl_sameMembers 8 = .ok (.invokestatic 96, 3) := by decide +kernel
theorem d_Bl_sameMembers_11 : decode b_Bl_sameMembers 11 = .ok (.istore_n 2, 1) := by decide +kernel
theorem d_Bl_sameMembers_12 : decode b_Bl_sameMembers 12 = .ok (.iconst 0, 1) := by decide +kernel
theorem d_Bl_sameMembers_13 : decode b_Bl_sameMembers 13 = .ok (.istore_n 3, 1) := by decide +kernel
theorem d_Bl_sameMembers_14 : decode b_Bl_sameMembers 14 = .ok (.iload_n 3, 1) := by decide +kernel
theorem d_Bl_sameMembers_15 : decode b_Bl_sameMembers 15 = .ok (.iload_n 2, 1) := by decide +kernel
theorem d_Bl_sameMembers_16 : decode b_Bl_sameMembers 16 = .ok (.if_icmp .ge 45, 3) := by decide +kernel
theorem d_Bl_sameMembers_19 : decode b_Bl_sameMembers 19 = .ok (.aload_n 0, 1) := by decide +kernel
theorem d_Bl_sameMembers_20 : decode b_Bl_sameMembers 20 = .ok (.iload_n 3, 1) := by decide +kernel
theorem d_Bl_sameMembers_21 : decode b_Bl_sameMembers 21 = .ok (.invokevirtual 31, 3) := by decide +kernel
theorem d_Bl_sameMembers_24 : decode b_Bl_sameMembers 24 = .ok (.astore 4, 2) := by decide +kernel
theorem d_Bl_sameMembers_26 : decode b_Bl_sameMembers 26 = .ok (.aload_n 1, 1) := by decide +kernel
theorem d_Bl_sameMembers_27 : decode b_Bl_sameMembers 27 = .ok (.iload_n 3, 1) := by decide +kernel
theorem d_Bl_sameMembers_28 : decode b_Bl_sameMembers 28 = .ok (.invokevirtual 31, 3) := by decide +kernel
theorem d_Bl_sameMembers_31 : decode b_Bl_sameMembers 31 = .ok (.astore 5, 2) := by decide +kernel
theorem d_Bl_sameMembers_33 : decode b_Bl_sameMembers 33 = .ok (.aload 4, 2) := by decide +kernel
theorem d_Bl_sameMembers_35 : decode b_Bl_sameMembers 35 = .ok (.ifnull 18, 3) := by decide +kernel
theorem d_Bl_sameMembers_38 : decode b_Bl_sameMembers 38 = .ok (.aload 5, 2) := by decide +kernel
theorem d_Bl_sameMembers_40 : decode b_Bl_sameMembers 40 = .ok (.ifnull 13, 3) := by decide +kernel
theorem d_Bl_sameMembers_43 : decode b_Bl_sameMembers 43 = .ok (.aload 4, 2) := by decide +kernel
theorem d_Bl_sameMembers_45 : decode b_Bl_sameMembers 45 = .ok (.aload 5, 2) := by decide +kernel
theorem d_Bl_sameMembers_47 : decode b_Bl_sameMembers 47 = .ok (.invokevirtual 99, 3) := by decide +kernel
theorem d_Bl_sameMembers_50 : decode b_Bl_sameMembers 50 = .ok (.ifCond .ne 5, 3) := by decide +kernel
theorem d_Bl_sameMembers_53 : decode b_Bl_sameMembers 53 = .ok (.iload_n 3, 1) := by decide +kernel
theorem d_Bl_sameMembers_54 : decode b_Bl_sameMembers 54 = .ok (.ireturn, 1) := by decide +kernel
theorem d_Bl_sameMembers_55 : decode b_Bl_sameMembers 55 = .ok (.iinc 3 1, 3) := by decide +kernel
theorem d_Bl_sameMembers_58 : decode b_Bl_sameMembers 58 = .ok (.goto (-44), 3) := by decide +kernel
theorem d_Bl_sameMembers_61 : decode b_Bl_sameMembers 61 = .ok (.iload_n 2, 1) := by decide +kernel
theorem d_Bl_sameMembers_62 : decode b_Bl_sameMembers 62 = .ok (.ireturn, 1) := by decide +kernel
theorem d_Bl_linesMissingIn_0 : decode b_Bl_linesMissingIn 0 = .ok (.aload_n 0, 1) := by decide +kernel
theorem d_Bl_linesMissingIn_1 : decode b_Bl_linesMissingIn 1 = .ok (.getfield 20, 3) := by decide +kernel
theorem d_Bl_linesMissingIn_4 : decode b_Bl_linesMissingIn 4 = .ok (.aload_n 1, 1) := by decide +kernel
theorem d_Bl_linesMissingIn_5 : decode b_Bl_linesMissingIn 5 = .ok (.getfield 20, 3) := by decide +kernel
theorem d_Bl_linesMissingIn_8 : decode b_Bl_linesMissingIn 8 = .ok (.if_icmp .ne 7, 3) := by decide +kernel
theorem d_Bl_linesMissingIn_11 : decode b_Bl_linesMissingIn 11 = .ok (.iconst 1, 1) := by decide +kernel
theorem d_Bl_linesMissingIn_12 : decode b_Bl_linesMissingIn 12 = .ok (.goto 4, 3) := by decide +kernel
theorem d_Bl_linesMissingIn_15 : decode b_Bl_linesMissingIn 15 = .ok (.iconst 0, 1) := by decide +kernel
theorem d_Bl_linesMissingIn_16 : decode b_Bl_linesMissingIn 16 = .ok (.istore_n 2, 1) := by decide +kernel
theorem d_Bl_linesMissingIn_17 : decode b_Bl_linesMissingIn 17 = .ok (.iconst 0, 1) := by decide +kernel
theorem d_Bl_linesMissingIn_18 : decode b_Bl_linesMissingIn 18 = .ok (.istore_n 3, 1) := by decide +kernel
theorem d_Bl_linesMissingIn_19 : decode b_Bl_linesMissingIn 19 = .ok (.iconst 0, 1) := by decide +kernel
theorem d_Bl_linesMissingIn_20 : decode b_Bl_linesMissingIn 20 = .ok (.istore 4, 2) := by decide +kernel
theorem d_Bl_linesMissingIn_22 : decode b_Bl_linesMissingIn 22 = .ok (.iload 4, 2) := by decide +kernel
theorem d_Bl_linesMissingIn_24 : decode b_Bl_linesMissingIn 24 = .ok (.aload_n 0, 1) := by decide +kernel
theorem d_Bl_linesMissingIn_25 : decode b_Bl_linesMissingIn 25 = .ok (.getfield 14, 3) := by decide +kernel
theorem d_Bl_linesMissingIn_28 : decode b_Bl_linesMissingIn 28 = .ok (.invokevirtual 27, 3) := by decide +kernel
theorem d_Bl_linesMissingIn_31 : decode b_Bl_linesMissingIn 31 = .ok (.if_icmp .ge 72, 3) := by decide +kernel
theorem d_Bl_linesMissingIn_34 : decode b_Bl_linesMissingIn 34 = .ok (.aload_n 0, 1) := by decide +kernel
theorem d_Bl_linesMissingIn_35 : decode b_Bl_linesMissingIn 35 = .ok (.getfield 14, 3) := by decide +kernel
theorem d_Bl_linesMissingIn_38 : decode b_Bl_linesMissingIn 38 = .ok (.iload 4, 2) := by decide +kernel
theorem d_Bl_linesMissingIn_40 : decode b_Bl_linesMissingIn 40 = .ok (.invokevirtual 31, 3) := by decide +kernel
theorem d_Bl_linesMissingIn_43 : decode b_Bl_linesMissingIn 43 = .ok (.checkcast 35, 3) := by decide +kernel
theorem d_Bl_linesMissingIn_46 : decode b_Bl_linesMissingIn 46 = .ok (.astore 5, 2) := by decide +kernel
theorem d_Bl_linesMissingIn_48 : decode b_Bl_linesMissingIn 48 = .ok (.aload 5, 2) := by decide +kernel
theorem d_Bl_linesMissingIn_50 : decode b_Bl_linesMissingIn 50 = .ok (.ifnull 47, 3) := by decide +kernel
theorem d_Bl_linesMissingIn_53 : decode b_Bl_linesMissingIn 53 = .ok (.aload_n 1, 1) := by decide +kernel
theorem d_Bl_linesMissingIn_54 : decode b_Bl_linesMissingIn 54 = .ok (.aload 5, 2) := by decide +kernel
theorem d_Bl_linesMissingIn_56 : decode b_Bl_linesMissingIn 56 = .ok (.getfield 37, 3) := by decide +kernel
theorem d_Bl_linesMissingIn_59 : decode b_Bl_linesMissingIn 59 = .ok (.invokevirtual 100, 3) := by decide +kernel
theorem d_Bl_linesMissingIn_62 : decode b_Bl_linesMissingIn 62 = .ok (.astore 6, 2) := by decide +kernel
theorem d_Bl_linesMissingIn_64 : decode b_Bl_linesMissingIn 64 = .ok (.iload_n 3, 1) := by decide +kernel
theorem d_Bl_linesMissingIn_65 : decode b_Bl_linesMissingIn 65 = .ok (.aload 5, 2) := by decide +kernel
theorem d_Bl_linesMissingIn_67 : decode b_Bl_linesMissingIn 67 = .ok (.aload 6, 2) := by decide +kernel
theorem d_Bl_linesMissingIn_69 : decode b_Bl_linesMissingIn 69 = .ok (.iload_n 2, 1) := by decide +kernel
theorem d_Bl_linesMissingIn_70 : decode b_Bl_linesMissingIn 70 = .ok (.invokestatic 104, 3) := by decide +kernel
theorem d_Bl_linesMissingIn_73 : decode b_Bl_linesMissingIn 73 = .ok (.ifCond .eq 7, 3) := by decide +kernel
theorem d_Bl_linesMissingIn_76 : decode b_Bl_linesMissingIn 76 = .ok (.iconst 0, 1) := by decide +kernel
theorem d_Bl_linesMissingIn_77 : decode b_Bl_linesMissingIn 77 = .ok (.goto 4, 3) := by decide +kernel
theorem d_Bl_linesMissingIn_80 : decode b_Bl_linesMissingIn 80 = .ok (.iconst 1, 1) := by decide +kernel
theorem d_Bl_linesMissingIn_81 : decode b_Bl_linesMissingIn 81 = .ok (.iadd, 1) := by decide +kernel
theorem d_Bl_linesMissingIn_82 : decode b_Bl_linesMissingIn 82 = .ok (.istore_n 3, 1) := by decide +kernel
theorem d_Bl_linesMissingIn_83 : decode b_Bl_linesMissingIn 83 = .ok (.iload_n 3, 1) := by decide +kernel
theorem d_Bl_linesMissingIn_84 : decode b_Bl_linesMissingIn 84 = .ok (.aload 6, 2) := by decide +kernel
theorem d_Bl_linesMissingIn_86 : decode b_Bl_linesMissingIn 86 = .ok (.aload 5, 2) := by decide +kernel
theorem d_Bl_linesMissingIn_88 : decode b_Bl_linesMissingIn 88 = .ok (.getfield 56, 3) := by decide +kernel
theorem d_Bl_linesMissingIn_91 : decode b_Bl_linesMissingIn 91 = .ok (.iload_n 2, 1) := by decide +kernel
theorem d_Bl_linesMissingIn_92 : decode b_Bl_linesMissingIn 92 = .ok (.invokestatic 108, 3) := by decide +kernel
theorem d_Bl_linesMissingIn_95 : decode b_Bl_linesMissingIn 95 = .ok (.iadd, 1) := by decide +kernel
theorem d_Bl_linesMissingIn_96 : decode b_Bl_linesMissingIn 96 = .ok (.istore_n 3, 1) := by decide +kernel
theorem d_Bl_linesMissingIn_97 : decode b_Bl_linesMissingIn 97 = .ok (.iinc 4 1, 3) := by decide +kernel
theorem d_Bl_linesMissingIn_100 : decode b_Bl_linesMissingIn 100 = .ok (.goto (-78), 3) := by decide +kernel
theorem d_Bl_linesMissingIn_103 : decode b_Bl_linesMissingIn 103 = .ok (.iload_n 3, 1) := by decide +kernel
theorem d_Bl_linesMissingIn_104 : decode b_Bl_linesMissingIn 104 = .ok (.ireturn, 1) := by decide +kernel
theorem d_Bl_isSameLine_0 : decode b_Bl_isSameLine 0 = .ok (.aload_n 1, 1) := by decide +kernel
theorem d_Bl_isSameLine_1 : decode b_Bl_isSameLine 1 = .ok (.ifnull 26, 3) := by decide +kernel
theorem d_Bl_isSameLine_4 : decode b_Bl_isSameLine 4 = .ok (.aload_n 0, 1) := by decide +kernel
theorem d_Bl_isSameLine_5 : decode b_Bl_isSameLine 5 = .ok (.aload_n 1, 1) := by decide +kernel
theorem d_Bl_isSameLine_6 : decode b_Bl_isSameLine 6 = .ok (.invokevirtual 99, 3) := by decide +kernel
theorem d_Bl_isSameLine_9 : decode b_Bl_isSameLine 9 = .ok (.ifCond .eq 18, 3) := by decide +kernel
theorem d_Bl_isSameLine_12 : decode b_Bl_isSameLine 12 = .ok (.iload_n 2, 1) := by decide +kernel
theorem d_Bl_isSameLine_13 : decode b_Bl_isSameLine 13 = .ok (.ifCond .ne 10, 3) := by decide +kernel
theorem d_Bl_isSameLine_16 : decode b_Bl_isSameLine 16 = .ok (.aload_n 0, 1) := by decide +kernel
theorem d_Bl_isSameLine_17 : decode b_Bl_isSameLine 17 = .ok (.invokevirtual 116, 3) := by decide +kernel
theorem d_Bl_isSameLine_20 : decode b_Bl_isSameLine 20 = .ok (.ifCond .eq 7, 3) := by decide +kernel
theorem d_Bl_isSameLine_23 : decode b_Bl_isSameLine 23 = .ok (.iconst 1, 1) := by decide +kernel
theorem d_Bl_isSameLine_24 : decode b_Bl_isSameLine 24 = .ok (.goto 4, 3) := by decide +kernel
theorem d_Bl_isSameLine_27 : decode b_Bl_isSameLine 27 = .ok (.iconst 0, 1) := by decide +kernel
theorem d_Bl_isSameLine_28 : decode b_Bl_isSameLine 28 = .ok (.ireturn, 1) := by decide +kernel
theorem d_Bl_membersMissingIn_0 : decode b_Bl_membersMissingIn 0 = .ok (.aload_n 0, 1) := by decide +kernel
theorem d_Bl_membersMissingIn_1 : decode b_Bl_membersMissingIn 1 = .ok (.ifnonnull 8, 3) := by decide +kernel
theorem d_Bl_membersMissingIn_4 : decode b_Bl_membersMissingIn 4 = .ok (.aload_n 1, 1) := by decide +kernel
theorem d_Bl_membersMissingIn_5 : decode b_Bl_membersMissingIn 5 = .ok (.invokevirtual 27, 3) := by decide +kernel
theorem d_Bl_membersMissingIn_8 : decode b_Bl_membersMissingIn 8 = .ok (.ireturn, 1) := by decide +kernel
theorem d_Bl_membersMissingIn_9 : decode b_Bl_membersMissingIn 9 = .ok (.iconst 0, 1) := by decide +kernel
theorem d_Bl_membersMissingIn_10 : decode b_Bl_membersMissingIn 10 = .ok (.istore_n 3, 1) := by decide +kernel
theorem d_Bl_membersMissingIn_11 : decode b_Bl_membersMissingIn 11 = .ok (.iconst 0, 1) := by decide +kernel
theorem d_Bl_membersMissingIn_12 : decode b_Bl_membersMissingIn 12 = .ok (.istore 4, 2) := by decide +kernel
theorem d_Bl_membersMissingIn_14 : decode b_Bl_membersMissingIn 14 = .ok (.iload 4, 2) := by decide +kernel
theorem d_Bl_membersMissingIn_16 : decode b_Bl_membersMissingIn 16 = .ok (.aload_n 1, 1) := by decide +kernel
theorem d_Bl_membersMissingIn_17 : decode b_Bl_membersMissingIn 17 = .ok (.invokevirtual 27, 3) := by decide +kernel
theorem d_Bl_membersMissingIn_20 : decode b_Bl_membersMissingIn 20 = .ok (.if_icmp .ge 43, 3) := by decide +kernel
theorem d_Bl_membersMissingIn_23 : decode b_Bl_membersMissingIn 23 = .ok (.aload_n 1, 1) := by decide +kernel
theorem d_Bl_membersMissingIn_24 : decode b_Bl_membersMissingIn 24 = .ok (.iload 4, 2) := by decide +kernel
theorem d_Bl_membersMissingIn_26 : decode b_Bl_membersMissingIn 26 = .ok (.invokevirtual 31, 3) := by decide +kernel
theorem d_Bl_membersMissingIn_29 : decode b_Bl_membersMissingIn 29 = .ok (.astore 5, 2) := by decide +kernel
theorem d_Bl_membersMissingIn_31 : decode b_Bl_membersMissingIn 31 = .ok (.aload 5, 2) := by decide +kernel
theorem d_Bl_membersMissingIn_33 : decode b_Bl_membersMissingIn 33 = .ok (.ifnull 24, 3) := by decide +kernel
theorem d_Bl_membersMissingIn_36 : decode b_Bl_membersMissingIn 36 = .ok (.aload 5, 2) := by decide +kernel
theorem d_Bl_membersMissingIn_38 : decode b_Bl_membersMissingIn 38 = .ok (.aload_n 0, 1) := by decide +kernel
theorem d_Bl_membersMissingIn_39 : decode b_Bl_membersMissingIn 39 = .ok (.getfield 56, 3) := by decide +kernel
theorem d_Bl_membersMissingIn_42 : decode b_Bl_membersMissingIn 42 = .ok (.aload 5, 2) := by decide +kernel
theorem d_Bl_membersMissingIn_44 : decode b_Bl_membersMissingIn 44 = .ok (.invokevirtual 112, 3) := by decide +kernel
theorem d_Bl_membersMissingIn_47 : decode b_Bl_membersMissingIn 47 = .ok (.iload_n 2, 1) := by decide +kernel
theorem d_Bl_membersMissingIn_48 : decode b_Bl_membersMissingIn 48 = .ok (.invokestatic 104, 3) := by decide +kernel
theorem d_Bl_membersMissingIn_51 : decode b_Bl_membersMissingIn 51 = .ok (.ifCond .ne 6, 3) := by decide +kernel
theorem d_Bl_membersMissingIn_54 : decode b_Bl_membersMissingIn 54 = .ok (.iinc 3 1, 3) := by decide +kernel
theorem d_Bl_membersMissingIn_57 : decode b_Bl_membersMissingIn 57 = .ok (.iinc 4 1, 3) := by decide +kernel
theorem d_Bl_membersMissingIn_60 : decode b_Bl_membersMissingIn 60 = .ok (.goto (-46), 3) := by decide +kernel
theorem d_Bl_membersMissingIn_63 : decode b_Bl_membersMissingIn 63 = .ok (.iload_n 3, 1) := by decide +kernel
theorem d_Bl_membersMissingIn_64 : decode b_Bl_membersMissingIn 64 = .ok (.ireturn, 1) := by decide +kernel
end
section
theorem d_B_init_0 : decode b_B_init 0 = .ok (.aload_n 0, 1) := by decide +kernel
theorem d_B_init_1 : decode b_B_init 1 = .ok (.invokespecial 1, 3) := by decide +kernel
theorem d_B_init_4 : decode b_B_init 4 = .ok (.aload_n 0, 1) := by decide +kernel
theorem d_B_init_5 : decode b_B_init 5 = .ok (.new 7, 3) := by decide +kernel
theorem d_B_init_8 : decode b_B_init 8 = .ok (.dup, 1) := by decide +kernel
theorem d_B_init_9 : decode b_B_init 9 = .ok (.sipush 480, 3) := by decide +kernel
theorem d_B_init_12 : decode b_B_init 12 = .ok (.invokespecial 11, 3) := by decide +kernel
theorem d_B_init_15 : decode b_B_init 15 = .ok (.putfield 14, 3) := by decide +kernel
theorem d_B_init_18 : decode b_B_init 18 = .ok (.aload_n 0, 1) := by decide +kernel
theorem d_B_init_19 : decode b_B_init 19 = .ok (.new 7, 3) := by decide +kernel
theorem d_B_init_22 : decode b_B_init 22 = .ok (.dup, 1) := by decide +kernel
theorem d_B_init_23 : decode b_B_init 23 = .ok (.sipush 480, 3) := by decide +kernel
theorem d_B_init_26 : decode b_B_init 26 = .ok (.invokespecial 11, 3) := by decide +kernel
theorem d_B_init_29 : decode b_B_init 29 = .ok (.putfield 18, 3) := by decide +kernel
theorem d_B_init_32 : decode b_B_init 32 = .ok (.aload_n 0, 1) := by decide +kernel
theorem d_B_init_33 : decode b_B_init 33 = .ok (.new 21, 3) := by decide +kernel
theorem d_B_init_36 : decode b_B_init 36 = .ok (.dup, 1) := by decide +kernel
theorem d_B_init_37 : decode b_B_init 37 = .ok (.invokespecial 23, 3) := by decide +kernel
theorem d_B_init_40 : decode b_B_init 40 = .ok (.putfield 24, 3) := by decide +kernel
theorem d_B_init_43 : decode b_B_init 43 = .ok (.aload_n 0, 1) := by decide +kernel
theorem d_B_init_44 : decode b_B_init 44 = .ok (.new 28, 3) := by decide +kernel
theorem d_B_init_47 : decode b_B_init 47 = .ok (.dup, 1) := by decide +kernel
theorem d_B_init_48 : decode b_B_init 48 = .ok (.invokespecial 30, 3) := by decide +kernel
theorem d_B_init_51 : decode b_B_init 51 = .ok (.putfield 31, 3) := by decide +kernel
theorem d_B_init_54 : decode b_B_init 54 = .ok (.aload_n 0, 1) := by decide +kernel
theorem d_B_init_55 : decode b_B_init 55 = .ok (.new 28, 3) := by decide +kernel
theorem d_B_init_58 : decode b_B_init 58 = .ok (.dup, 1) := by decide +kernel
theorem d_B_init_59 : decode b_B_init 59 = .ok (.invokespecial 30, 3) := by decide +kernel
theorem d_B_init_62 : decode b_B_init 62 = .ok (.putfield 35, 3) := by decide +kernel
theorem d_B_init_65 : decode b_B_init 65 = .ok (.return_, 1) := by decide +kernel
theorem d_AL_init_0 : decode b_AL_init 0 = .ok (.aload_n 0, 1) := by decide +kernel
theorem d_AL_init_1 : decode b_AL_init 1 = .ok (.invokespecial 1, 3) := by decide +kernel
theorem d_AL_init_4 : decode b_AL_init 4 = .ok (.aload_n 0, 1) := by decide +kernel
theorem d_AL_init_5 : decode b_AL_init 5 = .ok (.getstatic 39, 3) := by decide +kernel
theorem d_AL_init_8 : decode b_AL_init 8 = .ok (.putfield 9, 3) := by decide +kernel
theorem d_AL_init_11 : decode b_AL_init 11 = .ok (.return_, 1) := by decide +kernel
theorem d_AbL_init_0 : decode b_AbL_init 0 = .ok (.aload_n 0, 1) := by decide +kernel
theorem d_AbL_init_1 : decode b_AbL_init 1 = .ok (.invokespecial 1, 3) := by decide +kernel
theorem d_AbL_init_4 : decode b_AbL_init 4 = .ok (.aload_n 0, 1) := by decide +kernel
theorem d_AbL_init_5 : decode b_AbL_init 5 = .ok (.iconst 0, 1) := by decide +kernel
theorem d_AbL_init_6 : decode b_AbL_init 6 = .ok (.putfield 7, 3) := by decide +kernel
theorem d_AbL_init_9 : decode b_AbL_init 9 = .ok (.return_, 1) := by decide +kernel
theorem d_AbC_init_0 : decode b_AbC_init 0 = .ok (.aload_n 0, 1) := by decide +kernel
theorem d_AbC_init_1 : decode b_AbC_init 1 = .ok (.invokespecial 1, 3) := by decide +kernel
theorem d_AbC_init_4 : decode b_AbC_init 4 = .ok (.return_, 1) := by decide +kernel
theorem d_B_type_0 : decode b_B_type 0 = .ok (.iload_n 3, 1) := by decide +kernel
theorem d_B_type_1 : decode b_B_type 1 = .ok (.iconst 1, 1) := by decide +kernel
theorem d_B_type_2 : decode b_B_type 2 = .ok (.if_icmp .lt 24, 3) := by decide +kernel
theorem d_B_type_5 : decode b_B_type 5 = .ok (.iload_n 3, 1) := by decide +kernel
theorem d_B_type_6 : decode b_B_type 6 = .ok (.bipush 8, 2) := by decide +kernel
theorem d_B_type_8 : decode b_B_type 8 = .ok (.if_icmp .gt 18, 3) := by decide +kernel
theorem d_B_type_11 : decode b_B_type 11 = .ok (.aload_n 0, 1) := by decide +kernel
theorem d_B_type_12 : decode b_B_type 12 = .ok (.getfield 14, 3) := by decide +kernel
theorem d_B_type_15 : decode b_B_type 15 = .ok (.invokevirtual 38, 3) := by decide +kernel
theorem d_B_type_18 : decode b_B_type 18 = .ok (.iload_n 3, 1) := by decide +kernel
theorem d_B_type_19 : decode b_B_type 19 = .ok (.iadd, 1) := by decide +kernel
theorem d_B_type_20 : decode b_B_type 20 = .ok (.sipush 480, 3) := by decide +kernel
theorem d_B_type_23 : decode b_B_type 23 = .ok (.if_icmp .le 5, 3) := by decide +kernel
theorem d_B_type_26 : decode b_B_type 26 = .ok (.iconst (-1), 1) := by decide +kernel
theorem d_B_type_27 : decode b_B_type 27 = .ok (.ireturn, 1) := by decide +kernel
theorem d_B_type_28 : decode b_B_type 28 = .ok (.iconst 0, 1) := by decide +kernel
theorem d_B_type_29 : decode b_B_type 29 = .ok (.istore 4, 2) := by decide +kernel
theorem d_B_type_31 : decode b_B_type 31 = .ok (.iload 4, 2) := by decide +kernel
theorem d_B_type_33 : decode b_B_type 33 = .ok (.iload_n 3, 1) := by decide +kernel
theorem d_B_type_34 : decode b_B_type 34 = .ok (.if_icmp .ge 23, 3) := by decide +kernel
theorem d_B_type_37 : decode b_B_type 37 = .ok (.lload_n 1, 1) := by decide +kernel
theorem d_B_type_38 : decode b_B_type 38 = .ok (.iload 4, 2) := by decide +kernel
theorem d_B_type_40 : decode b_B_type 40 = .ok (.invokestatic 42, 3) := by decide +kernel
theorem d_B_type_43 : decode b_B_type 43 = .ok (.invokestatic 46, 3) := by decide +kernel
theorem d_B_type_46 : decode b_B_type 46 = .ok (.ifCond .ne 5, 3) := by decide +kernel
theorem d_B_type_49 : decode b_B_type 49 = .ok (.iconst (-1), 1) := by decide +kernel
theorem d_B_type_50 : decode b_B_type 50 = .ok (.ireturn, 1) := by decide +kernel
theorem d_B_type_51 : decode b_B_type 51 = .ok (.iinc 4 1, 3) := by decide +kernel
theorem d_B_type_54 : decode b_B_type 54 = .ok (.goto (-23), 3) := by decide +kernel
theorem d_B_type_57 : decode b_B_type 57 = .ok (.iload_n 3, 1) := by decide +kernel
theorem d_B_type_58 : decode b_B_type 58 = .ok (.iconst 1, 1) := by decide +kernel
theorem d_B_type_59 : decode b_B_type 59 = .ok (.isub, 1) := by decide +kernel
theorem d_B_type_60 : decode b_B_type 60 = .ok (.istore 4, 2) := by decide +kernel
theorem d_B_type_62 : decode b_B_type 62 = .ok (.iload 4, 2) := by decide +kernel
theorem d_B_type_64 : decode b_B_type 64 = .ok (.ifCond .lt 22, 3) := by decide +kernel
theorem d_B_type_67 : decode b_B_type 67 = .ok (.aload_n 0, 1) := by decide +kernel
theorem d_B_type_68 : decode b_B_type 68 = .ok (.getfield 14, 3) := by decide +kernel
theorem d_B_type_71 : decode b_B_type 71 = .ok (.lload_n 1, 1) := by decide +kernel
theorem d_B_type_72 : decode b_B_type 72 = .ok (.iload 4, 2) := by decide +kernel
theorem d_B_type_74 : decode b_B_type 74 = .ok (.invokestatic 42, 3) := by decide +kernel
theorem d_B_type_77 : decode b_B_type 77 = .ok (.invokevirtual 50, 3) := by decide +kernel
theorem d_B_type_80 : decode b_B_type 80 = .ok (.iinc 4 (-1), 3) := by decide +kernel
theorem d_B_type_83 : decode b_B_type 83 = .ok (.goto (-21), 3) := by decide +kernel
theorem d_B_type_86 : decode b_B_type 86 = .ok (.aload_n 0, 1) := by decide +kernel
theorem d_B_type_87 : decode b_B_type 87 = .ok (.getfield 14, 3) := by decide +kernel
theorem d_B_type_90 : decode b_B_type 90 = .ok (.invokevirtual 38, 3) := by decide +kernel
theorem d_B_type_93 : decode b_B_type 93 = .ok (.ireturn, 1) := by decide +kernel
theorem d_B_byteOf_0 : decode b_B_byteOf 0 = .ok (.lload_n 0, 1) := by decide +kernel
theorem d_B_byteOf_1 : decode b_B_byteOf 1 = .ok (.bipush 8, 2) := by decide +kernel
theorem d_B_byteOf_3 : decode b_B_byteOf 3 = .ok (.iload_n 2, 1) := by decide +kernel
theorem d_B_byteOf_4 : decode b_B_byteOf 4 = .ok (.imul, 1) := by decide +kernel
theorem d_B_byteOf_5 : decode b_B_byteOf 5 = .ok (.lushr, 1) := by decide +kernel
theorem d_B_byteOf_6 : decode b_B_byteOf 6 = .ok (.l2i, 1) := by decide +kernel
theorem d_B_byteOf_7 : decode b_B_byteOf 7 = .ok (.sipush 255, 3) := by decide +kernel
theorem d_B_byteOf_10 : decode b_B_byteOf 10 = .ok (.iand, 1) := by decide +kernel
theorem d_B_byteOf_11 : decode b_B_byteOf 11 = .ok (.ireturn, 1) := by decide +kernel
theorem d_B_isTextCode_0 : decode b_B_isTextCode 0 = .ok (.iload_n 0, 1) := by decide +kernel
theorem d_B_isTextCode_1 : decode b_B_isTextCode 1 = .ok (.bipush 10, 2) := by decide +kernel
theorem d_B_isTextCode_3 : decode b_B_isTextCode 3 = .ok (.if_icmp .eq 15, 3) := by decide +kernel
theorem d_B_isTextCode_6 : decode b_B_isTextCode 6 = .ok (.iload_n 0, 1) := by decide +kernel
theorem d_B_isTextCode_7 : decode b_B_isTextCode 7 = .ok (.bipush 32, 2) := by decide +kernel
theorem d_B_isTextCode_9 : decode b_B_isTextCode 9 = .ok (.if_icmp .lt 13, 3) := by decide +kernel
theorem d_B_isTextCode_12 : decode b_B_isTextCode 12 = .ok (.iload_n 0, 1) := by decide +kernel
theorem d_B_isTextCode_13 : decode b_B_isTextCode 13 = .ok (.bipush 126, 2) := by decide +kernel
theorem d_B_isTextCode_15 : decode b_B_isTextCode 15 = .ok (.if_icmp .gt 7, 3) := by decide +kernel
theorem d_B_isTextCode_18 : decode b_B_isTextCode 18 = .ok (.iconst 1, 1) := by decide +kernel
theorem d_B_isTextCode_19 : decode b_B_isTextCode 19 = .ok (.goto 4, 3) := by decide +kernel
theorem d_B_isTextCode_22 : decode b_B_isTextCode 22 = .ok (.iconst 0, 1) := by decide +kernel
theorem d_B_isTextCode_23 : decode b_B_isTextCode 23 = .ok (.ireturn, 1) := by decide +kernel
theorem d_B_clear_0 : decode b_B_clear 0 = .ok (.aload_n 0, 1) := by decide +kernel
theorem d_B_clear_1 : decode b_B_clear 1 = .ok (.getfield 14, 3) := by decide +kernel
theorem d_B_clear_4 : decode b_B_clear 4 = .ok (.invokevirtual 38, 3) := by decide +kernel
theorem d_B_clear_7 : decode b_B_clear 7 = .ok (.istore_n 1, 1) := by decide +kernel
theorem d_B_clear_8 : decode b_B_clear 8 = .ok (.aload_n 0, 1) := by decide +kernel
theorem d_B_clear_9 : decode b_B_clear 9 = .ok (.getfield 14, 3) := by decide +kernel
theorem d_B_clear_12 : decode b_B_clear 12 = .ok (.invokevirtual 53, 3) := by decide +kernel
theorem d_B_clear_15 : decode b_B_clear 15 = .ok (.iload_n 1, 1) := by decide +kernel
theorem d_B_clear_16 : decode b_B_clear 16 = .ok (.ireturn, 1) := by decide +kernel
theorem d_B_read_0 : decode b_B_read 0 = .ok (.aload_n 0, 1) := by decide +kernel
theorem d_B_read_1 : decode b_B_read 1 = .ok (.iload_n 1, 1) := by decide +kernel
theorem d_B_read_2 : decode b_B_read 2 = .ok (.invokevirtual 56, 3) := by decide +kernel
theorem d_B_read_5 : decode b_B_read 5 = .ok (.astore_n 2, 1) := by decide +kernel
theorem d_B_read_6 : decode b_B_read 6 = .ok (.aload_n 2, 1) := by decide +kernel
theorem d_B_read_7 : decode b_B_read 7 = .ok (.ifnonnull 5, 3) := by decide +kernel
theorem d_B_read_10 : decode b_B_read 10 = .ok (.iconst (-1), 1) := by decide +kernel
theorem d_B_read_11 : decode b_B_read 11 = .ok (.ireturn, 1) := by decide +kernel
theorem d_B_read_12 : decode b_B_read 12 = .ok (.aload_n 2, 1) := by decide +kernel
theorem d_B_read_13 : decode b_B_read 13 = .ok (.invokevirtual 60, 3) := by decide +kernel
theorem d_B_read_16 : decode b_B_read 16 = .ok (.aload_n 0, 1) := by decide +kernel
theorem d_B_read_17 : decode b_B_read 17 = .ok (.getfield 24, 3) := by decide +kernel
theorem d_B_read_20 : decode b_B_read 20 = .ok (.invokevirtual 61, 3) := by decide +kernel
theorem d_B_read_23 : decode b_B_read 23 = .ok (.new 62, 3) := by decide +kernel
theorem d_B_read_26 : decode b_B_read 26 = .ok (.dup, 1) := by decide +kernel
theorem d_B_read_27 : decode b_B_read 27 = .ok (.aload_n 0, 1) := by decide +kernel
theorem d_B_read_28 : decode b_B_read 28 = .ok (.getfield 14, 3) := by decide +kernel
theorem d_B_read_31 : decode b_B_read 31 = .ok (.aload_n 2, 1) := by decide +kernel
theorem d_B_read_32 : decode b_B_read 32 = .ok (.aload_n 0, 1) := by decide +kernel
theorem d_B_read_33 : decode b_B_read 33 = .ok (.getfield 24, 3) := by decide +kernel
theorem d_B_read_36 : decode b_B_read 36 = .ok (.invokespecial 64, 3) := by decide +kernel
theorem d_B_read_39 : decode b_B_read 39 = .ok (.astore_n 3, 1) := by decide +kernel
theorem d_B_read_40 : decode b_B_read 40 = .ok (.iconst 0, 1) := by decide +kernel
theorem d_B_read_41 : decode b_B_read 41 = .ok (.istore 4, 2) := by decide +kernel
theorem d_B_read_43 : decode b_B_read 43 = .ok (.iconst 0, 1) := by decide +kernel
theorem d_B_read_44 : decode b_B_read 44 = .ok (.istore 5, 2) := by decide +kernel
theorem d_B_read_46 : decode b_B_read 46 = .ok (.iload 5, 2) := by decide +kernel
theorem d_B_read_48 : decode b_B_read 48 = .ok (.aload_n 0, 1) := by decide +kernel
theorem d_B_read_49 : decode b_B_read 49 = .ok (.getfield 14, 3) := by decide +kernel
theorem d_B_read_52 : decode b_B_read 52 = .ok (.invokevirtual 38, 3) := by decide +kernel
theorem d_B_read_55 : decode b_B_read 55 = .ok (.if_icmp .gt 49, 3) := by decide +kernel
theorem d_B_read_58 : decode b_B_read 58 = .ok (.iload 5, 2) := by decide +kernel
theorem d_B_read_60 : decode b_B_read 60 = .ok (.aload_n 0, 1) := by decide +kernel
theorem d_B_read_61 : decode b_B_read 61 = .ok (.getfield 14, 3) := by decide +kernel
theorem d_B_read_64 : decode b_B_read 64 = .ok (.invokevirtual 38, 3) := by decide +kernel
theorem d_B_read_67 : decode b_B_read 67 = .ok (.if_icmp .eq 17, 3) := by decide +kernel
theorem d_B_read_70 : decode b_B_read 70 = .ok (.aload_n 0, 1) := by decide +kernel
theorem d_B_read_71 : decode b_B_read 71 = .ok (.getfield 14, 3) := by decide +kernel
theorem d_B_read_74 : decode b_B_read 74 = .ok (.iload 5, 2) := by decide +kernel
theorem d_B_read_76 : decode b_B_read 76 = .ok (.invokevirtual 67, 3) := by decide +kernel
theorem d_B_read_79 : decode b_B_read 79 = .ok (.bipush 10, 2) := by decide +kernel
theorem d_B_read_81 : decode b_B_read 81 = .ok (.if_icmp .ne 17, 3) := by decide +kernel
theorem d_B_read_84 : decode b_B_read 84 = .ok (.aload_n 3, 1) := by decide +kernel
theorem d_B_read_85 : decode b_B_read 85 = .ok (.iload 4, 2) := by decide +kernel
theorem d_B_read_87 : decode b_B_read 87 = .ok (.iload 5, 2) := by decide +kernel
theorem d_B_read_89 : decode b_B_read 89 = .ok (.invokevirtual 71, 3) := by decide +kernel
theorem d_B_read_92 : decode b_B_read 92 = .ok (.iload 5, 2) := by decide +kernel
theorem d_B_read_94 : decode b_B_read 94 = .ok (.iconst 1, 1) := by decide +kernel
theorem d_B_read_95 : decode b_B_read 95 = .ok (.iadd, 1) := by decide +kernel
theorem d_B_read_96 : decode b_B_read 96 = .ok (.istore 4, 2) := by decide +kernel
theorem d_B_read_98 : decode b_B_read 98 = .ok (.iinc 5 1, 3) := by decide +kernel
theorem d_B_read_101 : decode b_B_read 101 = .ok (.goto (-55), 3) := by decide +kernel
theorem d_B_read_104 : decode b_B_read 104 = .ok (.aload_n 0, 1) := by decide +kernel
theorem d_B_read_105 : decode b_B_read 105 = .ok (.getfield 24, 3) := by decide +kernel
theorem d_B_read_108 : decode b_B_read 108 = .ok (.invokevirtual 75, 3) := by decide +kernel
theorem d_B_read_111 : decode b_B_read 111 = .ok (.ireturn, 1) := by decide +kernel
theorem d_B_chosen_0 : decode b_B_chosen 0 = .ok (.iload_n 1, 1) := by decide +kernel
theorem d_B_chosen_1 : decode b_B_chosen 1 = .ok (.lookupswitch 37 #[(0, 27), (1, 32)], 27) := by decide +kernel
theorem d_B_chosen_28 : decode b_B_chosen 28 = .ok (.aload_n 0, 1) := by decide +kernel
theorem d_B_chosen_29 : decode b_B_chosen 29 = .ok (.getfield 31, 3) := by decide +kernel
theorem d_B_chosen_32 : decode b_B_chosen 32 = .ok (.areturn, 1) := by decide +kernel
theorem d_B_chosen_33 : decode b_B_chosen 33 = .ok (.aload_n 0, 1) := by decide +kernel
theorem d_B_chosen_34 : decode b_B_chosen 34 = .ok (.getfield 35, 3) := by decide +kernel
theorem d_B_chosen_37 : decode b_B_chosen 37 = .ok (.areturn, 1) := by decide +kernel
theorem d_B_chosen_38 : decode b_B_chosen 38 = .ok (.aconst_null, 1) := by decide +kernel
theorem d_B_chosen_39 : decode b_B_chosen 39 = .ok (.areturn, 1) := by decide +kernel
theorem d_Rd_init_0 : decode b_Rd_init 0 = .ok (.aload_n 0, 1) := by decide +kernel
theorem d_Rd_init_1 : decode b_Rd_init 1 = .ok (.invokespecial 3, 3) := by decide +kernel
theorem d_Rd_init_4 : decode b_Rd_init 4 = .ok (.aload_n 0, 1) := by decide +kernel
theorem d_Rd_init_5 : decode b_Rd_init 5 = .ok (.new 9, 3) := by decide +kernel
theorem d_Rd_init_8 : decode b_Rd_init 8 = .ok (.dup, 1) := by decide +kernel
theorem d_Rd_init_9 : decode b_Rd_init 9 = .ok (.invokespecial 11, 3) := by decide +kernel
theorem d_Rd_init_12 : decode b_Rd_init 12 = .ok (.putfield 12, 3) := by decide +kernel
theorem d_Rd_init_15 : decode b_Rd_init 15 = .ok (.aload_n 0, 1) := by decide +kernel
theorem d_Rd_init_16 : decode b_Rd_init 16 = .ok (.new 18, 3) := by decide +kernel
theorem d_Rd_init_19 : decode b_Rd_init 19 = .ok (.dup, 1) := by decide +kernel
theorem d_Rd_init_20 : decode b_Rd_init 20 = .ok (.aload_n 1, 1) := by decide +kernel
theorem d_Rd_init_21 : decode b_Rd_init 21 = .ok (.invokespecial 20, 3) := by decide +kernel
theorem d_Rd_init_24 : decode b_Rd_init 24 = .ok (.putfield 23, 3) := by decide +kernel
theorem d_Rd_init_27 : decode b_Rd_init 27 = .ok (.aload_n 0, 1) := by decide +kernel
theorem d_Rd_init_28 : decode b_Rd_init 28 = .ok (.aload_n 2, 1) := by decide +kernel
theorem d_Rd_init_29 : decode b_Rd_init 29 = .ok (.putfield 27, 3) := by decide +kernel
theorem d_Rd_init_32 : decode b_Rd_init 32 = .ok (.aload_n 0, 1) := by decide +kernel
theorem d_Rd_init_33 : decode b_Rd_init 33 = .ok (.aload_n 3, 1) := by decide +kernel
theorem d_Rd_init_34 : decode b_Rd_init 34 = .ok (.putfield 31, 3) := by decide +kernel
theorem d_Rd_init_37 : decode b_Rd_init 37 = .ok (.return_, 1) := by decide +kernel
theorem d_Rd_readLine_0 : decode b_Rd_readLine 0 = .ok (.aload_n 0, 1) := by decide +kernel
theorem d_Rd_readLine_1 : decode b_Rd_readLine 1 = .ok (.dup, 1) := by decide +kernel
theorem d_Rd_readLine_2 : decode b_Rd_readLine 2 = .ok (.getfield 35, 3) := by decide +kernel
theorem d_Rd_readLine_5 : decode b_Rd_readLine 5 = .ok (.iconst 1, 1) := by decide +kernel
theorem d_Rd_readLine_6 : decode b_Rd_readLine 6 = .ok (.iadd, 1) := by decide +kernel
theorem d_Rd_readLine_7 : decode b_Rd_readLine 7 = .ok (.putfield 35, 3) := by decide +kernel
theorem d_Rd_readLine_10 : decode b_Rd_readLine 10 = .ok (.aload_n 0, 1) := by decide +kernel
theorem d_Rd_readLine_11 : decode b_Rd_readLine 11 = .ok (.getfield 23, 3) := by decide +kernel
theorem d_Rd_readLine_14 : decode b_Rd_readLine 14 = .ok (.iload_n 1, 1) := by decide +kernel
theorem d_Rd_readLine_15 : decode b_Rd_readLine 15 = .ok (.iload_n 2, 1) := by decide +kernel
theorem d_Rd_readLine_16 : decode b_Rd_readLine 16 = .ok (.invokevirtual 39, 3) := by decide +kernel
theorem d_Rd_readLine_19 : decode b_Rd_readLine 19 = .ok (.aload_n 0, 1) := by decide +kernel
theorem d_Rd_readLine_20 : decode b_Rd_readLine 20 = .ok (.getfield 23, 3) := by decide +kernel
theorem d_Rd_readLine_23 : decode b_Rd_readLine 23 = .ok (.invokevirtual 43, 3) := by decide +kernel
theorem d_Rd_readLine_26 : decode b_Rd_readLine 26 = .ok (.ifCond .ne 10, 3) := by decide +kernel
theorem d_Rd_readLine_29 : decode b_Rd_readLine 29 = .ok (.aload_n 0, 1) := by decide +kernel
theorem d_Rd_readLine_30 : decode b_Rd_readLine 30 = .ok (.invokevirtual 47, 3) := by decide +kernel
theorem d_Rd_readLine_33 : decode b_Rd_readLine 33 = .ok (.ifCond .eq 4, 3) := by decide +kernel
theorem d_Rd_readLine_36 : decode b_Rd_readLine 36 = .ok (.return_, 1) := by decide +kernel
theorem d_Rd_readLine_37 : decode b_Rd_readLine 37 = .ok (.aload_n 0, 1) := by decide +kernel
theorem d_Rd_readLine_38 : decode b_Rd_readLine 38 = .ok (.getfield 23, 3) := by decide +kernel
theorem d_Rd_readLine_41 : decode b_Rd_readLine 41 = .ok (.invokevirtual 50, 3) := by decide +kernel
theorem d_Rd_readLine_44 : decode b_Rd_readLine 44 = .ok (.iconst 1, 1) := by decide +kernel
theorem d_Rd_readLine_45 : decode b_Rd_readLine 45 = .ok (.if_icmp .le 7, 3) := by decide +kernel
theorem d_Rd_readLine_48 : decode b_Rd_readLine 48 = .ok (.iconst 1, 1) := by decide +kernel
theorem d_Rd_readLine_49 : decode b_Rd_readLine 49 = .ok (.goto 4, 3) := by decide +kernel
theorem d_Rd_readLine_52 : decode b_Rd_readLine 52 = .ok (.iconst 0, 1) := by decide +kernel
theorem d_Rd_readLine_53 : decode b_Rd_readLine 53 = .ok (.istore_n 3, 1) := by decide +kernel
theorem d_Rd_readLine_54 : decode b_Rd_readLine 54 = .ok (.iload_n 3, 1) := by decide +kernel
theorem d_Rd_readLine_55 : decode b_Rd_readLine 55 = .ok (.ifCond .eq 11, 3) := by decide +kernel
theorem d_Rd_readLine_58 : decode b_Rd_readLine 58 = .ok (.aload_n 0, 1) := by decide +kernel
theorem d_Rd_readLine_59 : decode b_Rd_readLine 59 = .ok (.getfield 54, 3) := by decide +kernel
theorem d_Rd_readLine_62 : decode b_Rd_readLine 62 = .ok (.ifCond .eq 4, 3) := by decide +kernel
theorem d_Rd_readLine_65 : decode b_Rd_readLine 65 = .ok (.return_, 1) := by decide +kernel
theorem d_Rd_readLine_66 : decode b_Rd_readLine 66 = .ok (.aload_n 0, 1) := by decide +kernel
theorem d_Rd_readLine_67 : decode b_Rd_readLine 67 = .ok (.iload_n 3, 1) := by decide +kernel
theorem d_Rd_readLine_68 : decode b_Rd_readLine 68 = .ok (.invokevirtual 58, 3) := by decide +kernel
theorem d_Rd_readLine_71 : decode b_Rd_readLine 71 = .ok (.istore 4, 2) := by decide +kernel
theorem d_Rd_readLine_73 : decode b_Rd_readLine 73 = .ok (.iload 4, 2) := by decide +kernel
theorem d_Rd_readLine_75 : decode b_Rd_readLine 75 = .ok (.ifCond .ne 27, 3) := by decide +kernel
theorem d_Rd_readLine_78 : decode b_Rd_readLine 78 = .ok (.aload_n 0, 1) := by decide +kernel
theorem d_Rd_readLine_79 : decode b_Rd_readLine 79 = .ok (.getfield 23, 3) := by decide +kernel
theorem d_Rd_readLine_82 : decode b_Rd_readLine 82 = .ok (.invokevirtual 62, 3) := by decide +kernel
theorem d_Rd_readLine_85 : decode b_Rd_readLine 85 = .ok (.iload_n 3, 1) := by decide +kernel
theorem d_Rd_readLine_86 : decode b_Rd_readLine 86 = .ok (.ifCond .eq 10, 3) := by decide +kernel
theorem d_Rd_readLine_89 : decode b_Rd_readLine 89 = .ok (.aload_n 0, 1) := by decide +kernel
theorem d_Rd_readLine_90 : decode b_Rd_readLine 90 = .ok (.invokevirtual 65, 3) := by decide +kernel
theorem d_Rd_readLine_93 : decode b_Rd_readLine 93 = .ok (.goto 7, 3) := by decide +kernel
theorem d_Rd_readLine_96 : decode b_Rd_readLine 96 = .ok (.aload_n 0, 1) := by decide +kernel
theorem d_Rd_readLine_97 : decode b_Rd_readLine 97 = .ok (.invokevirtual 68, 3) := by decide +kernel
theorem d_Rd_readLine_100 : decode b_Rd_readLine 100 = .ok (.istore 4, 2) := by decide +kernel
theorem d_Rd_readLine_102 : decode b_Rd_readLine 102 = .ok (.iload 4, 2) := by decide +kernel
theorem d_Rd_readLine_104 : decode b_Rd_readLine 104 = .ok (.ifCond .eq 23, 3) := by decide +kernel
theorem d_Rd_readLine_107 : decode b_Rd_readLine 107 = .ok (.aload_n 0, 1) := by decide +kernel
theorem d_Rd_readLine_108 : decode b_Rd_readLine 108 = .ok (.getfield 31, 3) := by decide +kernel
theorem d_Rd_readLine_111 : decode b_Rd_readLine 111 = .ok (.iload 4, 2) := by decide +kernel
theorem d_Rd_readLine_113 : decode b_Rd_readLine 113 = .ok (.aload_n 0, 1) := by decide +kernel
theorem d_Rd_readLine_114 : decode b_Rd_readLine 114 = .ok (.getfield 35, 3) := by decide +kernel
theorem d_Rd_readLine_117 : decode b_Rd_readLine 117 = .ok (.aload_n 0, 1) := by decide +kernel
theorem d_Rd_readLine_118 : decode b_Rd_readLine 118 = .ok (.getfield 23, 3) := by decide +kernel
theorem d_Rd_readLine_121 : decode b_Rd_readLine 121 = .ok (.invokevirtual 50, 3) := by decide +kernel
theorem d_Rd_readLine_124 : decode b_Rd_readLine 124 = .ok (.invokevirtual 71, 3) := by decide +kernel
theorem d_Rd_readLine_127 : decode b_Rd_readLine 127 = .ok (.iload_n 3, 1) := by decide +kernel
theorem d_Rd_readLine_128 : decode b_Rd_readLine 128 = .ok (.ifCond .ne 17, 3) := by decide +kernel
theorem d_Rd_readLine_131 : decode b_Rd_readLine 131 = .ok (.aload_n 0, 1) := by decide +kernel
theorem d_Rd_readLine_132 : decode b_Rd_readLine 132 = .ok (.iload 4, 2) := by decide +kernel
theorem d_Rd_readLine_134 : decode b_Rd_readLine 134 = .ok (.ifCond .eq 7, 3) := by decide +kernel
theorem d_Rd_readLine_137 : decode b_Rd_readLine 137 = .ok (.iconst 1, 1) := by decide +kernel
theorem d_Rd_readLine_138 : decode b_Rd_readLine 138 = .ok (.goto 4, 3) := by decide +kernel
theorem d_Rd_readLine_141 : decode b_Rd_readLine 141 = .ok (.iconst 0, 1) := by decide +kernel
theorem d_Rd_readLine_142 : decode b_Rd_readLine 142 = .ok (.putfield 54, 3) := by decide +kernel
theorem d_Rd_readLine_145 : decode b_Rd_readLine 145 = .ok (.return_, 1) := by decide +kernel
theorem d_Rd_readFirst_0 : decode b_Rd_readFirst 0 = .ok (.aload_n 0, 1) := by decide +kernel
theorem d_Rd_readFirst_1 : decode b_Rd_readFirst 1 = .ok (.getfield 77, 3) := by decide +kernel
theorem d_Rd_readFirst_4 : decode b_Rd_readFirst 4 = .ok (.ifCond .eq 5, 3) := by decide +kernel
theorem d_Rd_readFirst_7 : decode b_Rd_readFirst 7 = .ok (.iconst 0, 1) := by decide +kernel
theorem d_Rd_readFirst_8 : decode b_Rd_readFirst 8 = .ok (.ireturn, 1) := by decide +kernel
theorem d_Rd_readFirst_9 : decode b_Rd_readFirst 9 = .ok (.aload_n 0, 1) := by decide +kernel
theorem d_Rd_readFirst_10 : decode b_Rd_readFirst 10 = .ok (.iconst 1, 1) := by decide +kernel
theorem d_Rd_readFirst_11 : decode b_Rd_readFirst 11 = .ok (.putfield 77, 3) := by decide +kernel
theorem d_Rd_readFirst_14 : decode b_Rd_readFirst 14 = .ok (.aload_n 0, 1) := by decide +kernel
theorem d_Rd_readFirst_15 : decode b_Rd_readFirst 15 = .ok (.invokevirtual 80, 3) := by decide +kernel
theorem d_Rd_readFirst_18 : decode b_Rd_readFirst 18 = .ok (.ifCond .eq 5, 3) := by decide +kernel
theorem d_Rd_readFirst_21 : decode b_Rd_readFirst 21 = .ok (.iconst 1, 1) := by decide +kernel
theorem d_Rd_readFirst_22 : decode b_Rd_readFirst 22 = .ok (.ireturn, 1) := by decide +kernel
theorem d_Rd_readFirst_23 : decode b_Rd_readFirst 23 = .ok (.aload_n 0, 1) := by decide +kernel
theorem d_Rd_readFirst_24 : decode b_Rd_readFirst 24 = .ok (.getfield 23, 3) := by decide +kernel
theorem d_Rd_readFirst_27 : decode b_Rd_readFirst 27 = .ok (.invokevirtual 62, 3) := by decide +kernel
theorem d_Rd_readFirst_30 : decode b_Rd_readFirst 30 = .ok (.aload_n 0, 1) := by decide +kernel
theorem d_Rd_readFirst_31 : decode b_Rd_readFirst 31 = .ok (.getfield 31, 3) := by decide +kernel
theorem d_Rd_readFirst_34 : decode b_Rd_readFirst 34 = .ok (.iconst 1, 1) := by decide +kernel
theorem d_Rd_readFirst_35 : decode b_Rd_readFirst 35 = .ok (.aload_n 0, 1) := by decide +kernel
theorem d_Rd_readFirst_36 : decode b_Rd_readFirst 36 = .ok (.getfield 35, 3) := by decide +kernel
theorem d_Rd_readFirst_39 : decode b_Rd_readFirst 39 = .ok (.aload_n 0, 1) := by decide +kernel
theorem d_Rd_readFirst_40 : decode b_Rd_readFirst 40 = .ok (.getfield 23, 3) := by decide +kernel
theorem d_Rd_readFirst_43 : decode b_Rd_readFirst 43 = .ok (.invokevirtual 50, 3) := by decide +kernel
theorem d_Rd_readFirst_46 : decode b_Rd_readFirst 46 = .ok (.invokevirtual 71, 3) := by decide +kernel
theorem d_Rd_readFirst_49 : decode b_Rd_readFirst 49 = .ok (.iconst 0, 1) := by decide +kernel
theorem d_Rd_readFirst_50 : decode b_Rd_readFirst 50 = .ok (.ireturn, 1) := by decide +kernel
theorem d_Rd_readFormat_0 : decode b_Rd_readFormat 0 = .ok (.aload_n 0, 1) := by decide +kernel
theorem d_Rd_readFormat_1 : decode b_Rd_readFormat 1 = .ok (.getfield 23, 3) := by decide +kernel
theorem d_Rd_readFormat_4 : decode b_Rd_readFormat 4 = .ok (.ldc 83, 2) := by decide +kernel
theorem d_Rd_readFormat_6 : decode b_Rd_readFormat 6 = .ok (.invokevirtual 85, 3) := by decide +kernel
theorem d_Rd_readFormat_9 : decode b_Rd_readFormat 9 = .ok (.ifCond .ne 5, 3) := by decide +kernel
theorem d_Rd_readFormat_12 : decode b_Rd_readFormat 12 = .ok (.iconst 0, 1) := by decide +kernel
theorem d_Rd_readFormat_13 : decode b_Rd_readFormat 13 = .ok (.ireturn, 1) := by decide +kernel
theorem d_Rd_readFormat_14 : decode b_Rd_readFormat 14 = .ok (.aload_n 0, 1) := by decide +kernel
theorem d_Rd_readFormat_15 : decode b_Rd_readFormat 15 = .ok (.getfield 23, 3) := by decide +kernel
theorem d_Rd_readFormat_18 : decode b_Rd_readFormat 18 = .ok (.invokevirtual 89, 3) := by decide +kernel
theorem d_Rd_readFormat_21 : decode b_Rd_readFormat 21 = .ok (.aload_n 0, 1) := by decide +kernel
theorem d_Rd_readFormat_22 : decode b_Rd_readFormat 22 = .ok (.getfield 23, 3) := by decide +kernel
theorem d_Rd_readFormat_25 : decode b_Rd_readFormat 25 = .ok (.ldc 92, 2) := by decide +kernel
theorem d_Rd_readFormat_27 : decode b_Rd_readFormat 27 = .ok (.invokevirtual 85, 3) := by decide +kernel
theorem d_Rd_readFormat_30 : decode b_Rd_readFormat 30 = .ok (.ifCond .eq 7, 3) := by decide +kernel
theorem d_Rd_readFormat_33 : decode b_Rd_readFormat 33 = .ok (.iconst 1, 1) := by decide +kernel
theorem d_Rd_readFormat_34 : decode b_Rd_readFormat 34 = .ok (.goto 20, 3) := by decide +kernel
theorem d_Rd_readFormat_37 : decode b_Rd_readFormat 37 = .ok (.aload_n 0, 1) := by decide +kernel
theorem d_Rd_readFormat_38 : decode b_Rd_readFormat 38 = .ok (.getfield 23, 3) := by decide +kernel
theorem d_Rd_readFormat_41 : decode b_Rd_readFormat 41 = .ok (.ldc 94, 2) := by decide +kernel
theorem d_Rd_readFormat_43 : decode b_Rd_readFormat 43 = .ok (.invokevirtual 85, 3) := by decide +kernel
theorem d_Rd_readFormat_46 : decode b_Rd_readFormat 46 = .ok (.ifCond .eq 7, 3) := by decide +kernel
theorem d_Rd_readFormat_49 : decode b_Rd_readFormat 49 = .ok (.iconst 2, 1) := by decide +kernel
theorem d_Rd_readFormat_50 : decode b_Rd_readFormat 50 = .ok (.goto 4, 3) := by decide +kernel
theorem d_Rd_readFormat_53 : decode b_Rd_readFormat 53 = .ok (.iconst (-1), 1) := by decide +kernel
theorem d_Rd_readFormat_54 : decode b_Rd_readFormat 54 = .ok (.istore_n 1, 1) := by decide +kernel
theorem d_Rd_readFormat_55 : decode b_Rd_readFormat 55 = .ok (.aload_n 0, 1) := by decide +kernel
theorem d_Rd_readFormat_56 : decode b_Rd_readFormat 56 = .ok (.getfield 23, 3) := by decide +kernel
theorem d_Rd_readFormat_59 : decode b_Rd_readFormat 59 = .ok (.invokevirtual 89, 3) := by decide +kernel
theorem d_Rd_readFormat_62 : decode b_Rd_readFormat 62 = .ok (.iload_n 1, 1) := by decide +kernel
theorem d_Rd_readFormat_63 : decode b_Rd_readFormat 63 = .ok (.iconst (-1), 1) := by decide +kernel
theorem d_Rd_readFormat_64 : decode b_Rd_readFormat 64 = .ok (.if_icmp .eq 13, 3) := by decide +kernel
theorem d_Rd_readFormat_67 : decode b_Rd_readFormat 67 = .ok (.aload_n 0, 1) := by decide +kernel
theorem d_Rd_readFormat_68 : decode b_Rd_readFormat 68 = .ok (.getfield 23, 3) := by decide +kernel
theorem d_Rd_readFormat_71 : decode b_Rd_readFormat 71 = .ok (.invokevirtual 96, 3) := by decide +kernel
theorem d_Rd_readFormat_74 : decode b_Rd_readFormat 74 = .ok (.ifCond .eq 5, 3) := by decide +kernel
theorem d_Rd_readFormat_77 : decode b_Rd_readFormat 77 = .ok (.iconst 0, 1) := by decide +kernel
theorem d_Rd_readFormat_78 : decode b_Rd_readFormat 78 = .ok (.ireturn, 1) := by decide +kernel
theorem d_Rd_readFormat_79 : decode b_Rd_readFormat 79 = .ok (.aload_n 0, 1) := by decide +kernel
theorem d_Rd_readFormat_80 : decode b_Rd_readFormat 80 = .ok (.getfield 27, 3) := by decide +kernel
theorem d_Rd_readFormat_83 : decode b_Rd_readFormat 83 = .ok (.iload_n 1, 1) := by decide +kernel
theorem d_Rd_readFormat_84 : decode b_Rd_readFormat 84 = .ok (.putfield 99, 3) := by decide +kernel
theorem d_Rd_readFormat_87 : decode b_Rd_readFormat 87 = .ok (.iconst 1, 1) := by decide +kernel
theorem d_Rd_readFormat_88 : decode b_Rd_readFormat 88 = .ok (.ireturn, 1) := by decide +kernel
theorem d_St_length_0 : decode b_St_length 0 = .ok (.aload_n 0, 1) := by decide +kernel
theorem d_St_length_1 : decode b_St_length 1 = .ok (.getfield 9, 3) := by decide +kernel
theorem d_St_length_4 : decode b_St_length 4 = .ok (.arraylength, 1) := by decide +kernel
theorem d_St_length_5 : decode b_St_length 5 = .ok (.aload_n 0, 1) := by decide +kernel
theorem d_St_length_6 : decode b_St_length 6 = .ok (.invokevirtual 335, 3) := by decide +kernel
theorem d_St_length_9 : decode b_St_length 9 = .ok (.ishr, 1) := by decide +kernel
theorem d_St_length_10 : decode b_St_length 10 = .ok (.ireturn, 1) := by decide +kernel
theorem d_St_coder_0 : decode b_St_coder 0 = .ok (.getstatic 38, 3) := by decide +kernel
theorem d_St_coder_3 : decode b_St_coder 3 = .ok (.ifCond .eq 10, 3) := by decide +kernel
theorem d_St_coder_6 : decode b_St_coder 6 = .ok (.aload_n 0, 1) := by decide +kernel
theorem d_St_coder_7 : decode b_St_coder 7 = .ok (.getfield 15, 3) := by decide +kernel
theorem d_St_coder_10 : decode b_St_coder 10 = .ok (.goto 4, 3) := by decide +kernel
theorem d_St_coder_13 : decode b_St_coder 13 = .ok (.iconst 1, 1) := by decide +kernel
theorem d_St_coder_14 : decode b_St_coder 14 = .ok (.ireturn, 1) := by decide +kernel
theorem d_St_charAt_0 : decode b_St_charAt 0 = .ok (.aload_n 0, 1) := by decide +kernel
theorem d_St_charAt_1 : decode b_St_charAt 1 = .ok (.invokevirtual 492, 3) := by decide +kernel
theorem d_St_charAt_4 : decode b_St_charAt 4 = .ok (.ifCond .eq 12, 3) := by decide +kernel
theorem d_St_charAt_7 : decode b_St_charAt 7 = .ok (.aload_n 0, 1) := by decide +kernel
theorem d_St_charAt_8 : decode b_St_charAt 8 = .ok (.getfield 9, 3) := by decide +kernel
theorem d_St_charAt_11 : decode b_St_charAt 11 = .ok (.iload_n 1, 1) := by decide +kernel
theorem d_St_charAt_12 : decode b_St_charAt 12 = .ok (.invokestatic 495, 3) := by decide +kernel
theorem d_St_charAt_15 : decode b_St_charAt 15 = .ok (.ireturn, 1) := by decide +kernel
theorem d_St_charAt_16 : decode b_St_charAt 16 = .ok (.aload_n 0, 1) := by decide +kernel
theorem d_St_charAt_17 : decode b_St_charAt 17 = .ok (.getfield 9, 3) := by decide +kernel
theorem d_St_charAt_20 : decode b_St_charAt 20 = .ok (.iload_n 1, 1) := by decide +kernel
theorem d_St_charAt_21 : decode b_St_charAt 21 = .ok (.invokestatic 498, 3) := by decide +kernel
theorem d_St_charAt_24 : decode b_St_charAt 24 = .ok (.ireturn, 1) := by decide +kernel
theorem d_St_isLatin1_0 : decode b_St_isLatin1 0 = .ok (.getstatic 38, 3) := by decide +kernel
theorem d_St_isLatin1_3 : decode b_St_isLatin1 3 = .ok (.ifCond .eq 14, 3) := by decide +kernel
theorem d_St_isLatin1_6 : decode b_St_isLatin1 6 = .ok (.aload_n 0, 1) := by decide +kernel
theorem d_St_isLatin1_7 : decode b_St_isLatin1 7 = .ok (.getfield 15, 3) := by decide +kernel
theorem d_St_isLatin1_10 : decode b_St_isLatin1 10 = .ok (.ifCond .ne 7, 3) := by decide +kernel
theorem d_St_isLatin1_13 : decode b_St_isLatin1 13 = .ok (.iconst 1, 1) := by decide +kernel
theorem d_St_isLatin1_14 : decode b_St_isLatin1 14 = .ok (.goto 4, 3) := by decide +kernel
theorem d_St_isLatin1_17 : decode b_St_isLatin1 17 = .ok (.iconst 0, 1) := by decide +kernel
theorem d_St_isLatin1_18 : decode b_St_isLatin1 18 = .ok (.ireturn, 1) := by decide +kernel
theorem d_SL_charAt_0 : decode b_SL_charAt 0 = .ok (.iload_n 1, 1) := by decide +kernel
theorem d_SL_charAt_1 : decode b_SL_charAt 1 = .ok (.aload_n 0, 1) := by decide +kernel
theorem d_SL_charAt_2 : decode b_SL_charAt 2 = .ok (.arraylength, 1) := by decide +kernel
theorem d_SL_charAt_3 : decode b_SL_charAt 3 = .ok (.invokestatic 9, 3) := by decide +kernel
theorem d_SL_charAt_6 : decode b_SL_charAt 6 = .ok (.aload_n 0, 1) := by decide +kernel
theorem d_SL_charAt_7 : decode b_SL_charAt 7 = .ok (.iload_n 1, 1) := by decide +kernel
theorem d_SL_charAt_8 : decode b_SL_charAt 8 = .ok (.baload, 1) := by decide +kernel
theorem d_SL_charAt_9 : decode b_SL_charAt 9 = .ok (.sipush 255, 3) := by decide +kernel
theorem d_SL_charAt_12 : decode b_SL_charAt 12 = .ok (.iand, 1) := by decide +kernel
theorem d_SL_charAt_13 : decode b_SL_charAt 13 = .ok (.i2c, 1) := by decide +kernel
theorem d_SL_charAt_14 : decode b_SL_charAt 14 = .ok (.ireturn, 1) := by decide +kernel
theorem d_St_checkIndex_0 : decode b_St_checkIndex 0 = .ok (.iload_n 0, 1) := by decide +kernel
theorem d_St_checkIndex_1 : decode b_St_checkIndex 1 = .ok (.iload_n 1, 1) := by decide +kernel
theorem d_St_checkIndex_2 : decode b_St_checkIndex 2 = .ok (.getstatic 1053, 3) := by decide +kernel
theorem d_St_checkIndex_5 : decode b_St_checkIndex 5 = .ok (.invokestatic 1059, 3) := by decide +kernel
theorem d_St_checkIndex_8 : decode b_St_checkIndex 8 = .ok (.pop, 1) := by decide +kernel
theorem d_St_checkIndex_9 : decode b_St_checkIndex 9 = .ok (.return_, 1) := by decide +kernel
theorem d_Pre_checkIndex_0 : decode b_Pre_checkIndex 0 = .ok (.iload_n 0, 1) := by decide +kernel
theorem d_Pre_checkIndex_1 : decode b_Pre_checkIndex 1 = .ok (.ifCond .lt 8, 3) := by decide +kernel
theorem d_Pre_checkIndex_4 : decode b_Pre_checkIndex 4 = .ok (.iload_n 0, 1) := by decide +kernel
theorem d_Pre_checkIndex_5 : decode b_Pre_checkIndex 5 = .ok (.iload_n 1, 1) := by decide +kernel
theorem d_Pre_checkIndex_6 : decode b_Pre_checkIndex 6 = .ok (.if_icmp .lt 10, 3) := by decide +kernel
theorem d_Pre_checkIndex_9 : decode b_Pre_checkIndex 9 = .ok (.aload_n 2, 1) := by decide +kernel
theorem d_Pre_checkIndex_10 : decode b_Pre_checkIndex 10 = .ok (.iload_n 0, 1) := by decide +kernel
theorem d_Pre_checkIndex_11 : decode b_Pre_checkIndex 11 = .ok (.iload_n 1, 1) := by decide +kernel
theorem d_Pre_checkIndex_12 : decode b_Pre_checkIndex 12 = .ok (.invokestatic 95, 3) := by decide +kernel
theorem d_Pre_checkIndex_15 : decode b_Pre_checkIndex 15 = .ok (.athrow, 1) := by decide +kernel
theorem d_Pre_checkIndex_16 : decode b_Pre_checkIndex 16 = .ok (.iload_n 0, 1) := by decide +kernel
theorem d_Pre_checkIndex_17 : decode b_Pre_checkIndex 17 = .ok (.ireturn, 1) := by decide +kernel
theorem d_Rd_readWords_0 : decode b_Rd_readWords 0 = .ok (.aload_n 0, 1) := by decide +kernel
theorem d_Rd_readWords_1 : decode b_Rd_readWords 1 = .ok (.iload_n 1, 1) := by decide +kernel
theorem d_Rd_readWords_2 : decode b_Rd_readWords 2 = .ok (.invokevirtual 104, 3) := by decide +kernel
theorem d_Rd_readWords_5 : decode b_Rd_readWords 5 = .ok (.ifCond .ne 5, 3) := by decide +kernel
theorem d_Rd_readWords_8 : decode b_Rd_readWords 8 = .ok (.iconst 2, 1) := by decide +kernel
theorem d_Rd_readWords_9 : decode b_Rd_readWords 9 = .ok (.ireturn, 1) := by decide +kernel
theorem d_Rd_readWords_10 : decode b_Rd_readWords 10 = .ok (.aload_n 0, 1) := by decide +kernel
theorem d_Rd_readWords_11 : decode b_Rd_readWords 11 = .ok (.getfield 12, 3) := by decide +kernel
theorem d_Rd_readWords_14 : decode b_Rd_readWords 14 = .ok (.aload_n 0, 1) := by decide +kernel
theorem d_Rd_readWords_15 : decode b_Rd_readWords 15 = .ok (.iload_n 1, 1) := by decide +kernel
theorem d_Rd_readWords_16 : decode b_Rd_readWords 16 = .ok (.invokevirtual 108, 3) := by decide +kernel
theorem d_Rd_readWords_19 : decode b_Rd_readWords 19 = .ok (.putfield 111, 3) := by decide +kernel
theorem d_Rd_readWords_22 : decode b_Rd_readWords 22 = .ok (.aload_n 0, 1) := by decide +kernel
theorem d_Rd_readWords_23 : decode b_Rd_readWords 23 = .ok (.getfield 12, 3) := by decide +kernel
theorem d_Rd_readWords_26 : decode b_Rd_readWords 26 = .ok (.getfield 111, 3) := by decide +kernel
theorem d_Rd_readWords_29 : decode b_Rd_readWords 29 = .ok (.iconst (-1), 1) := by decide +kernel
theorem d_Rd_readWords_30 : decode b_Rd_readWords 30 = .ok (.if_icmp .ne 5, 3) := by decide +kernel
theorem d_Rd_readWords_33 : decode b_Rd_readWords 33 = .ok (.iconst 3, 1) := by decide +kernel
theorem d_Rd_readWords_34 : decode b_Rd_readWords 34 = .ok (.ireturn, 1) := by decide +kernel
theorem d_Rd_readWords_35 : decode b_Rd_readWords 35 = .ok (.aload_n 0, 1) := by decide +kernel
theorem d_Rd_readWords_36 : decode b_Rd_readWords 36 = .ok (.getfield 23, 3) := by decide +kernel
theorem d_Rd_readWords_39 : decode b_Rd_readWords 39 = .ok (.invokevirtual 89, 3) := by decide +kernel
theorem d_Rd_readWords_42 : decode b_Rd_readWords 42 = .ok (.aload_n 0, 1) := by decide +kernel
theorem d_Rd_readWords_43 : decode b_Rd_readWords 43 = .ok (.getfield 23, 3) := by decide +kernel
theorem d_Rd_readWords_46 : decode b_Rd_readWords 46 = .ok (.aload_n 0, 1) := by decide +kernel
theorem d_Rd_readWords_47 : decode b_Rd_readWords 47 = .ok (.getfield 12, 3) := by decide +kernel
theorem d_Rd_readWords_50 : decode b_Rd_readWords 50 = .ok (.getfield 114, 3) := by decide +kernel
theorem d_Rd_readWords_53 : decode b_Rd_readWords 53 = .ok (.aload_n 0, 1) := by decide +kernel
theorem d_Rd_readWords_54 : decode b_Rd_readWords 54 = .ok (.getfield 27, 3) := by decide +kernel
theorem d_Rd_readWords_57 : decode b_Rd_readWords 57 = .ok (.getfield 99, 3) := by decide +kernel
theorem d_Rd_readWords_60 : decode b_Rd_readWords 60 = .ok (.invokevirtual 118, 3) := by decide +kernel
theorem d_Rd_readWords_63 : decode b_Rd_readWords 63 = .ok (.aload_n 0, 1) := by decide +kernel
theorem d_Rd_readWords_64 : decode b_Rd_readWords 64 = .ok (.getfield 12, 3) := by decide +kernel
theorem d_Rd_readWords_67 : decode b_Rd_readWords 67 = .ok (.getfield 114, 3) := by decide +kernel
theorem d_Rd_readWords_70 : decode b_Rd_readWords 70 = .ok (.iload_n 1, 1) := by decide +kernel
theorem d_Rd_readWords_71 : decode b_Rd_readWords 71 = .ok (.aload_n 0, 1) := by decide +kernel
theorem d_Rd_readWords_72 : decode b_Rd_readWords 72 = .ok (.getfield 12, 3) := by decide +kernel
theorem d_Rd_readWords_75 : decode b_Rd_readWords 75 = .ok (.getfield 111, 3) := by decide +kernel
theorem d_Rd_readWords_78 : decode b_Rd_readWords 78 = .ok (.invokestatic 122, 3) := by decide +kernel
theorem d_Rd_readWords_81 : decode b_Rd_readWords 81 = .ok (.ifCond .ne 5, 3) := by decide +kernel
theorem d_Rd_readWords_84 : decode b_Rd_readWords 84 = .ok (.iconst 4, 1) := by decide +kernel
theorem d_Rd_readWords_85 : decode b_Rd_readWords 85 = .ok (.ireturn, 1) := by decide +kernel
theorem d_Rd_readWords_86 : decode b_Rd_readWords 86 = .ok (.aload_n 0, 1) := by decide +kernel
theorem d_Rd_readWords_87 : decode b_Rd_readWords 87 = .ok (.getfield 23, 3) := by decide +kernel
theorem d_Rd_readWords_90 : decode b_Rd_readWords 90 = .ok (.invokevirtual 89, 3) := by decide +kernel
theorem d_Rd_readWords_93 : decode b_Rd_readWords 93 = .ok (.aload_n 0, 1) := by decide +kernel
theorem d_Rd_readWords_94 : decode b_Rd_readWords 94 = .ok (.getfield 12, 3) := by decide +kernel
theorem d_Rd_readWords_97 : decode b_Rd_readWords 97 = .ok (.getfield 128, 3) := by decide +kernel
theorem d_Rd_readWords_100 : decode b_Rd_readWords 100 = .ok (.invokevirtual 131, 3) := by decide +kernel
theorem d_Rd_readWords_103 : decode b_Rd_readWords 103 = .ok (.iload_n 1, 1) := by decide +kernel
theorem d_Rd_readWords_104 : decode b_Rd_readWords 104 = .ok (.ifCond .eq 72, 3) := by decide +kernel
theorem d_Rd_readWords_107 : decode b_Rd_readWords 107 = .ok (.aload_n 0, 1) := by decide +kernel
theorem d_Rd_readWords_108 : decode b_Rd_readWords 108 = .ok (.getfield 23, 3) := by decide +kernel
theorem d_Rd_readWords_111 : decode b_Rd_readWords 111 = .ok (.aload_n 0, 1) := by decide +kernel
theorem d_Rd_readWords_112 : decode b_Rd_readWords 112 = .ok (.getfield 12, 3) := by decide +kernel
theorem d_Rd_readWords_115 : decode b_Rd_readWords 115 = .ok (.getfield 128, 3) := by decide +kernel
theorem d_Rd_readWords_118 : decode b_Rd_readWords 118 = .ok (.aload_n 0, 1) := by decide +kernel
theorem d_Rd_readWords_119 : decode b_Rd_readWords 119 = .ok (.getfield 27, 3) := by decide +kernel
theorem d_Rd_readWords_122 : decode b_Rd_readWords 122 = .ok (.getfield 99, 3) := by decide +kernel
theorem d_Rd_readWords_125 : decode b_Rd_readWords 125 = .ok (.invokevirtual 118, 3) := by decide +kernel
theorem d_Rd_readWords_128 : decode b_Rd_readWords 128 = .ok (.aload_n 0, 1) := by decide +kernel
theorem d_Rd_readWords_129 : decode b_Rd_readWords 129 = .ok (.getfield 12, 3) := by decide +kernel
theorem d_Rd_readWords_132 : decode b_Rd_readWords 132 = .ok (.getfield 111, 3) := by decide +kernel
theorem d_Rd_readWords_135 : decode b_Rd_readWords 135 = .ok (.iconst 1, 1) := by decide +kernel
theorem d_Rd_readWords_136 : decode b_Rd_readWords 136 = .ok (.if_icmp .ne 16, 3) := by decide +kernel
theorem d_Rd_readWords_139 : decode b_Rd_readWords 139 = .ok (.aload_n 0, 1) := by decide +kernel
theorem d_Rd_readWords_140 : decode b_Rd_readWords 140 = .ok (.getfield 12, 3) := by decide +kernel
theorem d_Rd_readWords_143 : decode b_Rd_readWords 143 = .ok (.getfield 128, 3) := by decide +kernel
theorem d_Rd_readWords_146 : decode b_Rd_readWords 146 = .ok (.invokestatic 136, 3) := by decide +kernel
theorem d_Rd_readWords_149 : decode b_Rd_readWords 149 = .ok (.goto 13, 3) := by decide +kernel
theorem d_Rd_readWords_152 : decode b_Rd_readWords 152 = .ok (.aload_n 0, 1) := by decide +kernel
theorem d_Rd_readWords_153 : decode b_Rd_readWords 153 = .ok (.getfield 12, 3) := by decide +kernel
theorem d_Rd_readWords_156 : decode b_Rd_readWords 156 = .ok (.getfield 128, 3) := by decide +kernel
theorem d_Rd_readWords_159 : decode b_Rd_readWords 159 = .ok (.invokestatic 140, 3) := by decide +kernel
theorem d_Rd_readWords_162 : decode b_Rd_readWords 162 = .ok (.istore_n 2, 1) := by decide +kernel
theorem d_Rd_readWords_163 : decode b_Rd_readWords 163 = .ok (.iload_n 2, 1) := by decide +kernel
theorem d_Rd_readWords_164 : decode b_Rd_readWords 164 = .ok (.ifCond .ne 5, 3) := by decide +kernel
theorem d_Rd_readWords_167 : decode b_Rd_readWords 167 = .ok (.iconst 5, 1) := by decide +kernel
theorem d_Rd_readWords_168 : decode b_Rd_readWords 168 = .ok (.ireturn, 1) := by decide +kernel
theorem d_Rd_readWords_169 : decode b_Rd_readWords 169 = .ok (.aload_n 0, 1) := by decide +kernel
theorem d_Rd_readWords_170 : decode b_Rd_readWords 170 = .ok (.getfield 23, 3) := by decide +kernel
theorem d_Rd_readWords_173 : decode b_Rd_readWords 173 = .ok (.invokevirtual 89, 3) := by decide +kernel
theorem d_Rd_readWords_176 : decode b_Rd_readWords 176 = .ok (.aload_n 0, 1) := by decide +kernel
theorem d_Rd_readWords_177 : decode b_Rd_readWords 177 = .ok (.getfield 23, 3) := by decide +kernel
theorem d_Rd_readWords_180 : decode b_Rd_readWords 180 = .ok (.invokevirtual 96, 3) := by decide +kernel
theorem d_Rd_readWords_183 : decode b_Rd_readWords 183 = .ok (.ifCond .eq 8, 3) := by decide +kernel
theorem d_Rd_readWords_186 : decode b_Rd_readWords 186 = .ok (.bipush 6, 2) := by decide +kernel
theorem d_Rd_readWords_188 : decode b_Rd_readWords 188 = .ok (.goto 4, 3) := by decide +kernel
theorem d_Rd_readWords_191 : decode b_Rd_readWords 191 = .ok (.iconst 0, 1) := by decide +kernel
theorem d_Rd_readWords_192 : decode b_Rd_readWords 192 = .ok (.ireturn, 1) := by decide +kernel
theorem d_Rd_readMarks_0 : decode b_Rd_readMarks 0 = .ok (.aload_n 0, 1) := by decide +kernel
theorem d_Rd_readMarks_1 : decode b_Rd_readMarks 1 = .ok (.getfield 12, 3) := by decide +kernel
theorem d_Rd_readMarks_4 : decode b_Rd_readMarks 4 = .ok (.iconst 0, 1) := by decide +kernel
theorem d_Rd_readMarks_5 : decode b_Rd_readMarks 5 = .ok (.putfield 143, 3) := by decide +kernel
theorem d_Rd_readMarks_8 : decode b_Rd_readMarks 8 = .ok (.iconst 0, 1) := by decide +kernel
theorem d_Rd_readMarks_9 : decode b_Rd_readMarks 9 = .ok (.istore_n 2, 1) := by decide +kernel
theorem d_Rd_readMarks_10 : decode b_Rd_readMarks 10 = .ok (.iload_n 2, 1) := by decide +kernel
theorem d_Rd_readMarks_11 : decode b_Rd_readMarks 11 = .ok (.iload_n 1, 1) := by decide +kernel
theorem d_Rd_readMarks_12 : decode b_Rd_readMarks 12 = .ok (.invokestatic 146, 3) := by decide +kernel
theorem d_Rd_readMarks_15 : decode b_Rd_readMarks 15 = .ok (.if_icmp .gt 55, 3) := by decide +kernel
theorem d_Rd_readMarks_18 : decode b_Rd_readMarks 18 = .ok (.aload_n 0, 1) := by decide +kernel
theorem d_Rd_readMarks_19 : decode b_Rd_readMarks 19 = .ok (.iload_n 1, 1) := by decide +kernel
theorem d_Rd_readMarks_20 : decode b_Rd_readMarks 20 = .ok (.invokevirtual 150, 3) := by decide +kernel
theorem d_Rd_readMarks_23 : decode b_Rd_readMarks 23 = .ok (.istore_n 3, 1) := by decide +kernel
theorem d_Rd_readMarks_24 : decode b_Rd_readMarks 24 = .ok (.iload_n 3, 1) := by decide +kernel
theorem d_Rd_readMarks_25 : decode b_Rd_readMarks 25 = .ok (.ifCond .ne 5, 3) := by decide +kernel
theorem d_Rd_readMarks_28 : decode b_Rd_readMarks 28 = .ok (.iconst 1, 1) := by decide +kernel
theorem d_Rd_readMarks_29 : decode b_Rd_readMarks 29 = .ok (.ireturn, 1) := by decide +kernel
theorem d_Rd_readMarks_30 : decode b_Rd_readMarks 30 = .ok (.aload_n 0, 1) := by decide +kernel
theorem d_Rd_readMarks_31 : decode b_Rd_readMarks 31 = .ok (.getfield 12, 3) := by decide +kernel
theorem d_Rd_readMarks_34 : decode b_Rd_readMarks 34 = .ok (.getfield 143, 3) := by decide +kernel
theorem d_Rd_readMarks_37 : decode b_Rd_readMarks 37 = .ok (.iload_n 3, 1) := by decide +kernel
theorem d_Rd_readMarks_38 : decode b_Rd_readMarks 38 = .ok (.iand, 1) := by decide +kernel
theorem d_Rd_readMarks_39 : decode b_Rd_readMarks 39 = .ok (.ifCond .eq 5, 3) := by decide +kernel
theorem d_Rd_readMarks_42 : decode b_Rd_readMarks 42 = .ok (.iconst 0, 1) := by decide +kernel
theorem d_Rd_readMarks_43 : decode b_Rd_readMarks 43 = .ok (.ireturn, 1) := by decide +kernel
theorem d_Rd_readMarks_44 : decode b_Rd_readMarks 44 = .ok (.aload_n 0, 1) := by decide +kernel
theorem d_Rd_readMarks_45 : decode b_Rd_readMarks 45 = .ok (.getfield 12, 3) := by decide +kernel
theorem d_Rd_readMarks_48 : decode b_Rd_readMarks 48 = .ok (.dup, 1) := by decide +kernel
theorem d_Rd_readMarks_49 : decode b_Rd_readMarks 49 = .ok (.getfield 143, 3) := by decide +kernel
theorem d_Rd_readMarks_52 : decode b_Rd_readMarks 52 = .ok (.iload_n 3, 1) := by decide +kernel
theorem d_Rd_readMarks_53 : decode b_Rd_readMarks 53 = .ok (.ior, 1) := by decide +kernel
theorem d_Rd_readMarks_54 : decode b_Rd_readMarks 54 = .ok (.putfield 143, 3) := by decide +kernel
theorem d_Rd_readMarks_57 : decode b_Rd_readMarks 57 = .ok (.aload_n 0, 1) := by decide +kernel
theorem d_Rd_readMarks_58 : decode b_Rd_readMarks 58 = .ok (.getfield 23, 3) := by decide +kernel
theorem d_Rd_readMarks_61 : decode b_Rd_readMarks 61 = .ok (.invokevirtual 89, 3) := by decide +kernel
theorem d_Rd_readMarks_64 : decode b_Rd_readMarks 64 = .ok (.iinc 2 1, 3) := by decide +kernel
theorem d_Rd_readMarks_67 : decode b_Rd_readMarks 67 = .ok (.goto (-57), 3) := by decide +kernel
theorem d_Rd_readMarks_70 : decode b_Rd_readMarks 70 = .ok (.iconst 1, 1) := by decide +kernel
theorem d_Rd_readMarks_71 : decode b_Rd_readMarks 71 = .ok (.ireturn, 1) := by decide +kernel
theorem d_Rd_markHere_0 : decode b_Rd_markHere 0 = .ok (.iconst 0, 1) := by decide +kernel
theorem d_Rd_markHere_1 : decode b_Rd_markHere 1 = .ok (.istore_n 2, 1) := by decide +kernel
theorem d_Rd_markHere_2 : decode b_Rd_markHere 2 = .ok (.iload_n 2, 1) := by decide +kernel
theorem d_Rd_markHere_3 : decode b_Rd_markHere 3 = .ok (.iload_n 1, 1) := by decide +kernel
theorem d_Rd_markHere_4 : decode b_Rd_markHere 4 = .ok (.invokestatic 146, 3) := by decide +kernel
theorem d_Rd_markHere_7 : decode b_Rd_markHere 7 = .ok (.if_icmp .ge 28, 3) := by decide +kernel
theorem d_Rd_markHere_10 : decode b_Rd_markHere 10 = .ok (.aload_n 0, 1) := by decide +kernel
theorem d_Rd_markHere_11 : decode b_Rd_markHere 11 = .ok (.getfield 23, 3) := by decide +kernel
theorem d_Rd_markHere_14 : decode b_Rd_markHere 14 = .ok (.iload_n 1, 1) := by decide +kernel
theorem d_Rd_markHere_15 : decode b_Rd_markHere 15 = .ok (.iload_n 2, 1) := by decide +kernel
theorem d_Rd_markHere_16 : decode b_Rd_markHere 16 = .ok (.invokestatic 153, 3) := by decide +kernel
theorem d_Rd_markHere_19 : decode b_Rd_markHere 19 = .ok (.invokevirtual 85, 3) := by decide +kernel
theorem d_Rd_markHere_22 : decode b_Rd_markHere 22 = .ok (.ifCond .eq 7, 3) := by decide +kernel
theorem d_Rd_markHere_25 : decode b_Rd_markHere 25 = .ok (.iconst 1, 1) := by decide +kernel
theorem d_Rd_markHere_26 : decode b_Rd_markHere 26 = .ok (.iload_n 2, 1) := by decide +kernel
theorem d_Rd_markHere_27 : decode b_Rd_markHere 27 = .ok (.ishl, 1) := by decide +kernel
theorem d_Rd_markHere_28 : decode b_Rd_markHere 28 = .ok (.ireturn, 1) := by decide +kernel
theorem d_Rd_markHere_29 : decode b_Rd_markHere 29 = .ok (.iinc 2 1, 3) := by decide +kernel
theorem d_Rd_markHere_32 : decode b_Rd_markHere 32 = .ok (.goto (-30), 3) := by decide +kernel
theorem d_Rd_markHere_35 : decode b_Rd_markHere 35 = .ok (.iconst 0, 1) := by decide +kernel
theorem d_Rd_markHere_36 : decode b_Rd_markHere 36 = .ok (.ireturn, 1) := by decide +kernel
theorem d_Rd_kindHere_0 : decode b_Rd_kindHere 0 = .ok (.iconst 0, 1) := by decide +kernel
theorem d_Rd_kindHere_1 : decode b_Rd_kindHere 1 = .ok (.istore_n 2, 1) := by decide +kernel
theorem d_Rd_kindHere_2 : decode b_Rd_kindHere 2 = .ok (.iload_n 2, 1) := by decide +kernel
theorem d_Rd_kindHere_3 : decode b_Rd_kindHere 3 = .ok (.iload_n 1, 1) := by decide +kernel
theorem d_Rd_kindHere_4 : decode b_Rd_kindHere 4 = .ok (.invokestatic 157, 3) := by decide +kernel
theorem d_Rd_kindHere_7 : decode b_Rd_kindHere 7 = .ok (.if_icmp .ge 26, 3) := by decide +kernel
theorem d_Rd_kindHere_10 : decode b_Rd_kindHere 10 = .ok (.aload_n 0, 1) := by decide +kernel
theorem d_Rd_kindHere_11 : decode b_Rd_kindHere 11 = .ok (.getfield 23, 3) := by decide +kernel
theorem d_Rd_kindHere_14 : decode b_Rd_kindHere 14 = .ok (.iload_n 1, 1) := by decide +kernel
theorem d_Rd_kindHere_15 : decode b_Rd_kindHere 15 = .ok (.iload_n 2, 1) := by decide +kernel
theorem d_Rd_kindHere_16 : decode b_Rd_kindHere 16 = .ok (.invokestatic 160, 3) := by decide +kernel
theorem d_Rd_kindHere_19 : decode b_Rd_kindHere 19 = .ok (.invokevirtual 85, 3) := by decide +kernel
theorem d_Rd_kindHere_22 : decode b_Rd_kindHere 22 = .ok (.ifCond .eq 5, 3) := by decide +kernel
theorem d_Rd_kindHere_25 : decode b_Rd_kindHere 25 = .ok (.iload_n 2, 1) := by decide +kernel
theorem d_Rd_kindHere_26 : decode b_Rd_kindHere 26 = .ok (.ireturn, 1) := by decide +kernel
theorem d_Rd_kindHere_27 : decode b_Rd_kindHere 27 = .ok (.iinc 2 1, 3) := by decide +kernel
theorem d_Rd_kindHere_30 : decode b_Rd_kindHere 30 = .ok (.goto (-28), 3) := by decide +kernel
theorem d_Rd_kindHere_33 : decode b_Rd_kindHere 33 = .ok (.iconst (-1), 1) := by decide +kernel
theorem d_Rd_kindHere_34 : decode b_Rd_kindHere 34 = .ok (.ireturn, 1) := by decide +kernel
theorem d_Rd_takeMember_0 : decode b_Rd_takeMember 0 = .ok (.aload_n 0, 1) := by decide +kernel
theorem d_Rd_takeMember_1 : decode b_Rd_takeMember 1 = .ok (.getfield 179, 3) := by decide +kernel
theorem d_Rd_takeMember_4 : decode b_Rd_takeMember 4 = .ok (.ifnonnull 6, 3) := by decide +kernel
theorem d_Rd_takeMember_7 : decode b_Rd_takeMember 7 = .ok (.bipush 9, 2) := by decide +kernel
theorem d_Rd_takeMember_9 : decode b_Rd_takeMember 9 = .ok (.ireturn, 1) := by decide +kernel
theorem d_Rd_takeMember_10 : decode b_Rd_takeMember 10 = .ok (.aload_n 0, 1) := by decide +kernel
theorem d_Rd_takeMember_11 : decode b_Rd_takeMember 11 = .ok (.getfield 179, 3) := by decide +kernel
theorem d_Rd_takeMember_14 : decode b_Rd_takeMember 14 = .ok (.getfield 183, 3) := by decide +kernel
theorem d_Rd_takeMember_17 : decode b_Rd_takeMember 17 = .ok (.aload_n 0, 1) := by decide +kernel
theorem d_Rd_takeMember_18 : decode b_Rd_takeMember 18 = .ok (.getfield 12, 3) := by decide +kernel
theorem d_Rd_takeMember_21 : decode b_Rd_takeMember 21 = .ok (.invokevirtual 188, 3) := by decide +kernel
theorem d_Rd_takeMember_24 : decode b_Rd_takeMember 24 = .ok (.ifnull 6, 3) := by decide +kernel
theorem d_Rd_takeMember_27 : decode b_Rd_takeMember 27 = .ok (.bipush 7, 2) := by decide +kernel
theorem d_Rd_takeMember_29 : decode b_Rd_takeMember 29 = .ok (.ireturn, 1) := by decide +kernel
theorem d_Rd_takeMember_30 : decode b_Rd_takeMember 30 = .ok (.aload_n 0, 1) := by decide +kernel
theorem d_Rd_takeMember_31 : decode b_Rd_takeMember 31 = .ok (.getfield 179, 3) := by decide +kernel
theorem d_Rd_takeMember_34 : decode b_Rd_takeMember 34 = .ok (.getfield 183, 3) := by decide +kernel
theorem d_Rd_takeMember_37 : decode b_Rd_takeMember 37 = .ok (.invokevirtual 170, 3) := by decide +kernel
theorem d_Rd_takeMember_40 : decode b_Rd_takeMember 40 = .ok (.ifCond .eq 6, 3) := by decide +kernel
theorem d_Rd_takeMember_43 : decode b_Rd_takeMember 43 = .ok (.bipush 8, 2) := by decide +kernel
theorem d_Rd_takeMember_45 : decode b_Rd_takeMember 45 = .ok (.ireturn, 1) := by decide +kernel
theorem d_Rd_takeMember_46 : decode b_Rd_takeMember 46 = .ok (.aload_n 0, 1) := by decide +kernel
theorem d_Rd_takeMember_47 : decode b_Rd_takeMember 47 = .ok (.getfield 179, 3) := by decide +kernel
theorem d_Rd_takeMember_50 : decode b_Rd_takeMember 50 = .ok (.aload_n 0, 1) := by decide +kernel
theorem d_Rd_takeMember_51 : decode b_Rd_takeMember 51 = .ok (.getfield 12, 3) := by decide +kernel
theorem d_Rd_takeMember_54 : decode b_Rd_takeMember 54 = .ok (.invokevirtual 192, 3) := by decide +kernel
theorem d_Rd_takeMember_57 : decode b_Rd_takeMember 57 = .ok (.iconst 0, 1) := by decide +kernel
theorem d_Rd_takeMember_58 : decode b_Rd_takeMember 58 = .ok (.ireturn, 1) := by decide +kernel
theorem d_AL_size_0 : decode b_AL_size 0 = .ok (.aload_n 0, 1) := by decide +kernel
theorem d_AL_size_1 : decode b_AL_size 1 = .ok (.getfield 48, 3) := by decide +kernel
theorem d_AL_size_4 : decode b_AL_size 4 = .ok (.ireturn, 1) := by decide +kernel
theorem d_AL_get_0 : decode b_AL_get 0 = .ok (.iload_n 1, 1) := by decide +kernel
theorem d_AL_get_1 : decode b_AL_get 1 = .ok (.aload_n 0, 1) := by decide +kernel
theorem d_AL_get_2 : decode b_AL_get 2 = .ok (.getfield 48, 3) := by decide +kernel
theorem d_AL_get_5 : decode b_AL_get 5 = .ok (.invokestatic 118, 3) := by decide +kernel
theorem d_AL_get_8 : decode b_AL_get 8 = .ok (.pop, 1) := by decide +kernel
theorem d_AL_get_9 : decode b_AL_get 9 = .ok (.aload_n 0, 1) := by decide +kernel
theorem d_AL_get_10 : decode b_AL_get 10 = .ok (.iload_n 1, 1) := by decide +kernel
theorem d_AL_get_11 : decode b_AL_get 11 = .ok (.invokevirtual 123, 3) := by decide +kernel
theorem d_AL_get_14 : decode b_AL_get 14 = .ok (.areturn, 1) := by decide +kernel
theorem d_Obs_checkIndex_0 : decode b_Obs_checkIndex 0 = .ok (.iload_n 0, 1) := by decide +kernel
theorem d_Obs_checkIndex_1 : decode b_Obs_checkIndex 1 = .ok (.iload_n 1, 1) := by decide +kernel
theorem d_Obs_checkIndex_2 : decode b_Obs_checkIndex 2 = .ok (.aconst_null, 1) := by decide +kernel
theorem d_Obs_checkIndex_3 : decode b_Obs_checkIndex 3 = .ok (.invokestatic 105, 3) := by decide +kernel
theorem d_Obs_checkIndex_6 : decode b_Obs_checkIndex 6 = .ok (.ireturn, 1) := by decide +kernel
theorem d_AL_elementData_0 : decode b_AL_elementData 0 = .ok (.aload_n 0, 1) := by decide +kernel
theorem d_AL_elementData_1 : decode b_AL_elementData 1 = .ok (.getfield 9, 3) := by decide +kernel
theorem d_AL_elementData_4 : decode b_AL_elementData 4 = .ok (.iload_n 1, 1) := by decide +kernel
theorem d_AL_elementData_5 : decode b_AL_elementData 5 = .ok (.aaload, 1) := by decide +kernel
theorem d_AL_elementData_6 : decode b_AL_elementData 6 = .ok (.areturn, 1) := by decide +kernel
theorem d_AL_remove_0 : decode b_AL_remove 0 = .ok (.iload_n 1, 1) := by decide +kernel
theorem d_AL_remove_1 : decode b_AL_remove 1 = .ok (.aload_n 0, 1) := by decide +kernel
theorem d_AL_remove_2 : decode b_AL_remove 2 = .ok (.getfield 48, 3) := by decide +kernel
theorem d_AL_remove_5 : decode b_AL_remove 5 = .ok (.invokestatic 118, 3) := by decide +kernel
theorem d_AL_remove_8 : decode b_AL_remove 8 = .ok (.pop, 1) := by decide +kernel
theorem d_AL_remove_9 : decode b_AL_remove 9 = .ok (.aload_n 0, 1) := by decide +kernel
theorem d_AL_remove_10 : decode b_AL_remove 10 = .ok (.getfield 9, 3) := by decide +kernel
theorem d_AL_remove_13 : decode b_AL_remove 13 = .ok (.astore_n 2, 1) := by decide +kernel
theorem d_AL_remove_14 : decode b_AL_remove 14 = .ok (.aload_n 2, 1) := by decide +kernel
theorem d_AL_remove_15 : decode b_AL_remove 15 = .ok (.iload_n 1, 1) := by decide +kernel
theorem d_AL_remove_16 : decode b_AL_remove 16 = .ok (.aaload, 1) := by decide +kernel
theorem d_AL_remove_17 : decode b_AL_remove 17 = .ok (.astore_n 3, 1) := by decide +kernel
theorem d_AL_remove_18 : decode b_AL_remove 18 = .ok (.aload_n 0, 1) := by decide +kernel
theorem d_AL_remove_19 : decode b_AL_remove 19 = .ok (.aload_n 2, 1) := by decide +kernel
theorem d_AL_remove_20 : decode b_AL_remove 20 = .ok (.iload_n 1, 1) := by decide +kernel
theorem d_AL_remove_21 : decode b_AL_remove 21 = .ok (.invokevirtual 144, 3) := by decide +kernel
theorem d_AL_remove_24 : decode b_AL_remove 24 = .ok (.aload_n 3, 1) := by decide +kernel
theorem d_AL_remove_25 : decode b_AL_remove 25 = .ok (.areturn, 1) := by decide +kernel
theorem d_AL_fastRemove_0 : decode b_AL_fastRemove 0 = .ok (.aload_n 0, 1) := by decide +kernel
theorem d_AL_fastRemove_1 : decode b_AL_fastRemove 1 = .ok (.dup, 1) := by decide +kernel
theorem d_AL_fastRemove_2 : decode b_AL_fastRemove 2 = .ok (.getfield 63, 3) := by decide +kernel
theorem d_AL_fastRemove_5 : decode b_AL_fastRemove 5 = .ok (.iconst 1, 1) := by decide +kernel
theorem d_AL_fastRemove_6 : decode b_AL_fastRemove 6 = .ok (.iadd, 1) := by decide +kernel
theorem d_AL_fastRemove_7 : decode b_AL_fastRemove 7 = .ok (.putfield 63, 3) := by decide +kernel
theorem d_AL_fastRemove_10 : decode b_AL_fastRemove 10 = .ok (.aload_n 0, 1) := by decide +kernel
theorem d_AL_fastRemove_11 : decode b_AL_fastRemove 11 = .ok (.getfield 48, 3) := by decide +kernel
theorem d_AL_fastRemove_14 : decode b_AL_fastRemove 14 = .ok (.iconst 1, 1) := by decide +kernel
theorem d_AL_fastRemove_15 : decode b_AL_fastRemove 15 = .ok (.isub, 1) := by decide +kernel
theorem d_AL_fastRemove_16 : decode b_AL_fastRemove 16 = .ok (.dup, 1) := by decide +kernel
theorem d_AL_fastRemove_17 : decode b_AL_fastRemove 17 = .ok (.istore_n 3, 1) := by decide +kernel
theorem d_AL_fastRemove_18 : decode b_AL_fastRemove 18 = .ok (.iload_n 2, 1) := by decide +kernel
theorem d_AL_fastRemove_19 : decode b_AL_fastRemove 19 = .ok (.if_icmp .le 15, 3) := by decide +kernel
theorem d_AL_fastRemove_22 : decode b_AL_fastRemove 22 = .ok (.aload_n 1, 1) := by decide +kernel
theorem d_AL_fastRemove_23 : decode b_AL_fastRemove 23 = .ok (.iload_n 2, 1) := by decide +kernel
theorem d_AL_fastRemove_24 : decode b_AL_fastRemove 24 = .ok (.iconst 1, 1) := by decide +kernel
theorem d_AL_fastRemove_25 : decode b_AL_fastRemove 25 = .ok (.iadd, 1) := by decide +kernel
theorem d_AL_fastRemove_26 : decode b_AL_fastRemove 26 = .ok (.aload_n 1, 1) := by decide +kernel
theorem d_AL_fastRemove_27 : decode b_AL_fastRemove 27 = .ok (.iload_n 2, 1) := by decide +kernel
theorem d_AL_fastRemove_28 : decode b_AL_fastRemove 28 = .ok (.iload_n 3, 1) := by decide +kernel
theorem d_AL_fastRemove_29 : decode b_AL_fastRemove 29 = .ok (.iload_n 2, 1) := by decide +kernel
theorem d_AL_fastRemove_30 : decode b_AL_fastRemove 30 = .ok (.isub, 1) := by decide +kernel
theorem d_AL_fastRemove_31 : decode b_AL_fastRemove 31 = .ok (.invokestatic 112, 3) := by decide +kernel
theorem d_AL_fastRemove_34 : decode b_AL_fastRemove 34 = .ok (.aload_n 1, 1) := by decide +kernel
theorem d_AL_fastRemove_35 : decode b_AL_fastRemove 35 = .ok (.aload_n 0, 1) := by decide +kernel
theorem d_AL_fastRemove_36 : decode b_AL_fastRemove 36 = .ok (.iload_n 3, 1) := by decide +kernel
theorem d_AL_fastRemove_37 : decode b_AL_fastRemove 37 = .ok (.dup_x1, 1) := by decide +kernel
theorem d_AL_fastRemove_38 : decode b_AL_fastRemove 38 = .ok (.putfield 48, 3) := by decide +kernel
theorem d_AL_fastRemove_41 : decode b_AL_fastRemove 41 = .ok (.aconst_null, 1) := by decide +kernel
theorem d_AL_fastRemove_42 : decode b_AL_fastRemove 42 = .ok (.aastore, 1) := by decide +kernel
theorem d_AL_fastRemove_43 : decode b_AL_fastRemove 43 = .ok (.return_, 1) := by decide +kernel
theorem d_AL_add_0 : decode b_AL_add 0 = .ok (.aload_n 0, 1) := by decide +kernel
theorem d_AL_add_1 : decode b_AL_add 1 = .ok (.iload_n 1, 1) := by decide +kernel
theorem d_AL_add_2 : decode b_AL_add 2 = .ok (.invokevirtual 135, 3) := by decide +kernel
theorem d_AL_add_5 : decode b_AL_add 5 = .ok (.aload_n 0, 1) := by decide +kernel
theorem d_AL_add_6 : decode b_AL_add 6 = .ok (.dup, 1) := by decide +kernel
theorem d_AL_add_7 : decode b_AL_add 7 = .ok (.getfield 63, 3) := by decide +kernel
theorem d_AL_add_10 : decode b_AL_add 10 = .ok (.iconst 1, 1) := by decide +kernel
theorem d_AL_add_11 : decode b_AL_add 11 = .ok (.iadd, 1) := by decide +kernel
theorem d_AL_add_12 : decode b_AL_add 12 = .ok (.putfield 63, 3) := by decide +kernel
theorem d_AL_add_15 : decode b_AL_add 15 = .ok (.aload_n 0, 1) := by decide +kernel
theorem d_AL_add_16 : decode b_AL_add 16 = .ok (.getfield 48, 3) := by decide +kernel
theorem d_AL_add_19 : decode b_AL_add 19 = .ok (.dup, 1) := by decide +kernel
theorem d_AL_add_20 : decode b_AL_add 20 = .ok (.istore_n 3, 1) := by decide +kernel
theorem d_AL_add_21 : decode b_AL_add 21 = .ok (.aload_n 0, 1) := by decide +kernel
theorem d_AL_add_22 : decode b_AL_add 22 = .ok (.getfield 9, 3) := by decide +kernel
theorem d_AL_add_25 : decode b_AL_add 25 = .ok (.dup, 1) := by decide +kernel
theorem d_AL_add_26 : decode b_AL_add 26 = .ok (.astore 4, 2) := by decide +kernel
theorem d_AL_add_28 : decode b_AL_add 28 = .ok (.arraylength, 1) := by decide +kernel
theorem d_AL_add_29 : decode b_AL_add 29 = .ok (.if_icmp .ne 9, 3) := by decide +kernel
theorem d_AL_add_32 : decode b_AL_add 32 = .ok (.aload_n 0, 1) := by decide +kernel
theorem d_AL_add_33 : decode b_AL_add 33 = .ok (.invokevirtual 129, 3) := by decide +kernel
theorem d_AL_add_36 : decode b_AL_add 36 = .ok (.astore 4, 2) := by decide +kernel
theorem d_AL_add_38 : decode b_AL_add 38 = .ok (.aload 4, 2) := by decide +kernel
theorem d_AL_add_40 : decode b_AL_add 40 = .ok (.iload_n 1, 1) := by decide +kernel
theorem d_AL_add_41 : decode b_AL_add 41 = .ok (.aload 4, 2) := by decide +kernel
theorem d_AL_add_43 : decode b_AL_add 43 = .ok (.iload_n 1, 1) := by decide +kernel
theorem d_AL_add_44 : decode b_AL_add 44 = .ok (.iconst 1, 1) := by decide +kernel
theorem d_AL_add_45 : decode b_AL_add 45 = .ok (.iadd, 1) := by decide +kernel
theorem d_AL_add_46 : decode b_AL_add 46 = .ok (.iload_n 3, 1) := by decide +kernel
theorem d_AL_add_47 : decode b_AL_add 47 = .ok (.iload_n 1, 1) := by decide +kernel
theorem d_AL_add_48 : decode b_AL_add 48 = .ok (.isub, 1) := by decide +kernel
theorem d_AL_add_49 : decode b_AL_add 49 = .ok (.invokestatic 112, 3) := by decide +kernel
theorem d_AL_add_52 : decode b_AL_add 52 = .ok (.aload 4, 2) := by decide +kernel
theorem d_AL_add_54 : decode b_AL_add 54 = .ok (.iload_n 1, 1) := by decide +kernel
theorem d_AL_add_55 : decode b_AL_add 55 = .ok (.aload_n 2, 1) := by decide +kernel
theorem d_AL_add_56 : decode b_AL_add 56 = .ok (.aastore, 1) := by decide +kernel
theorem d_AL_add_57 : decode b_AL_add 57 = .ok (.aload_n 0, 1) := by decide +kernel
theorem d_AL_add_58 : decode b_AL_add 58 = .ok (.iload_n 3, 1) := by decide +kernel
theorem d_AL_add_59 : decode b_AL_add 59 = .ok (.iconst 1, 1) := by decide +kernel
theorem d_AL_add_60 : decode b_AL_add 60 = .ok (.iadd, 1) := by decide +kernel
theorem d_AL_add_61 : decode b_AL_add 61 = .ok (.putfield 48, 3) := by decide +kernel
theorem d_AL_add_64 : decode b_AL_add 64 = .ok (.return_, 1) := by decide +kernel
theorem d_AL_rangeCheckForAdd_0 : decode b_AL_rangeCheckForAdd 0 = .ok (.iload_n 1, 1) := by decide +kernel
theorem d_AL_rangeCheckForAdd_1 : decode b_AL_rangeCheckForAdd 1 = .ok (.aload_n 0, 1) := by decide +kernel
theorem d_AL_rangeCheckForAdd_2 : decode b_AL_rangeCheckForAdd 2 = .ok (.getfield 48, 3) := by decide +kernel
theorem d_AL_rangeCheckForAdd_5 : decode b_AL_rangeCheckForAdd 5 = .ok (.if_icmp .gt 7, 3) := by decide +kernel
theorem d_AL_rangeCheckForAdd_8 : decode b_AL_rangeCheckForAdd 8 = .ok (.iload_n 1, 1) := by decide +kernel
theorem d_AL_rangeCheckForAdd_9 : decode b_AL_rangeCheckForAdd 9 = .ok (.ifCond .ge 16, 3) := by decide +kernel
theorem d_AL_rangeCheckForAdd_12 : decode b_AL_rangeCheckForAdd 12 = .ok (.new 187, 3) := by decide +kernel
theorem d_AL_rangeCheckForAdd_15 : decode b_AL_rangeCheckForAdd 15 = .ok (.dup, 1) := by decide +kernel
theorem d_AL_rangeCheckForAdd_16 : decode b_AL_rangeCheckForAdd 16 = .ok (.aload_n 0, 1) := by decide +kernel
theorem d_AL_rangeCheckForAdd_17 : decode b_AL_rangeCheckForAdd 17 = .ok (.iload_n 1, 1) := by decide +kernel
theorem d_AL_rangeCheckForAdd_18 : decode b_AL_rangeCheckForAdd 18 = .ok (.invokevirtual 198, 3) := by decide +kernel
theorem d_AL_rangeCheckForAdd_21 : decode b_AL_rangeCheckForAdd 21 = .ok (.invokespecial 193, 3) := by decide +kernel
theorem d_AL_rangeCheckForAdd_24 : decode b_AL_rangeCheckForAdd 24 = .ok (.athrow, 1) := by decide +kernel
theorem d_AL_rangeCheckForAdd_25 : decode b_AL_rangeCheckForAdd 25 = .ok (.return_, 1) := by decide +kernel
theorem d_AL_grow_0 : decode b_AL_grow 0 = .ok (.aload_n 0, 1) := by decide +kernel
theorem d_AL_grow_1 : decode b_AL_grow 1 = .ok (.aload_n 0, 1) := by decide +kernel
theorem d_AL_grow_2 : decode b_AL_grow 2 = .ok (.getfield 48, 3) := by decide +kernel
theorem d_AL_grow_5 : decode b_AL_grow 5 = .ok (.iconst 1, 1) := by decide +kernel
theorem d_AL_grow_6 : decode b_AL_grow 6 = .ok (.iadd, 1) := by decide +kernel
theorem d_AL_grow_7 : decode b_AL_grow 7 = .ok (.invokevirtual 69, 3) := by decide +kernel
theorem d_AL_grow_10 : decode b_AL_grow 10 = .ok (.areturn, 1) := by decide +kernel
theorem d_AL_grow2_0 : decode b_AL_grow2 0 = .ok (.aload_n 0, 1) := by decide +kernel
theorem d_AL_grow2_1 : decode b_AL_grow2 1 = .ok (.getfield 9, 3) := by decide +kernel
theorem d_AL_grow2_4 : decode b_AL_grow2 4 = .ok (.arraylength, 1) := by decide +kernel
theorem d_AL_grow2_5 : decode b_AL_grow2 5 = .ok (.istore_n 2, 1) := by decide +kernel
theorem d_AL_grow2_6 : decode b_AL_grow2 6 = .ok (.iload_n 2, 1) := by decide +kernel
theorem d_AL_grow2_7 : decode b_AL_grow2 7 = .ok (.ifCond .gt 13, 3) := by decide +kernel
theorem d_AL_grow2_10 : decode b_AL_grow2 10 = .ok (.aload_n 0, 1) := by decide +kernel
theorem d_AL_grow2_11 : decode b_AL_grow2 11 = .ok (.getfield 9, 3) := by decide +kernel
theorem d_AL_grow2_14 : decode b_AL_grow2 14 = .ok (.getstatic 39, 3) := by decide +kernel
theorem d_AL_grow2_17 : decode b_AL_grow2 17 = .ok (.if_acmp .eq 28, 3) := by decide +kernel
theorem d_AL_grow2_20 : decode b_AL_grow2 20 = .ok (.iload_n 2, 1) := by decide +kernel
theorem d_AL_grow2_21 : decode b_AL_grow2 21 = .ok (.iload_n 1, 1) := by decide +kernel
theorem d_AL_grow2_22 : decode b_AL_grow2 22 = .ok (.iload_n 2, 1) := by decide +kernel
theorem d_AL_grow2_23 : decode b_AL_grow2 23 = .ok (.isub, 1) := by decide +kernel
theorem d_AL_grow2_24 : decode b_AL_grow2 24 = .ok (.iload_n 2, 1) := by decide +kernel
theorem d_AL_grow2_25 : decode b_AL_grow2 25 = .ok (.iconst 1, 1) := by decide +kernel
theorem d_AL_grow2_26 : decode b_AL_grow2 26 = .ok (.ishr, 1) := by decide +kernel
theorem d_AL_grow2_27 : decode b_AL_grow2 27 = .ok (.invokestatic 73, 3) := by decide +kernel
theorem d_AL_grow2_30 : decode b_AL_grow2 30 = .ok (.istore_n 3, 1) := by decide +kernel
theorem d_AL_grow2_31 : decode b_AL_grow2 31 = .ok (.aload_n 0, 1) := by decide +kernel
theorem d_AL_grow2_32 : decode b_AL_grow2 32 = .ok (.aload_n 0, 1) := by decide +kernel
theorem d_AL_grow2_33 : decode b_AL_grow2 33 = .ok (.getfield 9, 3) := by decide +kernel
theorem d_AL_grow2_36 : decode b_AL_grow2 36 = .ok (.iload_n 3, 1) := by decide +kernel
theorem d_AL_grow2_37 : decode b_AL_grow2 37 = .ok (.invokestatic 66, 3) := by decide +kernel
theorem d_AL_grow2_40 : decode b_AL_grow2 40 = .ok (.dup_x1, 1) := by decide +kernel
theorem d_AL_grow2_41 : decode b_AL_grow2 41 = .ok (.putfield 9, 3) := by decide +kernel
theorem d_AL_grow2_44 : decode b_AL_grow2 44 = .ok (.areturn, 1) := by decide +kernel
theorem d_AL_grow2_45 : decode b_AL_grow2 45 = .ok (.aload_n 0, 1) := by decide +kernel
theorem d_AL_grow2_46 : decode b_AL_grow2 46 = .ok (.bipush 10, 2) := by decide +kernel
theorem d_AL_grow2_48 : decode b_AL_grow2 48 = .ok (.iload_n 1, 1) := by decide +kernel
theorem d_AL_grow2_49 : decode b_AL_grow2 49 = .ok (.invokestatic 79, 3) := by decide +kernel
theorem d_AL_grow2_52 : decode b_AL_grow2 52 = .ok (.anewarray 7, 3) := by decide +kernel
theorem d_AL_grow2_55 : decode b_AL_grow2 55 = .ok (.dup_x1, 1) := by decide +kernel
theorem d_AL_grow2_56 : decode b_AL_grow2 56 = .ok (.putfield 9, 3) := by decide +kernel
theorem d_AL_grow2_59 : decode b_AL_grow2 59 = .ok (.areturn, 1) := by decide +kernel
theorem d_ASu_newLength_0 : decode b_ASu_newLength 0 = .ok (.iload_n 0, 1) := by decide +kernel
theorem d_ASu_newLength_1 : decode b_ASu_newLength 1 = .ok (.iload_n 1, 1) := by decide +kernel
theorem d_ASu_newLength_2 : decode b_ASu_newLength 2 = .ok (.iload_n 2, 1) := by decide +kernel
theorem d_ASu_newLength_3 : decode b_ASu_newLength 3 = .ok (.invokestatic 194, 3) := by decide +kernel
theorem d_ASu_newLength_6 : decode b_ASu_newLength 6 = .ok (.iadd, 1) := by decide +kernel
theorem d_ASu_newLength_7 : decode b_ASu_newLength 7 = .ok (.istore_n 3, 1) := by decide +kernel
theorem d_ASu_newLength_8 : decode b_ASu_newLength 8 = .ok (.iconst 0, 1) := by decide +kernel
theorem d_ASu_newLength_9 : decode b_ASu_newLength 9 = .ok (.iload_n 3, 1) := by decide +kernel
theorem d_ASu_newLength_10 : decode b_ASu_newLength 10 = .ok (.if_icmp .ge 11, 3) := by decide +kernel
theorem d_ASu_newLength_13 : decode b_ASu_newLength 13 = .ok (.iload_n 3, 1) := by decide +kernel
theorem d_ASu_newLength_14 : decode b_ASu_newLength 14 = .ok (.ldc 200, 2) := by decide +kernel
theorem d_ASu_newLength_16 : decode b_ASu_newLength 16 = .ok (.if_icmp .gt 5, 3) := by decide +kernel
theorem d_ASu_newLength_19 : decode b_ASu_newLength 19 = .ok (.iload_n 3, 1) := by decide +kernel
theorem d_ASu_newLength_20 : decode b_ASu_newLength 20 = .ok (.ireturn, 1) := by decide +kernel
theorem d_ASu_newLength_21 : decode b_ASu_newLength 21 = .ok (.iload_n 0, 1) := by decide +kernel
theorem d_ASu_newLength_22 : decode b_ASu_newLength 22 = .ok (.iload_n 1, 1) := by decide +kernel
theorem d_ASu_newLength_23 : decode b_ASu_newLength 23 = .ok (.invokestatic 201, 3) := by decide +kernel
theorem d_ASu_newLength_26 : decode b_ASu_newLength 26 = .ok (.ireturn, 1) := by decide +kernel
theorem d_Ma_max_0 : decode b_Ma_max 0 = .ok (.iload_n 0, 1) := by decide +kernel
theorem d_Ma_max_1 : decode b_Ma_max 1 = .ok (.iload_n 1, 1) := by decide +kernel
theorem d_Ma_max_2 : decode b_Ma_max 2 = .ok (.if_icmp .lt 7, 3) := by decide +kernel
theorem d_Ma_max_5 : decode b_Ma_max 5 = .ok (.iload_n 0, 1) := by decide +kernel
theorem d_Ma_max_6 : decode b_Ma_max 6 = .ok (.goto 4, 3) := by decide +kernel
theorem d_Ma_max_9 : decode b_Ma_max 9 = .ok (.iload_n 1, 1) := by decide +kernel
theorem d_Ma_max_10 : decode b_Ma_max 10 = .ok (.ireturn, 1) := by decide +kernel
theorem d_ASu_hugeLength_0 : decode b_ASu_hugeLength 0 = .ok (.iload_n 0, 1) := by decide +kernel
theorem d_ASu_hugeLength_1 : decode b_ASu_hugeLength 1 = .ok (.iload_n 1, 1) := by decide +kernel
theorem d_ASu_hugeLength_2 : decode b_ASu_hugeLength 2 = .ok (.iadd, 1) := by decide +kernel
theorem d_ASu_hugeLength_3 : decode b_ASu_hugeLength 3 = .ok (.istore_n 2, 1) := by decide +kernel
theorem d_ASu_hugeLength_4 : decode b_ASu_hugeLength 4 = .ok (.iload_n 2, 1) := by decide +kernel
theorem d_ASu_hugeLength_5 : decode b_ASu_hugeLength 5 = .ok (.ifCond .ge 44, 3) := by decide +kernel
theorem d_ASu_hugeLength_8 : decode b_ASu_hugeLength 8 = .ok (.new 204, 3) := by decide +kernel
theorem d_ASu_hugeLength_11 : decode b_ASu_hugeLength 11 = .ok (.dup, 1) := by decide +kernel
theorem d_ASu_hugeLength_12 : decode b_ASu_hugeLength 12 = .ok (.new 89, 3) := by decide +kernel
theorem d_ASu_hugeLength_15 : decode b_ASu_hugeLength 15 = .ok (.dup, 1) := by decide +kernel
theorem d_ASu_hugeLength_16 : decode b_ASu_hugeLength 16 = .ok (.invokespecial 91, 3) := by decide +kernel
theorem d_ASu_hugeLength_19 : decode b_ASu_hugeLength 19 = .ok (.ldc 206, 2) := by decide +kernel
theorem d_ASu_hugeLength_21 : decode b_ASu_hugeLength 21 = .ok (.invokevirtual 94, 3) := by decide +kernel
theorem d_ASu_hugeLength_24 : decode b_ASu_hugeLength 24 = .ok (.iload_n 0, 1) := by decide +kernel
theorem d_ASu_hugeLength_25 : decode b_ASu_hugeLength 25 = .ok (.invokevirtual 98, 3) := by decide +kernel
theorem d_ASu_hugeLength_28 : decode b_ASu_hugeLength 28 = .ok (.ldc 208, 2) := by decide +kernel
theorem d_ASu_hugeLength_30 : decode b_ASu_hugeLength 30 = .ok (.invokevirtual 94, 3) := by decide +kernel
theorem d_ASu_hugeLength_33 : decode b_ASu_hugeLength 33 = .ok (.iload_n 1, 1) := by decide +kernel
theorem d_ASu_hugeLength_34 : decode b_ASu_hugeLength 34 = .ok (.invokevirtual 98, 3) := by decide +kernel
theorem d_ASu_hugeLength_37 : decode b_ASu_hugeLength 37 = .ok (.ldc 210, 2) := by decide +kernel
theorem d_ASu_hugeLength_39 : decode b_ASu_hugeLength 39 = .ok (.invokevirtual 94, 3) := by decide +kernel
theorem d_ASu_hugeLength_42 : decode b_ASu_hugeLength 42 = .ok (.invokevirtual 101, 3) := by decide +kernel
theorem d_ASu_hugeLength_45 : decode b_ASu_hugeLength 45 = .ok (.invokespecial 212, 3) := by decide +kernel
theorem d_ASu_hugeLength_48 : decode b_ASu_hugeLength 48 = .ok (.athrow, 1) := by decide +kernel
theorem d_ASu_hugeLength_49 : decode b_ASu_hugeLength 49 = .ok (.iload_n 2, 1) := by decide +kernel
theorem d_ASu_hugeLength_50 : decode b_ASu_hugeLength 50 = .ok (.ldc 200, 2) := by decide +kernel
theorem d_ASu_hugeLength_52 : decode b_ASu_hugeLength 52 = .ok (.if_icmp .gt 6, 3) := by decide +kernel
theorem d_ASu_hugeLength_55 : decode b_ASu_hugeLength 55 = .ok (.ldc 200, 2) := by decide +kernel
theorem d_ASu_hugeLength_57 : decode b_ASu_hugeLength 57 = .ok (.ireturn, 1) := by decide +kernel
theorem d_ASu_hugeLength_58 : decode b_ASu_hugeLength 58 = .ok (.iload_n 2, 1) := by decide +kernel
theorem d_ASu_hugeLength_59 : decode b_ASu_hugeLength 59 = .ok (.ireturn, 1) := by decide +kernel
theorem d_Ars_copyOf_0 : decode b_Ars_copyOf 0 = .ok (.aload_n 0, 1) := by decide +kernel
theorem d_Ars_copyOf_1 : decode b_Ars_copyOf 1 = .ok (.iload_n 1, 1) := by decide +kernel
theorem d_Ars_copyOf_2 : decode b_Ars_copyOf 2 = .ok (.aload_n 0, 1) := by decide +kernel
theorem d_Ars_copyOf_3 : decode b_Ars_copyOf 3 = .ok (.invokevirtual 86, 3) := by decide +kernel
theorem d_Ars_copyOf_6 : decode b_Ars_copyOf 6 = .ok (.invokestatic 300, 3) := by decide +kernel
theorem d_Ars_copyOf_9 : decode b_Ars_copyOf 9 = .ok (.areturn, 1) := by decide +kernel
theorem d_Ars_copyOf2_0 : decode b_Ars_copyOf2 0 = .ok (.aload_n 2, 1) := by decide +kernel
theorem d_Ars_copyOf2_1 : decode b_Ars_copyOf2 1 = .ok (.ldc 110, 2) := by decide +kernel
theorem d_Ars_copyOf2_3 : decode b_Ars_copyOf2 3 = .ok (.if_acmp .ne 10, 3) := by decide +kernel
theorem d_Ars_copyOf2_6 : decode b_Ars_copyOf2 6 = .ok (.iload_n 1, 1) := by decide +kernel
theorem d_Ars_copyOf2_7 : decode b_Ars_copyOf2 7 = .ok (.anewarray 2, 3) := by decide +kernel
theorem d_Ars_copyOf2_10 : decode b_Ars_copyOf2 10 = .ok (.goto 14, 3) := by decide +kernel
theorem d_Ars_copyOf2_13 : decode b_Ars_copyOf2 13 = .ok (.aload_n 2, 1) := by decide +kernel
theorem d_Ars_copyOf2_14 : decode b_Ars_copyOf2 14 = .ok (.invokevirtual 90, 3) := by decide +kernel
theorem d_Ars_copyOf2_17 : decode b_Ars_copyOf2 17 = .ok (.iload_n 1, 1) := by decide +kernel
theorem d_Ars_copyOf2_18 : decode b_Ars_copyOf2 18 = .ok (.invokestatic 95, 3) := by decide +kernel
theorem d_Ars_copyOf2_21 : decode b_Ars_copyOf2 21 = .ok (.checkcast 110, 3) := by decide +kernel
theorem d_Ars_copyOf2_24 : decode b_Ars_copyOf2 24 = .ok (.astore_n 3, 1) := by decide +kernel
theorem d_Ars_copyOf2_25 : decode b_Ars_copyOf2 25 = .ok (.aload_n 0, 1) := by decide +kernel
theorem d_Ars_copyOf2_26 : decode b_Ars_copyOf2 26 = .ok (.iconst 0, 1) := by decide +kernel
theorem d_Ars_copyOf2_27 : decode b_Ars_copyOf2 27 = .ok (.aload_n 3, 1) := by decide +kernel
theorem d_Ars_copyOf2_28 : decode b_Ars_copyOf2 28 = .ok (.iconst 0, 1) := by decide +kernel
theorem d_Ars_copyOf2_29 : decode b_Ars_copyOf2 29 = .ok (.aload_n 0, 1) := by decide +kernel
theorem d_Ars_copyOf2_30 : decode b_Ars_copyOf2 30 = .ok (.arraylength, 1) := by decide +kernel
theorem d_Ars_copyOf2_31 : decode b_Ars_copyOf2 31 = .ok (.iload_n 1, 1) := by decide +kernel
theorem d_Ars_copyOf2_32 : decode b_Ars_copyOf2 32 = .ok (.invokestatic 304, 3) := by decide +kernel
theorem d_Ars_copyOf2_35 : decode b_Ars_copyOf2 35 = .ok (.invokestatic 150, 3) := by decide +kernel
theorem d_Ars_copyOf2_38 : decode b_Ars_copyOf2 38 = .ok (.aload_n 3, 1) := by decide +kernel
theorem d_Ars_copyOf2_39 : decode b_Ars_copyOf2 39 = .ok (.areturn, 1) := by decide +kernel
theorem d_Ma_min_0 : decode b_Ma_min 0 = .ok (.iload_n 0, 1) := by decide +kernel
theorem d_Ma_min_1 : decode b_Ma_min 1 = .ok (.iload_n 1, 1) := by decide +kernel
theorem d_Ma_min_2 : decode b_Ma_min 2 = .ok (.if_icmp .gt 7, 3) := by decide +kernel
theorem d_Ma_min_5 : decode b_Ma_min 5 = .ok (.iload_n 0, 1) := by decide +kernel
theorem d_Ma_min_6 : decode b_Ma_min 6 = .ok (.goto 4, 3) := by decide +kernel
theorem d_Ma_min_9 : decode b_Ma_min 9 = .ok (.iload_n 1, 1) := by decide +kernel
theorem d_Ma_min_10 : decode b_Ma_min 10 = .ok (.ireturn, 1) := by decide +kernel
theorem d_Rd_takeType_0 : decode b_Rd_takeType 0 = .ok (.aload_n 0, 1) := by decide +kernel
theorem d_Rd_takeType_1 : decode b_Rd_takeType 1 = .ok (.getfield 27, 3) := by decide +kernel
theorem d_Rd_takeType_4 : decode b_Rd_takeType 4 = .ok (.aload_n 0, 1) := by decide +kernel
theorem d_Rd_takeType_5 : decode b_Rd_takeType 5 = .ok (.getfield 12, 3) := by decide +kernel
theorem d_Rd_takeType_8 : decode b_Rd_takeType 8 = .ok (.getfield 114, 3) := by decide +kernel
theorem d_Rd_takeType_11 : decode b_Rd_takeType 11 = .ok (.invokevirtual 162, 3) := by decide +kernel
theorem d_Rd_takeType_14 : decode b_Rd_takeType 14 = .ok (.ifnull 6, 3) := by decide +kernel
theorem d_Rd_takeType_17 : decode b_Rd_takeType 17 = .ok (.bipush 7, 2) := by decide +kernel
theorem d_Rd_takeType_19 : decode b_Rd_takeType 19 = .ok (.ireturn, 1) := by decide +kernel
theorem d_Rd_takeType_20 : decode b_Rd_takeType 20 = .ok (.aload_n 0, 1) := by decide +kernel
theorem d_Rd_takeType_21 : decode b_Rd_takeType 21 = .ok (.getfield 27, 3) := by decide +kernel
theorem d_Rd_takeType_24 : decode b_Rd_takeType 24 = .ok (.getfield 166, 3) := by decide +kernel
theorem d_Rd_takeType_27 : decode b_Rd_takeType 27 = .ok (.invokevirtual 170, 3) := by decide +kernel
theorem d_Rd_takeType_30 : decode b_Rd_takeType 30 = .ok (.ifCond .eq 6, 3) := by decide +kernel
theorem d_Rd_takeType_33 : decode b_Rd_takeType 33 = .ok (.bipush 8, 2) := by decide +kernel
theorem d_Rd_takeType_35 : decode b_Rd_takeType 35 = .ok (.ireturn, 1) := by decide +kernel
theorem d_Rd_takeType_36 : decode b_Rd_takeType 36 = .ok (.aload_n 0, 1) := by decide +kernel
theorem d_Rd_takeType_37 : decode b_Rd_takeType 37 = .ok (.aload_n 0, 1) := by decide +kernel
theorem d_Rd_takeType_38 : decode b_Rd_takeType 38 = .ok (.getfield 27, 3) := by decide +kernel
theorem d_Rd_takeType_41 : decode b_Rd_takeType 41 = .ok (.aload_n 0, 1) := by decide +kernel
theorem d_Rd_takeType_42 : decode b_Rd_takeType 42 = .ok (.getfield 12, 3) := by decide +kernel
theorem d_Rd_takeType_45 : decode b_Rd_takeType 45 = .ok (.invokevirtual 175, 3) := by decide +kernel
theorem d_Rd_takeType_48 : decode b_Rd_takeType 48 = .ok (.putfield 179, 3) := by decide +kernel
theorem d_Rd_takeType_51 : decode b_Rd_takeType 51 = .ok (.iconst 0, 1) := by decide +kernel
theorem d_Rd_takeType_52 : decode b_Rd_takeType 52 = .ok (.ireturn, 1) := by decide +kernel
theorem d_B_write_0 : decode b_B_write 0 = .ok (.aload_n 0, 1) := by decide +kernel
theorem d_B_write_1 : decode b_B_write 1 = .ok (.iload_n 1, 1) := by decide +kernel
theorem d_B_write_2 : decode b_B_write 2 = .ok (.invokevirtual 56, 3) := by decide +kernel
theorem d_B_write_5 : decode b_B_write 5 = .ok (.astore_n 2, 1) := by decide +kernel
theorem d_B_write_6 : decode b_B_write 6 = .ok (.aload_n 2, 1) := by decide +kernel
theorem d_B_write_7 : decode b_B_write 7 = .ok (.ifnonnull 5, 3) := by decide +kernel
theorem d_B_write_10 : decode b_B_write 10 = .ok (.iconst (-1), 1) := by decide +kernel
theorem d_B_write_11 : decode b_B_write 11 = .ok (.ireturn, 1) := by decide +kernel
theorem d_B_write_12 : decode b_B_write 12 = .ok (.aload_n 0, 1) := by decide +kernel
theorem d_B_write_13 : decode b_B_write 13 = .ok (.getfield 18, 3) := by decide +kernel
theorem d_B_write_16 : decode b_B_write 16 = .ok (.invokevirtual 53, 3) := by decide +kernel
theorem d_B_write_19 : decode b_B_write 19 = .ok (.aload_n 2, 1) := by decide +kernel
theorem d_B_write_20 : decode b_B_write 20 = .ok (.aload_n 0, 1) := by decide +kernel
theorem d_B_write_21 : decode b_B_write 21 = .ok (.getfield 18, 3) := by decide +kernel
theorem d_B_write_24 : decode b_B_write 24 = .ok (.invokevirtual 78, 3) := by decide +kernel
theorem d_B_write_27 : decode b_B_write 27 = .ok (.aload_n 0, 1) := by decide +kernel
theorem d_B_write_28 : decode b_B_write 28 = .ok (.getfield 18, 3) := by decide +kernel
theorem d_B_write_31 : decode b_B_write 31 = .ok (.invokevirtual 82, 3) := by decide +kernel
theorem d_B_write_34 : decode b_B_write 34 = .ok (.ifCond .ne 5, 3) := by decide +kernel
theorem d_B_write_37 : decode b_B_write 37 = .ok (.iconst (-1), 1) := by decide +kernel
theorem d_B_write_38 : decode b_B_write 38 = .ok (.ireturn, 1) := by decide +kernel
theorem d_B_write_39 : decode b_B_write 39 = .ok (.aload_n 0, 1) := by decide +kernel
theorem d_B_write_40 : decode b_B_write 40 = .ok (.getfield 14, 3) := by decide +kernel
theorem d_B_write_43 : decode b_B_write 43 = .ok (.aload_n 0, 1) := by decide +kernel
theorem d_B_write_44 : decode b_B_write 44 = .ok (.getfield 18, 3) := by decide +kernel
theorem d_B_write_47 : decode b_B_write 47 = .ok (.invokevirtual 86, 3) := by decide +kernel
theorem d_B_write_50 : decode b_B_write 50 = .ok (.aload_n 0, 1) := by decide +kernel
theorem d_B_write_51 : decode b_B_write 51 = .ok (.getfield 14, 3) := by decide +kernel
theorem d_B_write_54 : decode b_B_write 54 = .ok (.invokevirtual 38, 3) := by decide +kernel
theorem d_B_write_57 : decode b_B_write 57 = .ok (.ireturn, 1) := by decide +kernel
theorem d_B_format_0 : decode b_B_format 0 = .ok (.aload_n 0, 1) := by decide +kernel
theorem d_B_format_1 : decode b_B_format 1 = .ok (.iload_n 1, 1) := by decide +kernel
theorem d_B_format_2 : decode b_B_format 2 = .ok (.invokevirtual 56, 3) := by decide +kernel
theorem d_B_format_5 : decode b_B_format 5 = .ok (.astore_n 3, 1) := by decide +kernel
theorem d_B_format_6 : decode b_B_format 6 = .ok (.aload_n 3, 1) := by decide +kernel
theorem d_B_format_7 : decode b_B_format 7 = .ok (.ifnull 13, 3) := by decide +kernel
theorem d_B_format_10 : decode b_B_format 10 = .ok (.iload_n 2, 1) := by decide +kernel
theorem d_B_format_11 : decode b_B_format 11 = .ok (.iconst 1, 1) := by decide +kernel
theorem d_B_format_12 : decode b_B_format 12 = .ok (.if_icmp .eq 10, 3) := by decide +kernel
theorem d_B_format_15 : decode b_B_format 15 = .ok (.iload_n 2, 1) := by decide +kernel
theorem d_B_format_16 : decode b_B_format 16 = .ok (.iconst 2, 1) := by decide +kernel
theorem d_B_format_17 : decode b_B_format 17 = .ok (.if_icmp .eq 5, 3) := by decide +kernel
theorem d_B_format_20 : decode b_B_format 20 = .ok (.iconst (-1), 1) := by decide +kernel
theorem d_B_format_21 : decode b_B_format 21 = .ok (.ireturn, 1) := by decide +kernel
theorem d_B_format_22 : decode b_B_format 22 = .ok (.aload_n 3, 1) := by decide +kernel
theorem d_B_format_23 : decode b_B_format 23 = .ok (.getfield 89, 3) := by decide +kernel
theorem d_B_format_26 : decode b_B_format 26 = .ok (.istore 4, 2) := by decide +kernel
theorem d_B_format_28 : decode b_B_format 28 = .ok (.aload_n 3, 1) := by decide +kernel
theorem d_B_format_29 : decode b_B_format 29 = .ok (.iload_n 2, 1) := by decide +kernel
theorem d_B_format_30 : decode b_B_format 30 = .ok (.putfield 89, 3) := by decide +kernel
theorem d_B_format_33 : decode b_B_format 33 = .ok (.iload 4, 2) := by decide +kernel
theorem d_B_format_35 : decode b_B_format 35 = .ok (.ireturn, 1) := by decide +kernel
theorem d_B_text_0 : decode b_B_text 0 = .ok (.aload_n 0, 1) := by decide +kernel
theorem d_B_text_1 : decode b_B_text 1 = .ok (.getfield 14, 3) := by decide +kernel
theorem d_B_text_4 : decode b_B_text 4 = .ok (.iload_n 1, 1) := by decide +kernel
theorem d_B_text_5 : decode b_B_text 5 = .ok (.invokevirtual 67, 3) := by decide +kernel
theorem d_B_text_8 : decode b_B_text 8 = .ok (.ireturn, 1) := by decide +kernel
theorem d_B_diagnostic_0 : decode b_B_diagnostic 0 = .ok (.iload_n 1, 1) := by decide +kernel
theorem d_B_diagnostic_1 : decode b_B_diagnostic 1 = .ok (.ifCond .lt 14, 3) := by decide +kernel
theorem d_B_diagnostic_4 : decode b_B_diagnostic 4 = .ok (.iload_n 1, 1) := by decide +kernel
theorem d_B_diagnostic_5 : decode b_B_diagnostic 5 = .ok (.aload_n 0, 1) := by decide +kernel
theorem d_B_diagnostic_6 : decode b_B_diagnostic 6 = .ok (.getfield 24, 3) := by decide +kernel
theorem d_B_diagnostic_9 : decode b_B_diagnostic 9 = .ok (.invokevirtual 93, 3) := by decide +kernel
theorem d_B_diagnostic_12 : decode b_B_diagnostic 12 = .ok (.if_icmp .lt 5, 3) := by decide +kernel
theorem d_B_diagnostic_15 : decode b_B_diagnostic 15 = .ok (.iconst (-1), 1) := by decide +kernel
theorem d_B_diagnostic_16 : decode b_B_diagnostic 16 = .ok (.ireturn, 1) := by decide +kernel
theorem d_B_diagnostic_17 : decode b_B_diagnostic 17 = .ok (.iload_n 2, 1) := by decide +kernel
theorem d_B_diagnostic_18 : decode b_B_diagnostic 18 = .ok (.tableswitch 56 0 2 #[26, 36, 46], 26) := by decide +kernel
theorem d_B_diagnostic_44 : decode b_B_diagnostic 44 = .ok (.aload_n 0, 1) := by decide +kernel
theorem d_B_diagnostic_45 : decode b_B_diagnostic 45 = .ok (.getfield 24, 3) := by decide +kernel
theorem d_B_diagnostic_48 : decode b_B_diagnostic 48 = .ok (.getfield 96, 3) := by decide +kernel
theorem d_B_diagnostic_51 : decode b_B_diagnostic 51 = .ok (.iload_n 1, 1) := by decide +kernel
theorem d_B_diagnostic_52 : decode b_B_diagnostic 52 = .ok (.iaload, 1) := by decide +kernel
theorem d_B_diagnostic_53 : decode b_B_diagnostic 53 = .ok (.ireturn, 1) := by decide +kernel
theorem d_B_diagnostic_54 : decode b_B_diagnostic 54 = .ok (.aload_n 0, 1) := by decide +kernel
theorem d_B_diagnostic_55 : decode b_B_diagnostic 55 = .ok (.getfield 24, 3) := by decide +kernel
theorem d_B_diagnostic_58 : decode b_B_diagnostic 58 = .ok (.getfield 100, 3) := by decide +kernel
theorem d_B_diagnostic_61 : decode b_B_diagnostic 61 = .ok (.iload_n 1, 1) := by decide +kernel
theorem d_B_diagnostic_62 : decode b_B_diagnostic 62 = .ok (.iaload, 1) := by decide +kernel
theorem d_B_diagnostic_63 : decode b_B_diagnostic 63 = .ok (.ireturn, 1) := by decide +kernel
theorem d_B_diagnostic_64 : decode b_B_diagnostic 64 = .ok (.aload_n 0, 1) := by decide +kernel
theorem d_B_diagnostic_65 : decode b_B_diagnostic 65 = .ok (.getfield 24, 3) := by decide +kernel
theorem d_B_diagnostic_68 : decode b_B_diagnostic 68 = .ok (.getfield 103, 3) := by decide +kernel
theorem d_B_diagnostic_71 : decode b_B_diagnostic 71 = .ok (.iload_n 1, 1) := by decide +kernel
theorem d_B_diagnostic_72 : decode b_B_diagnostic 72 = .ok (.iaload, 1) := by decide +kernel
theorem d_B_diagnostic_73 : decode b_B_diagnostic 73 = .ok (.ireturn, 1) := by decide +kernel
theorem d_B_diagnostic_74 : decode b_B_diagnostic 74 = .ok (.iconst (-1), 1) := by decide +kernel
theorem d_B_diagnostic_75 : decode b_B_diagnostic 75 = .ok (.ireturn, 1) := by decide +kernel
theorem d_B_types_0 : decode b_B_types 0 = .ok (.aload_n 0, 1) := by decide +kernel
theorem d_B_types_1 : decode b_B_types 1 = .ok (.iload_n 1, 1) := by decide +kernel
theorem d_B_types_2 : decode b_B_types 2 = .ok (.invokevirtual 56, 3) := by decide +kernel
theorem d_B_types_5 : decode b_B_types 5 = .ok (.astore_n 2, 1) := by decide +kernel
theorem d_B_types_6 : decode b_B_types 6 = .ok (.aload_n 2, 1) := by decide +kernel
theorem d_B_types_7 : decode b_B_types 7 = .ok (.ifnonnull 7, 3) := by decide +kernel
theorem d_B_types_10 : decode b_B_types 10 = .ok (.iconst (-1), 1) := by decide +kernel
theorem d_B_types_11 : decode b_B_types 11 = .ok (.goto 10, 3) := by decide +kernel
theorem d_B_types_14 : decode b_B_types 14 = .ok (.aload_n 2, 1) := by decide +kernel
theorem d_B_types_15 : decode b_B_types 15 = .ok (.getfield 106, 3) := by decide +kernel
theorem d_B_types_18 : decode b_B_types 18 = .ok (.invokevirtual 110, 3) := by decide +kernel
theorem d_B_types_21 : decode b_B_types 21 = .ok (.ireturn, 1) := by decide +kernel
theorem d_B_about_0 : decode b_B_about 0 = .ok (.aload_n 0, 1) := by decide +kernel
theorem d_B_about_1 : decode b_B_about 1 = .ok (.iload_n 1, 1) := by decide +kernel
theorem d_B_about_2 : decode b_B_about 2 = .ok (.iload_n 2, 1) := by decide +kernel
theorem d_B_about_3 : decode b_B_about 3 = .ok (.invokevirtual 113, 3) := by decide +kernel
theorem d_B_about_6 : decode b_B_about 6 = .ok (.astore 4, 2) := by decide +kernel
theorem d_B_about_8 : decode b_B_about 8 = .ok (.aload 4, 2) := by decide +kernel
theorem d_B_about_10 : decode b_B_about 10 = .ok (.ifnonnull 5, 3) := by decide +kernel
theorem d_B_about_13 : decode b_B_about 13 = .ok (.iconst (-1), 1) := by decide +kernel
theorem d_B_about_14 : decode b_B_about 14 = .ok (.ireturn, 1) := by decide +kernel
theorem d_B_about_15 : decode b_B_about 15 = .ok (.iload_n 3, 1) := by decide +kernel
theorem d_B_about_16 : decode b_B_about 16 = .ok (.tableswitch 62 0 3 #[32, 38, 44, 53], 32) := by decide +kernel
theorem d_B_about_48 : decode b_B_about 48 = .ok (.aload 4, 2) := by decide +kernel
theorem d_B_about_50 : decode b_B_about 50 = .ok (.getfield 117, 3) := by decide +kernel
theorem d_B_about_53 : decode b_B_about 53 = .ok (.ireturn, 1) := by decide +kernel
theorem d_B_about_54 : decode b_B_about 54 = .ok (.aload 4, 2) := by decide +kernel
theorem d_B_about_56 : decode b_B_about 56 = .ok (.getfield 122, 3) := by decide +kernel
theorem d_B_about_59 : decode b_B_about 59 = .ok (.ireturn, 1) := by decide +kernel
theorem d_B_about_60 : decode b_B_about 60 = .ok (.aload 4, 2) := by decide +kernel
theorem d_B_about_62 : decode b_B_about 62 = .ok (.getfield 125, 3) := by decide +kernel
theorem d_B_about_65 : decode b_B_about 65 = .ok (.invokevirtual 110, 3) := by decide +kernel
theorem d_B_about_68 : decode b_B_about 68 = .ok (.ireturn, 1) := by decide +kernel
theorem d_B_about_69 : decode b_B_about 69 = .ok (.aload 4, 2) := by decide +kernel
theorem d_B_about_71 : decode b_B_about 71 = .ok (.getfield 128, 3) := by decide +kernel
theorem d_B_about_74 : decode b_B_about 74 = .ok (.invokevirtual 38, 3) := by decide +kernel
theorem d_B_about_77 : decode b_B_about 77 = .ok (.ireturn, 1) := by decide +kernel
theorem d_B_about_78 : decode b_B_about 78 = .ok (.iconst (-1), 1) := by decide +kernel
theorem d_B_about_79 : decode b_B_about 79 = .ok (.ireturn, 1) := by decide +kernel
theorem d_B_typeAt_0 : decode b_B_typeAt 0 = .ok (.aload_n 0, 1) := by decide +kernel
theorem d_B_typeAt_1 : decode b_B_typeAt 1 = .ok (.iload_n 1, 1) := by decide +kernel
theorem d_B_typeAt_2 : decode b_B_typeAt 2 = .ok (.invokevirtual 56, 3) := by decide +kernel
theorem d_B_typeAt_5 : decode b_B_typeAt 5 = .ok (.astore_n 3, 1) := by decide +kernel
theorem d_B_typeAt_6 : decode b_B_typeAt 6 = .ok (.aload_n 3, 1) := by decide +kernel
theorem d_B_typeAt_7 : decode b_B_typeAt 7 = .ok (.ifnonnull 7, 3) := by decide +kernel
theorem d_B_typeAt_10 : decode b_B_typeAt 10 = .ok (.aconst_null, 1) := by decide +kernel
theorem d_B_typeAt_11 : decode b_B_typeAt 11 = .ok (.goto 14, 3) := by decide +kernel
theorem d_B_typeAt_14 : decode b_B_typeAt 14 = .ok (.aload_n 3, 1) := by decide +kernel
theorem d_B_typeAt_15 : decode b_B_typeAt 15 = .ok (.getfield 106, 3) := by decide +kernel
theorem d_B_typeAt_18 : decode b_B_typeAt 18 = .ok (.iload_n 2, 1) := by decide +kernel
theorem d_B_typeAt_19 : decode b_B_typeAt 19 = .ok (.invokevirtual 150, 3) := by decide +kernel
theorem d_B_typeAt_22 : decode b_B_typeAt 22 = .ok (.checkcast 118, 3) := by decide +kernel
theorem d_B_typeAt_25 : decode b_B_typeAt 25 = .ok (.areturn, 1) := by decide +kernel
theorem d_B_member_0 : decode b_B_member 0 = .ok (.aload_n 0, 1) := by decide +kernel
theorem d_B_member_1 : decode b_B_member 1 = .ok (.iload_n 1, 1) := by decide +kernel
theorem d_B_member_2 : decode b_B_member 2 = .ok (.iload_n 2, 1) := by decide +kernel
theorem d_B_member_3 : decode b_B_member 3 = .ok (.iload_n 3, 1) := by decide +kernel
theorem d_B_member_4 : decode b_B_member 4 = .ok (.invokevirtual 131, 3) := by decide +kernel
theorem d_B_member_7 : decode b_B_member 7 = .ok (.astore 5, 2) := by decide +kernel
theorem d_B_member_9 : decode b_B_member 9 = .ok (.aload 5, 2) := by decide +kernel
theorem d_B_member_11 : decode b_B_member 11 = .ok (.ifnonnull 5, 3) := by decide +kernel
theorem d_B_member_14 : decode b_B_member 14 = .ok (.iconst (-1), 1) := by decide +kernel
theorem d_B_member_15 : decode b_B_member 15 = .ok (.ireturn, 1) := by decide +kernel
theorem d_B_member_16 : decode b_B_member 16 = .ok (.iload 4, 2) := by decide +kernel
theorem d_B_member_18 : decode b_B_member 18 = .ok (.tableswitch 60 0 3 #[30, 36, 42, 51], 30) := by decide +kernel
theorem d_B_member_48 : decode b_B_member 48 = .ok (.aload 5, 2) := by decide +kernel
theorem d_B_member_50 : decode b_B_member 50 = .ok (.getfield 135, 3) := by decide +kernel
theorem d_B_member_53 : decode b_B_member 53 = .ok (.ireturn, 1) := by decide +kernel
theorem d_B_member_54 : decode b_B_member 54 = .ok (.aload 5, 2) := by decide +kernel
theorem d_B_member_56 : decode b_B_member 56 = .ok (.getfield 138, 3) := by decide +kernel
theorem d_B_member_59 : decode b_B_member 59 = .ok (.ireturn, 1) := by decide +kernel
theorem d_B_member_60 : decode b_B_member 60 = .ok (.aload 5, 2) := by decide +kernel
theorem d_B_member_62 : decode b_B_member 62 = .ok (.getfield 139, 3) := by decide +kernel
theorem d_B_member_65 : decode b_B_member 65 = .ok (.invokevirtual 38, 3) := by decide +kernel
theorem d_B_member_68 : decode b_B_member 68 = .ok (.ireturn, 1) := by decide +kernel
theorem d_B_member_69 : decode b_B_member 69 = .ok (.aload 5, 2) := by decide +kernel
theorem d_B_member_71 : decode b_B_member 71 = .ok (.getfield 140, 3) := by decide +kernel
theorem d_B_member_74 : decode b_B_member 74 = .ok (.invokevirtual 38, 3) := by decide +kernel
theorem d_B_member_77 : decode b_B_member 77 = .ok (.ireturn, 1) := by decide +kernel
theorem d_B_member_78 : decode b_B_member 78 = .ok (.iconst (-1), 1) := by decide +kernel
theorem d_B_member_79 : decode b_B_member 79 = .ok (.ireturn, 1) := by decide +kernel
theorem d_B_memberAt_0 : decode b_B_memberAt 0 = .ok (.aload_n 0, 1) := by decide +kernel
theorem d_B_memberAt_1 : decode b_B_memberAt 1 = .ok (.iload_n 1, 1) := by decide +kernel
theorem d_B_memberAt_2 : decode b_B_memberAt 2 = .ok (.iload_n 2, 1) := by decide +kernel
theorem d_B_memberAt_3 : decode b_B_memberAt 3 = .ok (.invokevirtual 113, 3) := by decide +kernel
theorem d_B_memberAt_6 : decode b_B_memberAt 6 = .ok (.astore 4, 2) := by decide +kernel
theorem d_B_memberAt_8 : decode b_B_memberAt 8 = .ok (.aload 4, 2) := by decide +kernel
theorem d_B_memberAt_10 : decode b_B_memberAt 10 = .ok (.ifnonnull 7, 3) := by decide +kernel
theorem d_B_memberAt_13 : decode b_B_memberAt 13 = .ok (.aconst_null, 1) := by decide +kernel
theorem d_B_memberAt_14 : decode b_B_memberAt 14 = .ok (.goto 12, 3) := by decide +kernel
theorem d_B_memberAt_17 : decode b_B_memberAt 17 = .ok (.aload 4, 2) := by decide +kernel
theorem d_B_memberAt_19 : decode b_B_memberAt 19 = .ok (.getfield 125, 3) := by decide +kernel
theorem d_B_memberAt_22 : decode b_B_memberAt 22 = .ok (.iload_n 3, 1) := by decide +kernel
theorem d_B_memberAt_23 : decode b_B_memberAt 23 = .ok (.invokevirtual 150, 3) := by decide +kernel
theorem d_B_memberAt_26 : decode b_B_memberAt 26 = .ok (.areturn, 1) := by decide +kernel
theorem d_B_character_0 : decode b_B_character 0 = .ok (.iload 4, 2) := by decide +kernel
theorem d_B_character_2 : decode b_B_character 2 = .ok (.iconst (-1), 1) := by decide +kernel
theorem d_B_character_3 : decode b_B_character 3 = .ok (.if_icmp .ne 12, 3) := by decide +kernel
theorem d_B_character_6 : decode b_B_character 6 = .ok (.aload_n 0, 1) := by decide +kernel
theorem d_B_character_7 : decode b_B_character 7 = .ok (.iload_n 1, 1) := by decide +kernel
theorem d_B_character_8 : decode b_B_character 8 = .ok (.iload_n 2, 1) := by decide +kernel
theorem d_B_character_9 : decode b_B_character 9 = .ok (.invokevirtual 113, 3) := by decide +kernel
theorem d_B_character_12 : decode b_B_character 12 = .ok (.goto 10, 3) := by decide +kernel
theorem d_B_character_15 : decode b_B_character 15 = .ok (.aload_n 0, 1) := by decide +kernel
theorem d_B_character_16 : decode b_B_character 16 = .ok (.iload_n 1, 1) := by decide +kernel
theorem d_B_character_17 : decode b_B_character 17 = .ok (.iload_n 2, 1) := by decide +kernel
theorem d_B_character_18 : decode b_B_character 18 = .ok (.iload_n 3, 1) := by decide +kernel
theorem d_B_character_19 : decode b_B_character 19 = .ok (.invokevirtual 131, 3) := by decide +kernel
theorem d_B_character_22 : decode b_B_character 22 = .ok (.astore 6, 2) := by decide +kernel
theorem d_B_character_24 : decode b_B_character 24 = .ok (.aload 6, 2) := by decide +kernel
theorem d_B_character_26 : decode b_B_character 26 = .ok (.ifnonnull 5, 3) := by decide +kernel
theorem d_B_character_29 : decode b_B_character 29 = .ok (.iconst (-1), 1) := by decide +kernel
theorem d_B_character_30 : decode b_B_character 30 = .ok (.ireturn, 1) := by decide +kernel
theorem d_B_character_31 : decode b_B_character 31 = .ok (.iload 4, 2) := by decide +kernel
theorem d_B_character_33 : decode b_B_character 33 = .ok (.tableswitch 49 (-1) 1 #[27, 27, 38], 27) := by decide +kernel
theorem d_B_character_60 : decode b_B_character 60 = .ok (.aload 6, 2) := by decide +kernel
theorem d_B_character_62 : decode b_B_character 62 = .ok (.getfield 139, 3) := by decide +kernel
theorem d_B_character_65 : decode b_B_character 65 = .ok (.iload 5, 2) := by decide +kernel
theorem d_B_character_67 : decode b_B_character 67 = .ok (.invokevirtual 67, 3) := by decide +kernel
theorem d_B_character_70 : decode b_B_character 70 = .ok (.ireturn, 1) := by decide +kernel
theorem d_B_character_71 : decode b_B_character 71 = .ok (.aload 6, 2) := by decide +kernel
theorem d_B_character_73 : decode b_B_character 73 = .ok (.getfield 140, 3) := by decide +kernel
theorem d_B_character_76 : decode b_B_character 76 = .ok (.iload 5, 2) := by decide +kernel
theorem d_B_character_78 : decode b_B_character 78 = .ok (.invokevirtual 67, 3) := by decide +kernel
theorem d_B_character_81 : decode b_B_character 81 = .ok (.ireturn, 1) := by decide +kernel
theorem d_B_character_82 : decode b_B_character 82 = .ok (.iconst (-1), 1) := by decide +kernel
theorem d_B_character_83 : decode b_B_character 83 = .ok (.ireturn, 1) := by decide +kernel
theorem d_B_differ_0 : decode b_B_differ 0 = .ok (.aload_n 0, 1) := by decide +kernel
theorem d_B_differ_1 : decode b_B_differ 1 = .ok (.getfield 31, 3) := by decide +kernel
theorem d_B_differ_4 : decode b_B_differ 4 = .ok (.aload_n 0, 1) := by decide +kernel
theorem d_B_differ_5 : decode b_B_differ 5 = .ok (.getfield 35, 3) := by decide +kernel
theorem d_B_differ_8 : decode b_B_differ 8 = .ok (.invokevirtual 143, 3) := by decide +kernel
theorem d_B_differ_11 : decode b_B_differ 11 = .ok (.ireturn, 1) := by decide +kernel
theorem d_B_lost_0 : decode b_B_lost 0 = .ok (.iload_n 1, 1) := by decide +kernel
theorem d_B_lost_1 : decode b_B_lost 1 = .ok (.lookupswitch 51 #[(0, 27), (1, 39)], 27) := by decide +kernel
theorem d_B_lost_28 : decode b_B_lost 28 = .ok (.aload_n 0, 1) := by decide +kernel
theorem d_B_lost_29 : decode b_B_lost 29 = .ok (.getfield 31, 3) := by decide +kernel
theorem d_B_lost_32 : decode b_B_lost 32 = .ok (.aload_n 0, 1) := by decide +kernel
theorem d_B_lost_33 : decode b_B_lost 33 = .ok (.getfield 35, 3) := by decide +kernel
theorem d_B_lost_36 : decode b_B_lost 36 = .ok (.invokevirtual 147, 3) := by decide +kernel
theorem d_B_lost_39 : decode b_B_lost 39 = .ok (.ireturn, 1) := by decide +kernel
theorem d_B_lost_40 : decode b_B_lost 40 = .ok (.aload_n 0, 1) := by decide +kernel
theorem d_B_lost_41 : decode b_B_lost 41 = .ok (.getfield 35, 3) := by decide +kernel
theorem d_B_lost_44 : decode b_B_lost 44 = .ok (.aload_n 0, 1) := by decide +kernel
theorem d_B_lost_45 : decode b_B_lost 45 = .ok (.getfield 31, 3) := by decide +kernel
theorem d_B_lost_48 : decode b_B_lost 48 = .ok (.invokevirtual 147, 3) := by decide +kernel
theorem d_B_lost_51 : decode b_B_lost 51 = .ok (.ireturn, 1) := by decide +kernel
theorem d_B_lost_52 : decode b_B_lost 52 = .ok (.iconst (-1), 1) := by decide +kernel
theorem d_B_lost_53 : decode b_B_lost 53 = .ok (.ireturn, 1) := by decide +kernel
theorem d_B_swap_0 : decode b_B_swap 0 = .ok (.aload_n 0, 1) := by decide +kernel
theorem d_B_swap_1 : decode b_B_swap 1 = .ok (.getfield 31, 3) := by decide +kernel
theorem d_B_swap_4 : decode b_B_swap 4 = .ok (.astore_n 1, 1) := by decide +kernel
theorem d_B_swap_5 : decode b_B_swap 5 = .ok (.aload_n 0, 1) := by decide +kernel
theorem d_B_swap_6 : decode b_B_swap 6 = .ok (.aload_n 0, 1) := by decide +kernel
theorem d_B_swap_7 : decode b_B_swap 7 = .ok (.getfield 35, 3) := by decide +kernel
theorem d_B_swap_10 : decode b_B_swap 10 = .ok (.putfield 31, 3) := by decide +kernel
theorem d_B_swap_13 : decode b_B_swap 13 = .ok (.aload_n 0, 1) := by decide +kernel
theorem d_B_swap_14 : decode b_B_swap 14 = .ok (.aload_n 1, 1) := by decide +kernel
theorem d_B_swap_15 : decode b_B_swap 15 = .ok (.putfield 35, 3) := by decide +kernel
theorem d_B_swap_18 : decode b_B_swap 18 = .ok (.return_, 1) := by decide +kernel
end
section
def rmA (k c n : Nat) : Room := { frames := k, cells := c, slots := n, locals := 36 * k }
def bI (b : Bool) : Int32 := if b then 1 else 0
theorem bI_z (b : Bool) : narrow .boolean (.int (bI b)) = .int (bI b) ∧ fits .boolean (.int (bI b)) = true := by cases b <;> exact ⟨rfl, rfl⟩
theorem z0 : narrow .boolean (.int 0) = .int 0 ∧ fits .boolean (.int 0) = true := ⟨rfl, rfl⟩
theorem z1 : narrow .boolean (.int 1) = .int 1 ∧ fits .boolean (.int 1) = true := ⟨rfl, rfl⟩
theorem ix_ex {x : Int32} {n : Nat} (h0 : ¬ x < 0) (h : ¬ nI n ≤ x) (hn : n < 2 ^ 31) : ∃ j : Nat, j < n ∧ x = nI j := by
  rcases pk_ix x hn with q | q | q
  · exact absurd q h0
  · exact absurd q h
  · exact q
theorem ix_lt {x : Int32} {n : Nat} (h0 : ¬ x < 0) (h : ¬ nI n ≤ x) (hn : n < 2 ^ 31) : x.toNatClampNeg < n := by
  obtain ⟨j, hj, rfl⟩ := ix_ex h0 h hn
  rw [nI_clamp (by omega)]; exact hj
theorem ix_in {x : Int32} {n N : Nat} (h0 : ¬ x < 0) (h : ¬ nI n ≤ x) (hN : n ≤ N) (hn : N < 2 ^ 31) : vp_in x N := by
  obtain ⟨j, hj, rfl⟩ := ix_ex h0 h (by omega)
  exact vp_in_nI (by omega) hn
theorem nlt_of {a b : Nat} (h : ¬ nI b ≤ nI a) (hb : b < 2 ^ 31) (ha : a < 2 ^ 31) : a < b := by
  rcases Nat.lt_or_ge a b with q | q
  · exact q
  · exact absurd (nI_le q ha) h
theorem nle_of {a b : Nat} (h : nI b ≤ nI a) (hb : b < 2 ^ 31) (ha : a < 2 ^ 31) : b ≤ a := by
  rcases Nat.lt_or_ge a b with q | q
  · exact absurd h (nI_ge q hb)
  · exact q
/-- A ROW of characters: the object, its array, its room, what it holds, whether it has overflowed -/
def RwC (f : Nat → Int32) (xs : List Nat) : Prop := ∀ i, i < xs.length → f i = nI (xs.getD i 0)
def Rw (E : hE) (H : Heap) (a arr cap : Nat) (xs : List Nat) (o : Bool) : Prop := hOb (eD E) classes H a 0 [.ref arr, .int (nI xs.length), .int (bI o)] ∧ (∃ f : Nat → Int32, hAi H arr (eA E 1) cap f ∧ RwC f xs) ∧ xs.length ≤ cap ∧ cap ≤ 480 ∧ (eB E ≤ a ∧ eB E ≤ arr ∧ a ≠ arr) ∧ ∀ x ∈ xs, x < 128
/-- the cells of a row -/
def rS (a arr : Nat) : Nat → Prop := fun q => q = a ∨ q = arr
theorem Rw.ch {E : hE} {H H1 : Heap} {a arr cap : Nat} {xs : List Nat} {o : Bool} {S : Nat → Prop} (h : Rw E H a arr cap xs o) (k : hCh S H H1) (h1 : ¬ S a) (h2 : ¬ S arr) : Rw E H1 a arr cap xs o := by
  obtain ⟨ho, ⟨f, hf, hc⟩, r⟩ := h
  exact ⟨ho.ch k h1, ⟨f, hf.ch k h2, hc⟩, r⟩
theorem Rw.le {E : hE} {H : Heap} {a arr cap : Nat} {xs : List Nat} {o : Bool} (h : Rw E H a arr cap xs o) : xs.length ≤ 480 := Nat.le_trans h.2.2.1 h.2.2.2.1
theorem rS.lo {E : hE} {H : Heap} {a arr cap : Nat} {xs : List Nat} {o : Bool} (h : Rw E H a arr cap xs o) : ∀ q, rS a arr q → eB E ≤ q := fun q hq => by
  rcases hq with e | e
  · rw [e]; exact h.2.2.2.2.1.1
  · rw [e]; exact h.2.2.2.2.1.2.1
def atI (xs : List Nat) (i : Int32) : Int32 := if i < 0 then -1 else if nI xs.length ≤ i then -1 else nI (xs.getD i.toNatClampNeg 0)
theorem atI_n {xs : List Nat} {i : Nat} (h : i < xs.length) (hl : xs.length < 2 ^ 31) : atI xs (nI i) = nI (xs.getD i 0) := by
  unfold atI
  rw [if_neg (nI_pos (by omega)), if_neg (nI_ge h hl), nI_clamp (by omega)]
theorem atI_out {xs : List Nat} {i : Nat} (h : xs.length ≤ i) (hl : i < 2 ^ 31) : atI xs (nI i) = -1 := by
  unfold atI
  rw [if_neg (nI_pos (by omega)), if_pos (nI_le h hl)]
def addR (cap : Nat) (r : List Nat × Bool) (x : Nat) : List Nat × Bool := if r.1.length < cap then (r.1 ++ [x], r.2) else (r.1, true)
/-- the order of texts: the first difference, or that of the lengths -/
def cmpL : List Nat → List Nat → Int
  | [], ys => -(ys.length : Int)
  | xs, [] => (xs.length : Int)
  | x :: xs, y :: ys => if x = y then cmpL xs ys else (x : Int) - y
theorem vp_narC {x : Nat} (h : x < 128) : vp_nar .char ((nI x).toUInt32 % 65536).toInt32 = nI x := by
  rw [pk_char, pk_tn (by omega), Nat.mod_eq_of_lt (by omega)]
  have := pk_charN (q := x) (by omega)
  unfold vp_nar
  rw [this.1]
theorem RwC.add {f : Nat → Int32} {xs : List Nat} (h : RwC f xs) (x : Nat) : RwC (upd f xs.length (nI x)) (xs ++ [x]) := by
  intro i hi
  rw [List.length_append, List.length_singleton] at hi
  by_cases e : i = xs.length
  · subst e
    rw [pk_us]
    simp
  · rw [pk_un e, h i (by omega)]
    rw [List.getD_eq_getElem?_getD, List.getD_eq_getElem?_getD, List.getElem?_append_left (by omega)]
theorem drop_cons {xs : List Nat} {i : Nat} (h : i < xs.length) : xs.drop i = xs.getD i 0 :: xs.drop (i + 1) := by
  rw [List.drop_eq_getElem_cons h, List.getD_eq_getElem?_getD, List.getElem?_eq_getElem h]; rfl
end
section
set_option maxHeartbeats 4000000 in
set_option maxRecDepth 100000 in
theorem c_Rw_length (l : Launch) {E : hE} (hE : EnvOk E) {H : Heap} {a arr cap : Nat} {xs : List Nat} {o : Bool} (h : Rw E H a arr cap xs o) : Ct l E y_Rw_length b_Rw_length 1 (some .int) (rmA 0 0 0) [.ref a] H (hQi (fun r H1 => r = nI xs.length ∧ H1 = H)) := by
  refine hx_enter hE (by decide) (Nat.le_of_ble_eq_true rfl) ?_
  intro p e s m args below meth c ls cx hnm hl
  have hl : lv_has ls 1 [(0, .ref a)] := hl
  have hlo : hLo (eB E) [] := hLo.nil
  obtain ⟨ho, ⟨f, hf, hc⟩, hle, hcap, ⟨hBa, hBr, hne⟩, hx⟩ := h
  refine lv_aload_n cx.x cx.b d_Rw_length_0 rfl (lv_at hl 0 rfl) ?_
  refine gf_Rw_15_Rw cx ho rfl d_Rw_length_1 ?_
  exact hx_reti cx.x cx.b cx.r cx.k rfl hlo (fun _ h => h) (Nat.le_of_ble_eq_true rfl) (Nat.le_of_ble_eq_true rfl) d_Rw_length_4 (⟨rfl, rfl⟩)

set_option maxHeartbeats 4000000 in
set_option maxRecDepth 100000 in
theorem c_Rw_fits (l : Launch) {E : hE} (hE : EnvOk E) {H : Heap} {a arr cap : Nat} {xs : List Nat} {o : Bool} (h : Rw E H a arr cap xs o) : Ct l E y_Rw_fits b_Rw_fits 1 (some .boolean) (rmA 0 0 0) [.ref a] H (hQi (fun r H1 => r = bI (!o) ∧ H1 = H)) := by
  refine hx_enter hE (by decide) (Nat.le_of_ble_eq_true rfl) ?_
  intro p e s m args below meth c ls cx hnm hl
  have hl : lv_has ls 1 [(0, .ref a)] := hl
  have hlo : hLo (eB E) [] := hLo.nil
  obtain ⟨ho, ⟨f, hf, hc⟩, hle, hcap, ⟨hBa, hBr, hne⟩, hx⟩ := h
  refine lv_aload_n cx.x cx.b d_Rw_fits_0 rfl (lv_at hl 0 rfl) ?_
  refine gf_Rw_19_Rw cx ho rfl d_Rw_fits_1 ?_
  refine lv_if_ne (tgt := 11) cx.x cx.b d_Rw_fits_4 (by decide) (fun c1 => ?_) (fun c1 => ?_)
  · refine lv_iconst (v := 0) cx.x cx.b d_Rw_fits_11 (by decide) ?_
    exact hx_reti cx.x cx.b cx.r cx.k rfl hlo (fun _ h => h) (Nat.le_of_ble_eq_true rfl) (Nat.le_of_ble_eq_true rfl) d_Rw_fits_12 (⟨by cases o with | true => rfl | false => exact absurd rfl c1, rfl⟩)
  · refine lv_iconst (v := 1) cx.x cx.b d_Rw_fits_7 (by decide) ?_
    refine lv_goto (tgt := 12) cx.x cx.b d_Rw_fits_8 (by decide) ?_
    exact hx_reti cx.x cx.b cx.r cx.k rfl hlo (fun _ h => h) (Nat.le_of_ble_eq_true rfl) (Nat.le_of_ble_eq_true rfl) d_Rw_fits_12 (⟨by cases o with | true => exact absurd c1 (by decide) | false => rfl, rfl⟩)

set_option maxHeartbeats 4000000 in
set_option maxRecDepth 100000 in
theorem c_Rw_at (l : Launch) {E : hE} (hE : EnvOk E) {H : Heap} {a arr cap : Nat} {xs : List Nat} {o : Bool} (h : Rw E H a arr cap xs o) (i : Int32) : Ct l E y_Rw_at b_Rw_at 2 (some .int) (rmA 0 0 0) [.ref a, .int i] H (hQi (fun r H1 => r = atI xs i ∧ H1 = H)) := by
  refine hx_enter hE (by decide) (Nat.le_of_ble_eq_true rfl) ?_
  intro p e s m args below meth c ls cx hnm hl
  have hl : lv_has ls 2 [(0, .ref a), (1, .int i)] := hl
  have hlo : hLo (eB E) [] := hLo.nil
  obtain ⟨ho, ⟨f, hf, hc⟩, hle, hcap, ⟨hBa, hBr, hne⟩, hx⟩ := h
  refine lv_iload_n cx.x cx.b d_Rw_at_0 rfl (lv_at hl 1 rfl) ?_
  refine lv_if_lt (tgt := 21) cx.x cx.b d_Rw_at_1 (by decide) (fun c1 => ?_) (fun c1 => ?_)
  · refine lv_iconst (v := (-1)) cx.x cx.b d_Rw_at_21 (by decide) ?_
    exact hx_reti cx.x cx.b cx.r cx.k rfl hlo (fun _ h => h) (Nat.le_of_ble_eq_true rfl) (Nat.le_of_ble_eq_true rfl) d_Rw_at_22 (⟨by unfold atI; rw [if_pos c1], rfl⟩)
  · refine lv_iload_n cx.x cx.b d_Rw_at_4 rfl (lv_at hl 1 rfl) ?_
    refine lv_aload_n cx.x cx.b d_Rw_at_5 rfl (lv_at hl 0 rfl) ?_
    refine gf_Rw_15_Rw cx ho rfl d_Rw_at_6 ?_
    refine lv_icmp_ge (tgt := 21) cx.x cx.b d_Rw_at_9 (by decide) (fun c2 => ?_) (fun c2 => ?_)
    · refine lv_iconst (v := (-1)) cx.x cx.b d_Rw_at_21 (by decide) ?_
      exact hx_reti cx.x cx.b cx.r cx.k rfl hlo (fun _ h => h) (Nat.le_of_ble_eq_true rfl) (Nat.le_of_ble_eq_true rfl) d_Rw_at_22 (⟨by unfold atI; rw [if_neg c1, if_pos c2], rfl⟩)
    · refine lv_aload_n cx.x cx.b d_Rw_at_12 rfl (lv_at hl 0 rfl) ?_
      refine gf_Rw_9_Rw cx ho rfl d_Rw_at_13 ?_
      refine lv_iload_n cx.x cx.b d_Rw_at_16 rfl (lv_at hl 1 rfl) ?_
      refine hx_cald cx.x cx.b cx.K 1 hf rfl (ix_in c1 c2 hle (by omega)) d_Rw_at_17 ?_
      refine lv_topi (fun x1 e_x1 => ?_)
      refine lv_goto (tgt := 22) cx.x cx.b d_Rw_at_18 (by decide) ?_
      exact hx_reti cx.x cx.b cx.r cx.k rfl hlo (fun _ h => h) (Nat.le_of_ble_eq_true rfl) (Nat.le_of_ble_eq_true rfl) d_Rw_at_22 (⟨by unfold atI; rw [if_neg c1, if_neg c2, e_x1]; exact hc _ (ix_lt c1 c2 (by omega)), rfl⟩)

set_option maxHeartbeats 4000000 in
set_option maxRecDepth 100000 in
theorem c_Rw_empty (l : Launch) {E : hE} (hE : EnvOk E) {H : Heap} {a arr cap : Nat} {xs : List Nat} {o : Bool} (h : Rw E H a arr cap xs o) : Ct l E y_Rw_empty b_Rw_empty 1 none (rmA 0 0 0) [.ref a] H (hQv (fun H1 => Rw E H1 a arr cap [] false ∧ hCh (rS a arr) H H1 ∧ H1.size = H.size)) := by
  refine hx_enter hE (by decide) (Nat.le_of_ble_eq_true rfl) ?_
  intro p e s m args below meth c ls cx hnm hl
  have hl : lv_has ls 1 [(0, .ref a)] := hl
  have hlo : hLo (eB E) [] := hLo.nil
  obtain ⟨ho, ⟨f, hf, hc⟩, hle, hcap, ⟨hBa, hBr, hne⟩, hx⟩ := h
  refine lv_aload_n cx.x cx.b d_Rw_empty_0 rfl (lv_at hl 0 rfl) ?_
  refine lv_iconst (v := 0) cx.x cx.b d_Rw_empty_1 (by decide) ?_
  refine pf_Rw_15_Rw cx ho hlo hBa (Nat.le_of_ble_eq_true rfl) d_Rw_empty_2 (fun H2 locs ho3 z_H2 o_H2 hlo => ?_)
  have ho3 : hOb (eD E) classes H2 a 0 [.ref arr, .int 0, .int (bI o)] := ho3
  refine lv_aload_n cx.x cx.b d_Rw_empty_5 rfl (lv_at hl 0 rfl) ?_
  refine lv_iconst (v := 0) cx.x cx.b d_Rw_empty_6 (by decide) ?_
  refine pf_Rw_19_Rw cx ho3 hlo hBa z0 (Nat.le_of_ble_eq_true rfl) d_Rw_empty_7 (fun H4 locs ho5 z_H4 o_H4 hlo => ?_)
  have ho5 : hOb (eD E) classes H4 a 0 [.ref arr, .int 0, .int 0] := ho5
  exact hx_retv cx.x cx.b cx.r cx.k hlo (fun _ h => h) (Nat.le_of_ble_eq_true rfl) (Nat.le_of_ble_eq_true rfl) d_Rw_empty_10 (⟨⟨ho5, ⟨f, (hf.eq (o_H2 _ (Ne.symm hne))).eq (o_H4 _ (Ne.symm hne)), fun i hi => absurd hi (Nat.not_lt_zero i)⟩, Nat.zero_le _, hcap, ⟨hBa, hBr, hne⟩, fun x hx => absurd hx List.not_mem_nil⟩, (hCh.put z_H2 o_H2 (Or.inl rfl)).tr (hCh.put z_H4 o_H4 (Or.inl rfl)), z_H4.trans z_H2⟩)

set_option maxHeartbeats 4000000 in
set_option maxRecDepth 100000 in
theorem c_Rw_add (l : Launch) {E : hE} (hE : EnvOk E) {H : Heap} {a arr cap : Nat} {xs : List Nat} {o : Bool} (h : Rw E H a arr cap xs o) {x : Nat} (hx0 : x < 128) : Ct l E y_Rw_add b_Rw_add 2 none (rmA 0 0 0) [.ref a, .int (nI x)] H (hQv (fun H1 => Rw E H1 a arr cap (addR cap (xs, o) x).1 (addR cap (xs, o) x).2 ∧ hCh (rS a arr) H H1 ∧ H1.size = H.size)) := by
  refine hx_enter hE (by decide) (Nat.le_of_ble_eq_true rfl) ?_
  intro p e s m args below meth c ls cx hnm hl
  have hl : lv_has ls 2 [(0, .ref a), (1, .int (nI x))] := hl
  have hlo : hLo (eB E) [] := hLo.nil
  obtain ⟨ho, ⟨f, hf, hc⟩, hle, hcap, ⟨hBa, hBr, hne⟩, hx⟩ := h
  refine lv_aload_n cx.x cx.b d_Rw_add_0 rfl (lv_at hl 0 rfl) ?_
  refine gf_Rw_15_Rw cx ho rfl d_Rw_add_1 ?_
  refine lv_aload_n cx.x cx.b d_Rw_add_4 rfl (lv_at hl 0 rfl) ?_
  refine gf_Rw_9_Rw cx ho rfl d_Rw_add_5 ?_
  refine hx_alen (v := nI cap) cx.x cx.b cx.K 1 hf rfl rfl d_Rw_add_8 ?_
  refine lv_icmp_ge (tgt := 36) cx.x cx.b d_Rw_add_9 (by decide) (fun c1 => ?_) (fun c1 => ?_)
  · have hfull : ¬ xs.length < cap := Nat.not_lt.mpr (nle_of c1 (by omega) (by omega))
    have e1 : addR cap (xs, o) x = (xs, true) := by unfold addR; rw [if_neg hfull]
    rw [e1]
    refine lv_aload_n cx.x cx.b d_Rw_add_36 rfl (lv_at hl 0 rfl) ?_
    refine lv_iconst (v := 1) cx.x cx.b d_Rw_add_37 (by decide) ?_
    refine pf_Rw_19_Rw cx ho hlo hBa z1 (Nat.le_of_ble_eq_true rfl) d_Rw_add_38 (fun H6 locs ho7 z_H6 o_H6 hlo => ?_)
    have ho7 : hOb (eD E) classes H6 a 0 [.ref arr, .int (nI xs.length), .int 1] := ho7
    exact hx_retv cx.x cx.b cx.r cx.k hlo (fun _ h => h) (Nat.le_of_ble_eq_true rfl) (Nat.le_of_ble_eq_true rfl) d_Rw_add_41 (⟨⟨ho7, ⟨f, hf.eq (o_H6 _ (Ne.symm hne)), hc⟩, hle, hcap, ⟨hBa, hBr, hne⟩, hx⟩, hCh.put z_H6 o_H6 (Or.inl rfl), z_H6⟩)
  · have hroom : xs.length < cap := nlt_of c1 (by omega) (by omega)
    have e1 : addR cap (xs, o) x = (xs ++ [x], o) := by unfold addR; rw [if_pos hroom]
    rw [e1]
    refine lv_aload_n cx.x cx.b d_Rw_add_12 rfl (lv_at hl 0 rfl) ?_
    refine gf_Rw_9_Rw cx ho rfl d_Rw_add_13 ?_
    refine lv_aload_n cx.x cx.b d_Rw_add_16 rfl (lv_at hl 0 rfl) ?_
    refine gf_Rw_15_Rw cx ho rfl d_Rw_add_17 ?_
    refine lv_iload_n cx.x cx.b d_Rw_add_20 rfl (lv_at hl 1 rfl) ?_
    refine lv_i2c (v := ((nI x).toUInt32 % 65536).toInt32) cx.x cx.b d_Rw_add_21 rfl ?_
    refine lv_topi (fun x8 e_x8 => ?_)
    refine hx_cast cx.x cx.b cx.K 1 hf hlo hBr rfl (by exact vp_in_nI hroom (by omega)) d_Rw_add_22 (fun H9 locs ha10 z_H9 o_H9 hlo => ?_)
    rw [nI_clamp (by omega), e_x8, vp_narC hx0] at ha10
    have ho := ho.eq (o_H9 _ hne)
    refine lv_aload_n cx.x cx.b d_Rw_add_23 rfl (lv_at hl 0 rfl) ?_
    refine lv_dup cx.x cx.b d_Rw_add_24 rfl ?_
    refine gf_Rw_15_Rw cx ho rfl d_Rw_add_25 ?_
    refine lv_iconst (v := 1) cx.x cx.b d_Rw_add_28 (by decide) ?_
    refine lv_iadd cx.x cx.b d_Rw_add_29 ?_
    refine lv_topi (fun x11 e_x11 => ?_)
    refine pf_Rw_15_Rw cx ho hlo hBa (Nat.le_of_ble_eq_true rfl) d_Rw_add_30 (fun H12 locs ho13 z_H12 o_H12 hlo => ?_)
    have ho13 : hOb (eD E) classes H12 a 0 [.ref arr, .int x11, .int (bI o)] := ho13
    refine lv_goto (tgt := 41) cx.x cx.b d_Rw_add_33 (by decide) ?_
    have e2 : nI xs.length + 1 = nI (xs ++ [x]).length := by rw [nI_1, List.length_append, List.length_singleton]
    rw [e_x11, e2] at ho13
    exact hx_retv cx.x cx.b cx.r cx.k hlo (fun _ h => h) (Nat.le_of_ble_eq_true rfl) (Nat.le_of_ble_eq_true rfl) d_Rw_add_41 (⟨⟨ho13, ⟨_, ha10.eq (o_H12 _ (Ne.symm hne)), hc.add x⟩, by rw [List.length_append, List.length_singleton]; omega, hcap, ⟨hBa, hBr, hne⟩, fun y hy => by rcases List.mem_append.mp hy with q | q; exact hx y q; rw [List.mem_singleton.mp q]; exact hx0⟩, (hCh.put z_H9 o_H9 (Or.inr rfl)).tr (hCh.put z_H12 o_H12 (Or.inl rfl)), z_H12.trans z_H9⟩)
end
