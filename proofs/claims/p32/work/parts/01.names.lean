-- ===== PART A: goes FIRST, ahead of the names: the tables' words, and 'selects' of the private methods out of them =====
/-- a private method of a class that the tables say can be made, by its rows of tables_1 -/
def lw_okq (q : MethodName × Nat) : Prop := (q.1.cls ≠ "java/lang/invoke/MethodHandle" ∧ q.1.cls ≠ "java/lang/invoke/VarHandle") ∧ Cond.instantiable q.1.cls q.2 ∈ tables_1 ∧ Cond.privateMethod q.1 ∈ tables_1 ∧ Cond.instanceMethod q.1 ∈ tables_1
theorem lw_p0 : lw_okq (⟨"CutMatch", "readTable", "()I"⟩, 9) := ⟨⟨by decide +kernel, by decide +kernel⟩, List.mem_of_getElem? (i := 13) (by decide +kernel), List.mem_of_getElem? (i := 222) (by decide +kernel), List.mem_of_getElem? (i := 223) (by decide +kernel)⟩
theorem lw_p1 : lw_okq (⟨"CutMatch$Tape", "byteAt", "(I)I"⟩, 5) := ⟨⟨by decide +kernel, by decide +kernel⟩, List.mem_of_getElem? (i := 40) (by decide +kernel), List.mem_of_getElem? (i := 238) (by decide +kernel), List.mem_of_getElem? (i := 239) (by decide +kernel)⟩
theorem lw_p2 : lw_okq (⟨"CutMatch", "readRow", "()I"⟩, 9) := ⟨⟨by decide +kernel, by decide +kernel⟩, List.mem_of_getElem? (i := 13) (by decide +kernel), List.mem_of_getElem? (i := 242) (by decide +kernel), List.mem_of_getElem? (i := 243) (by decide +kernel)⟩
theorem lw_p3 : lw_okq (⟨"CutMatch", "faultHere", "(I)I"⟩, 9) := ⟨⟨by decide +kernel, by decide +kernel⟩, List.mem_of_getElem? (i := 13) (by decide +kernel), List.mem_of_getElem? (i := 251) (by decide +kernel), List.mem_of_getElem? (i := 252) (by decide +kernel)⟩
theorem lw_p4 : lw_okq (⟨"CutMatch", "emptyLog", "()V"⟩, 9) := ⟨⟨by decide +kernel, by decide +kernel⟩, List.mem_of_getElem? (i := 13) (by decide +kernel), List.mem_of_getElem? (i := 282) (by decide +kernel), List.mem_of_getElem? (i := 283) (by decide +kernel)⟩
theorem lw_p5 : lw_okq (⟨"CutMatch", "readEvent", "()I"⟩, 9) := ⟨⟨by decide +kernel, by decide +kernel⟩, List.mem_of_getElem? (i := 13) (by decide +kernel), List.mem_of_getElem? (i := 291) (by decide +kernel), List.mem_of_getElem? (i := 292) (by decide +kernel)⟩
theorem lw_p6 : lw_okq (⟨"CutMatch", "canCome", "(I)Z"⟩, 9) := ⟨⟨by decide +kernel, by decide +kernel⟩, List.mem_of_getElem? (i := 13) (by decide +kernel), List.mem_of_getElem? (i := 302) (by decide +kernel), List.mem_of_getElem? (i := 303) (by decide +kernel)⟩
theorem lw_p7 : lw_okq (⟨"CutMatch", "record", "(II)V"⟩, 9) := ⟨⟨by decide +kernel, by decide +kernel⟩, List.mem_of_getElem? (i := 13) (by decide +kernel), List.mem_of_getElem? (i := 318) (by decide +kernel), List.mem_of_getElem? (i := 319) (by decide +kernel)⟩
theorem lw_p8 : lw_okq (⟨"CutMatch$Course", "worthLeft", "()I"⟩, 5) := ⟨⟨by decide +kernel, by decide +kernel⟩, List.mem_of_getElem? (i := 65) (by decide +kernel), List.mem_of_getElem? (i := 327) (by decide +kernel), List.mem_of_getElem? (i := 328) (by decide +kernel)⟩
theorem lw_p9 : lw_okq (⟨"CutMatch$Course", "lossByCut", "(I)I"⟩, 5) := ⟨⟨by decide +kernel, by decide +kernel⟩, List.mem_of_getElem? (i := 65) (by decide +kernel), List.mem_of_getElem? (i := 336) (by decide +kernel), List.mem_of_getElem? (i := 337) (by decide +kernel)⟩
theorem lw_p10 : lw_okq (⟨"CutMatch$Innings", "addToOver", "(II)V"⟩, 14) := ⟨⟨by decide +kernel, by decide +kernel⟩, List.mem_of_getElem? (i := 71) (by decide +kernel), List.mem_of_getElem? (i := 348) (by decide +kernel), List.mem_of_getElem? (i := 349) (by decide +kernel)⟩
theorem lw_p11 : lw_okq (⟨"CutMatch$Course", "targetReached", "()Z"⟩, 5) := ⟨⟨by decide +kernel, by decide +kernel⟩, List.mem_of_getElem? (i := 65) (by decide +kernel), List.mem_of_getElem? (i := 365) (by decide +kernel), List.mem_of_getElem? (i := 366) (by decide +kernel)⟩
theorem lw_p12 : lw_okq (⟨"CutMatch$Course", "firstPart", "()I"⟩, 5) := ⟨⟨by decide +kernel, by decide +kernel⟩, List.mem_of_getElem? (i := 65) (by decide +kernel), List.mem_of_getElem? (i := 373) (by decide +kernel), List.mem_of_getElem? (i := 374) (by decide +kernel)⟩
theorem lw_p13 : lw_okq (⟨"CutMatch", "replay", "(LCutMatch$Course;I)V"⟩, 9) := ⟨⟨by decide +kernel, by decide +kernel⟩, List.mem_of_getElem? (i := 13) (by decide +kernel), List.mem_of_getElem? (i := 385) (by decide +kernel), List.mem_of_getElem? (i := 386) (by decide +kernel)⟩
theorem lw_p14 : lw_okq (⟨"CutMatch$Rules", "shareOf", "(I)I"⟩, 3) := ⟨⟨by decide +kernel, by decide +kernel⟩, List.mem_of_getElem? (i := 21) (by decide +kernel), List.mem_of_getElem? (i := 466) (by decide +kernel), List.mem_of_getElem? (i := 467) (by decide +kernel)⟩
theorem lw_p15 : lw_okq (⟨"CutMatch$Course", "parWithout", "(I)I"⟩, 5) := ⟨⟨by decide +kernel, by decide +kernel⟩, List.mem_of_getElem? (i := 65) (by decide +kernel), List.mem_of_getElem? (i := 578) (by decide +kernel), List.mem_of_getElem? (i := 579) (by decide +kernel)⟩
def lw_privs_1 : List (MethodName × Nat) := [(⟨"CutMatch", "readTable", "()I"⟩, 9), (⟨"CutMatch$Tape", "byteAt", "(I)I"⟩, 5), (⟨"CutMatch", "readRow", "()I"⟩, 9), (⟨"CutMatch", "faultHere", "(I)I"⟩, 9), (⟨"CutMatch", "emptyLog", "()V"⟩, 9), (⟨"CutMatch", "readEvent", "()I"⟩, 9), (⟨"CutMatch", "canCome", "(I)Z"⟩, 9), (⟨"CutMatch", "record", "(II)V"⟩, 9), (⟨"CutMatch$Course", "worthLeft", "()I"⟩, 5), (⟨"CutMatch$Course", "lossByCut", "(I)I"⟩, 5), (⟨"CutMatch$Innings", "addToOver", "(II)V"⟩, 14), (⟨"CutMatch$Course", "targetReached", "()Z"⟩, 5), (⟨"CutMatch$Course", "firstPart", "()I"⟩, 5), (⟨"CutMatch", "replay", "(LCutMatch$Course;I)V"⟩, 9), (⟨"CutMatch$Rules", "shareOf", "(I)I"⟩, 3), (⟨"CutMatch$Course", "parWithout", "(I)I"⟩, 5)]
theorem lw_r1 : ∀ q ∈ lw_privs_1, lw_okq q := List.forall_mem_cons.mpr ⟨lw_p0, List.forall_mem_cons.mpr ⟨lw_p1, List.forall_mem_cons.mpr ⟨lw_p2, List.forall_mem_cons.mpr ⟨lw_p3, List.forall_mem_cons.mpr ⟨lw_p4, List.forall_mem_cons.mpr ⟨lw_p5, List.forall_mem_cons.mpr ⟨lw_p6, List.forall_mem_cons.mpr ⟨lw_p7, List.forall_mem_cons.mpr ⟨lw_p8, List.forall_mem_cons.mpr ⟨lw_p9, List.forall_mem_cons.mpr ⟨lw_p10, List.forall_mem_cons.mpr ⟨lw_p11, List.forall_mem_cons.mpr ⟨lw_p12, List.forall_mem_cons.mpr ⟨lw_p13, List.forall_mem_cons.mpr ⟨lw_p14, List.forall_mem_cons.mpr ⟨lw_p15, fun _ h => absurd h List.not_mem_nil⟩⟩⟩⟩⟩⟩⟩⟩⟩⟩⟩⟩⟩⟩⟩⟩
theorem lw_p16 : lw_okq (⟨"CutMatch$Course", "leadOverTie", "(Z)I"⟩, 5) := ⟨⟨by decide +kernel, by decide +kernel⟩, List.mem_of_getElem? (i := 65) (by decide +kernel), List.mem_of_getElem? (i := 590) (by decide +kernel), List.mem_of_getElem? (i := 591) (by decide +kernel)⟩
theorem lw_p17 : lw_okq (⟨"CutMatch", "secondCanBeCut", "(I)Z"⟩, 9) := ⟨⟨by decide +kernel, by decide +kernel⟩, List.mem_of_getElem? (i := 13) (by decide +kernel), List.mem_of_getElem? (i := 632) (by decide +kernel), List.mem_of_getElem? (i := 633) (by decide +kernel)⟩
theorem lw_p18 : lw_okq (⟨"java/lang/Throwable", "fillInStackTrace", "(I)Ljava/lang/Throwable;"⟩, 6) := ⟨⟨by decide +kernel, by decide +kernel⟩, List.mem_of_getElem? (i := 705) (by decide +kernel), List.mem_of_getElem? (i := 703) (by decide +kernel), List.mem_of_getElem? (i := 704) (by decide +kernel)⟩
theorem lw_p19 : lw_okq (⟨"CutMatchModel", "worthOf", "(II)I"⟩, 35) := ⟨⟨by decide +kernel, by decide +kernel⟩, List.mem_of_getElem? (i := 753) (by decide +kernel), List.mem_of_getElem? (i := 873) (by decide +kernel), List.mem_of_getElem? (i := 874) (by decide +kernel)⟩
theorem lw_p20 : lw_okq (⟨"CutMatchModel", "four", "(I)V"⟩, 35) := ⟨⟨by decide +kernel, by decide +kernel⟩, List.mem_of_getElem? (i := 753) (by decide +kernel), List.mem_of_getElem? (i := 885) (by decide +kernel), List.mem_of_getElem? (i := 886) (by decide +kernel)⟩
theorem lw_p21 : lw_okq (⟨"CutMatchModel", "beginsText", "()V"⟩, 35) := ⟨⟨by decide +kernel, by decide +kernel⟩, List.mem_of_getElem? (i := 753) (by decide +kernel), List.mem_of_getElem? (i := 897) (by decide +kernel), List.mem_of_getElem? (i := 898) (by decide +kernel)⟩
theorem lw_p22 : lw_okq (⟨"CutMatchModel", "readTable", "()Z"⟩, 35) := ⟨⟨by decide +kernel, by decide +kernel⟩, List.mem_of_getElem? (i := 753) (by decide +kernel), List.mem_of_getElem? (i := 901) (by decide +kernel), List.mem_of_getElem? (i := 902) (by decide +kernel)⟩
theorem lw_p23 : lw_okq (⟨"CutMatchModel", "here", "()I"⟩, 35) := ⟨⟨by decide +kernel, by decide +kernel⟩, List.mem_of_getElem? (i := 753) (by decide +kernel), List.mem_of_getElem? (i := 905) (by decide +kernel), List.mem_of_getElem? (i := 906) (by decide +kernel)⟩
theorem lw_p24 : lw_okq (⟨"CutMatchModel", "readRow", "()Z"⟩, 35) := ⟨⟨by decide +kernel, by decide +kernel⟩, List.mem_of_getElem? (i := 753) (by decide +kernel), List.mem_of_getElem? (i := 909) (by decide +kernel), List.mem_of_getElem? (i := 910) (by decide +kernel)⟩
theorem lw_p25 : lw_okq (⟨"CutMatchModel", "fails", "(II)Z"⟩, 35) := ⟨⟨by decide +kernel, by decide +kernel⟩, List.mem_of_getElem? (i := 753) (by decide +kernel), List.mem_of_getElem? (i := 913) (by decide +kernel), List.mem_of_getElem? (i := 914) (by decide +kernel)⟩
theorem lw_p26 : lw_okq (⟨"CutMatchModel", "readNumber", "()Z"⟩, 35) := ⟨⟨by decide +kernel, by decide +kernel⟩, List.mem_of_getElem? (i := 753) (by decide +kernel), List.mem_of_getElem? (i := 917) (by decide +kernel), List.mem_of_getElem? (i := 918) (by decide +kernel)⟩
theorem lw_p27 : lw_okq (⟨"CutMatchModel", "readEvents", "()Z"⟩, 35) := ⟨⟨by decide +kernel, by decide +kernel⟩, List.mem_of_getElem? (i := 753) (by decide +kernel), List.mem_of_getElem? (i := 925) (by decide +kernel), List.mem_of_getElem? (i := 926) (by decide +kernel)⟩
theorem lw_p28 : lw_okq (⟨"CutMatchModel", "goesOn", "()V"⟩, 35) := ⟨⟨by decide +kernel, by decide +kernel⟩, List.mem_of_getElem? (i := 753) (by decide +kernel), List.mem_of_getElem? (i := 929) (by decide +kernel), List.mem_of_getElem? (i := 930) (by decide +kernel)⟩
theorem lw_p29 : lw_okq (⟨"CutMatchModel", "goesTo", "(I)V"⟩, 35) := ⟨⟨by decide +kernel, by decide +kernel⟩, List.mem_of_getElem? (i := 753) (by decide +kernel), List.mem_of_getElem? (i := 933) (by decide +kernel), List.mem_of_getElem? (i := 934) (by decide +kernel)⟩
theorem lw_p30 : lw_okq (⟨"CutMatchModel", "begins", "()V"⟩, 35) := ⟨⟨by decide +kernel, by decide +kernel⟩, List.mem_of_getElem? (i := 753) (by decide +kernel), List.mem_of_getElem? (i := 937) (by decide +kernel), List.mem_of_getElem? (i := 938) (by decide +kernel)⟩
theorem lw_p31 : lw_okq (⟨"CutMatchModel", "goes", "(II)V"⟩, 35) := ⟨⟨by decide +kernel, by decide +kernel⟩, List.mem_of_getElem? (i := 753) (by decide +kernel), List.mem_of_getElem? (i := 941) (by decide +kernel), List.mem_of_getElem? (i := 942) (by decide +kernel)⟩
def lw_privs_2 : List (MethodName × Nat) := [(⟨"CutMatch$Course", "leadOverTie", "(Z)I"⟩, 5), (⟨"CutMatch", "secondCanBeCut", "(I)Z"⟩, 9), (⟨"java/lang/Throwable", "fillInStackTrace", "(I)Ljava/lang/Throwable;"⟩, 6), (⟨"CutMatchModel", "worthOf", "(II)I"⟩, 35), (⟨"CutMatchModel", "four", "(I)V"⟩, 35), (⟨"CutMatchModel", "beginsText", "()V"⟩, 35), (⟨"CutMatchModel", "readTable", "()Z"⟩, 35), (⟨"CutMatchModel", "here", "()I"⟩, 35), (⟨"CutMatchModel", "readRow", "()Z"⟩, 35), (⟨"CutMatchModel", "fails", "(II)Z"⟩, 35), (⟨"CutMatchModel", "readNumber", "()Z"⟩, 35), (⟨"CutMatchModel", "readEvents", "()Z"⟩, 35), (⟨"CutMatchModel", "goesOn", "()V"⟩, 35), (⟨"CutMatchModel", "goesTo", "(I)V"⟩, 35), (⟨"CutMatchModel", "begins", "()V"⟩, 35), (⟨"CutMatchModel", "goes", "(II)V"⟩, 35)]
theorem lw_r2 : ∀ q ∈ lw_privs_2, lw_okq q := List.forall_mem_cons.mpr ⟨lw_p16, List.forall_mem_cons.mpr ⟨lw_p17, List.forall_mem_cons.mpr ⟨lw_p18, List.forall_mem_cons.mpr ⟨lw_p19, List.forall_mem_cons.mpr ⟨lw_p20, List.forall_mem_cons.mpr ⟨lw_p21, List.forall_mem_cons.mpr ⟨lw_p22, List.forall_mem_cons.mpr ⟨lw_p23, List.forall_mem_cons.mpr ⟨lw_p24, List.forall_mem_cons.mpr ⟨lw_p25, List.forall_mem_cons.mpr ⟨lw_p26, List.forall_mem_cons.mpr ⟨lw_p27, List.forall_mem_cons.mpr ⟨lw_p28, List.forall_mem_cons.mpr ⟨lw_p29, List.forall_mem_cons.mpr ⟨lw_p30, List.forall_mem_cons.mpr ⟨lw_p31, fun _ h => absurd h List.not_mem_nil⟩⟩⟩⟩⟩⟩⟩⟩⟩⟩⟩⟩⟩⟩⟩⟩
theorem lw_p32 : lw_okq (⟨"CutMatchModel", "bowls", "(II)V"⟩, 35) := ⟨⟨by decide +kernel, by decide +kernel⟩, List.mem_of_getElem? (i := 753) (by decide +kernel), List.mem_of_getElem? (i := 948) (by decide +kernel), List.mem_of_getElem? (i := 949) (by decide +kernel)⟩
theorem lw_p33 : lw_okq (⟨"CutMatchModel", "cutsTo", "(II)V"⟩, 35) := ⟨⟨by decide +kernel, by decide +kernel⟩, List.mem_of_getElem? (i := 753) (by decide +kernel), List.mem_of_getElem? (i := 952) (by decide +kernel), List.mem_of_getElem? (i := 953) (by decide +kernel)⟩
theorem lw_p34 : lw_okq (⟨"CutMatchModel", "takes", "(II)I"⟩, 35) := ⟨⟨by decide +kernel, by decide +kernel⟩, List.mem_of_getElem? (i := 753) (by decide +kernel), List.mem_of_getElem? (i := 956) (by decide +kernel), List.mem_of_getElem? (i := 957) (by decide +kernel)⟩
theorem lw_p35 : lw_okq (⟨"CutMatchModel", "leftWorth", "(I)I"⟩, 35) := ⟨⟨by decide +kernel, by decide +kernel⟩, List.mem_of_getElem? (i := 753) (by decide +kernel), List.mem_of_getElem? (i := 960) (by decide +kernel), List.mem_of_getElem? (i := 961) (by decide +kernel)⟩
theorem lw_p36 : lw_okq (⟨"CutMatchModel", "left", "(I)I"⟩, 35) := ⟨⟨by decide +kernel, by decide +kernel⟩, List.mem_of_getElem? (i := 753) (by decide +kernel), List.mem_of_getElem? (i := 964) (by decide +kernel), List.mem_of_getElem? (i := 965) (by decide +kernel)⟩
theorem lw_p37 : lw_okq (⟨"CutMatchModel", "theTarget", "()I"⟩, 35) := ⟨⟨by decide +kernel, by decide +kernel⟩, List.mem_of_getElem? (i := 753) (by decide +kernel), List.mem_of_getElem? (i := 968) (by decide +kernel), List.mem_of_getElem? (i := 969) (by decide +kernel)⟩
theorem lw_p38 : lw_okq (⟨"CutMatchModel", "partOfSecond", "()I"⟩, 35) := ⟨⟨by decide +kernel, by decide +kernel⟩, List.mem_of_getElem? (i := 753) (by decide +kernel), List.mem_of_getElem? (i := 972) (by decide +kernel), List.mem_of_getElem? (i := 973) (by decide +kernel)⟩
theorem lw_p39 : lw_okq (⟨"CutMatchModel", "targetOf", "(II)I"⟩, 35) := ⟨⟨by decide +kernel, by decide +kernel⟩, List.mem_of_getElem? (i := 753) (by decide +kernel), List.mem_of_getElem? (i := 976) (by decide +kernel), List.mem_of_getElem? (i := 977) (by decide +kernel)⟩
theorem lw_p40 : lw_okq (⟨"CutMatchModel", "full", "()I"⟩, 35) := ⟨⟨by decide +kernel, by decide +kernel⟩, List.mem_of_getElem? (i := 753) (by decide +kernel), List.mem_of_getElem? (i := 980) (by decide +kernel), List.mem_of_getElem? (i := 981) (by decide +kernel)⟩
theorem lw_p41 : lw_okq (⟨"CutMatchModel", "readEvent", "()Z"⟩, 35) := ⟨⟨by decide +kernel, by decide +kernel⟩, List.mem_of_getElem? (i := 753) (by decide +kernel), List.mem_of_getElem? (i := 984) (by decide +kernel), List.mem_of_getElem? (i := 985) (by decide +kernel)⟩
theorem lw_p42 : lw_okq (⟨"CutMatchModel", "isEarly", "()Z"⟩, 35) := ⟨⟨by decide +kernel, by decide +kernel⟩, List.mem_of_getElem? (i := 753) (by decide +kernel), List.mem_of_getElem? (i := 991) (by decide +kernel), List.mem_of_getElem? (i := 992) (by decide +kernel)⟩
theorem lw_p43 : lw_okq (⟨"CutMatchModel", "mayCut", "(I)Z"⟩, 35) := ⟨⟨by decide +kernel, by decide +kernel⟩, List.mem_of_getElem? (i := 753) (by decide +kernel), List.mem_of_getElem? (i := 995) (by decide +kernel), List.mem_of_getElem? (i := 996) (by decide +kernel)⟩
theorem lw_p44 : lw_okq (⟨"CutMatchModel", "mayDrop", "(I)Z"⟩, 35) := ⟨⟨by decide +kernel, by decide +kernel⟩, List.mem_of_getElem? (i := 753) (by decide +kernel), List.mem_of_getElem? (i := 999) (by decide +kernel), List.mem_of_getElem? (i := 1000) (by decide +kernel)⟩
theorem lw_p45 : lw_okq (⟨"CutMatchModel", "ofOver", "(II)I"⟩, 35) := ⟨⟨by decide +kernel, by decide +kernel⟩, List.mem_of_getElem? (i := 753) (by decide +kernel), List.mem_of_getElem? (i := 1042) (by decide +kernel), List.mem_of_getElem? (i := 1043) (by decide +kernel)⟩
theorem lw_p46 : lw_okq (⟨"CutMatchModel", "laysBlocks", "(I)V"⟩, 35) := ⟨⟨by decide +kernel, by decide +kernel⟩, List.mem_of_getElem? (i := 753) (by decide +kernel), List.mem_of_getElem? (i := 1050) (by decide +kernel), List.mem_of_getElem? (i := 1051) (by decide +kernel)⟩
theorem lw_p47 : lw_okq (⟨"CutMatchModel", "ofBlock", "(III)I"⟩, 35) := ⟨⟨by decide +kernel, by decide +kernel⟩, List.mem_of_getElem? (i := 753) (by decide +kernel), List.mem_of_getElem? (i := 1062) (by decide +kernel), List.mem_of_getElem? (i := 1063) (by decide +kernel)⟩
def lw_privs_3 : List (MethodName × Nat) := [(⟨"CutMatchModel", "bowls", "(II)V"⟩, 35), (⟨"CutMatchModel", "cutsTo", "(II)V"⟩, 35), (⟨"CutMatchModel", "takes", "(II)I"⟩, 35), (⟨"CutMatchModel", "leftWorth", "(I)I"⟩, 35), (⟨"CutMatchModel", "left", "(I)I"⟩, 35), (⟨"CutMatchModel", "theTarget", "()I"⟩, 35), (⟨"CutMatchModel", "partOfSecond", "()I"⟩, 35), (⟨"CutMatchModel", "targetOf", "(II)I"⟩, 35), (⟨"CutMatchModel", "full", "()I"⟩, 35), (⟨"CutMatchModel", "readEvent", "()Z"⟩, 35), (⟨"CutMatchModel", "isEarly", "()Z"⟩, 35), (⟨"CutMatchModel", "mayCut", "(I)Z"⟩, 35), (⟨"CutMatchModel", "mayDrop", "(I)Z"⟩, 35), (⟨"CutMatchModel", "ofOver", "(II)I"⟩, 35), (⟨"CutMatchModel", "laysBlocks", "(I)V"⟩, 35), (⟨"CutMatchModel", "ofBlock", "(III)I"⟩, 35)]
theorem lw_r3 : ∀ q ∈ lw_privs_3, lw_okq q := List.forall_mem_cons.mpr ⟨lw_p32, List.forall_mem_cons.mpr ⟨lw_p33, List.forall_mem_cons.mpr ⟨lw_p34, List.forall_mem_cons.mpr ⟨lw_p35, List.forall_mem_cons.mpr ⟨lw_p36, List.forall_mem_cons.mpr ⟨lw_p37, List.forall_mem_cons.mpr ⟨lw_p38, List.forall_mem_cons.mpr ⟨lw_p39, List.forall_mem_cons.mpr ⟨lw_p40, List.forall_mem_cons.mpr ⟨lw_p41, List.forall_mem_cons.mpr ⟨lw_p42, List.forall_mem_cons.mpr ⟨lw_p43, List.forall_mem_cons.mpr ⟨lw_p44, List.forall_mem_cons.mpr ⟨lw_p45, List.forall_mem_cons.mpr ⟨lw_p46, List.forall_mem_cons.mpr ⟨lw_p47, fun _ h => absurd h List.not_mem_nil⟩⟩⟩⟩⟩⟩⟩⟩⟩⟩⟩⟩⟩⟩⟩⟩
theorem lw_p48 : lw_okq (⟨"CutMatchModel", "standOf", "(II)I"⟩, 35) := ⟨⟨by decide +kernel, by decide +kernel⟩, List.mem_of_getElem? (i := 753) (by decide +kernel), List.mem_of_getElem? (i := 1070) (by decide +kernel), List.mem_of_getElem? (i := 1071) (by decide +kernel)⟩
theorem lw_p49 : lw_okq (⟨"CutMatchModel", "lastOf", "(I)I"⟩, 35) := ⟨⟨by decide +kernel, by decide +kernel⟩, List.mem_of_getElem? (i := 753) (by decide +kernel), List.mem_of_getElem? (i := 1078) (by decide +kernel), List.mem_of_getElem? (i := 1079) (by decide +kernel)⟩
theorem lw_p50 : lw_okq (⟨"CutMatchModel", "bestOverOf", "(I)I"⟩, 35) := ⟨⟨by decide +kernel, by decide +kernel⟩, List.mem_of_getElem? (i := 753) (by decide +kernel), List.mem_of_getElem? (i := 1094) (by decide +kernel), List.mem_of_getElem? (i := 1095) (by decide +kernel)⟩
theorem lw_p51 : lw_okq (⟨"CutMatchModel", "hasTarget", "()Z"⟩, 35) := ⟨⟨by decide +kernel, by decide +kernel⟩, List.mem_of_getElem? (i := 753) (by decide +kernel), List.mem_of_getElem? (i := 1116) (by decide +kernel), List.mem_of_getElem? (i := 1117) (by decide +kernel)⟩
theorem lw_p52 : lw_okq (⟨"CutMatchModel", "parNow", "()I"⟩, 35) := ⟨⟨by decide +kernel, by decide +kernel⟩, List.mem_of_getElem? (i := 753) (by decide +kernel), List.mem_of_getElem? (i := 1124) (by decide +kernel), List.mem_of_getElem? (i := 1125) (by decide +kernel)⟩
theorem lw_p53 : lw_okq (⟨"CutMatchModel", "thePar", "(I)I"⟩, 35) := ⟨⟨by decide +kernel, by decide +kernel⟩, List.mem_of_getElem? (i := 753) (by decide +kernel), List.mem_of_getElem? (i := 1128) (by decide +kernel), List.mem_of_getElem? (i := 1129) (by decide +kernel)⟩
theorem lw_p54 : lw_okq (⟨"CutMatchModel", "resultNow", "()I"⟩, 35) := ⟨⟨by decide +kernel, by decide +kernel⟩, List.mem_of_getElem? (i := 753) (by decide +kernel), List.mem_of_getElem? (i := 1136) (by decide +kernel), List.mem_of_getElem? (i := 1137) (by decide +kernel)⟩
theorem lw_p55 : lw_okq (⟨"CutMatchModel", "aim", "()I"⟩, 35) := ⟨⟨by decide +kernel, by decide +kernel⟩, List.mem_of_getElem? (i := 753) (by decide +kernel), List.mem_of_getElem? (i := 1140) (by decide +kernel), List.mem_of_getElem? (i := 1141) (by decide +kernel)⟩
def lw_privs_4 : List (MethodName × Nat) := [(⟨"CutMatchModel", "standOf", "(II)I"⟩, 35), (⟨"CutMatchModel", "lastOf", "(I)I"⟩, 35), (⟨"CutMatchModel", "bestOverOf", "(I)I"⟩, 35), (⟨"CutMatchModel", "hasTarget", "()Z"⟩, 35), (⟨"CutMatchModel", "parNow", "()I"⟩, 35), (⟨"CutMatchModel", "thePar", "(I)I"⟩, 35), (⟨"CutMatchModel", "resultNow", "()I"⟩, 35), (⟨"CutMatchModel", "aim", "()I"⟩, 35)]
theorem lw_r4 : ∀ q ∈ lw_privs_4, lw_okq q := List.forall_mem_cons.mpr ⟨lw_p48, List.forall_mem_cons.mpr ⟨lw_p49, List.forall_mem_cons.mpr ⟨lw_p50, List.forall_mem_cons.mpr ⟨lw_p51, List.forall_mem_cons.mpr ⟨lw_p52, List.forall_mem_cons.mpr ⟨lw_p53, List.forall_mem_cons.mpr ⟨lw_p54, List.forall_mem_cons.mpr ⟨lw_p55, fun _ h => absurd h List.not_mem_nil⟩⟩⟩⟩⟩⟩⟩⟩
def lw_privs : List (MethodName × Nat) := lw_privs_1 ++ (lw_privs_2 ++ (lw_privs_3 ++ (lw_privs_4)))
def lw_tbl : List Cond := k2_sels lw_privs ++ tables_1
theorem lw_privs_ok : ∀ q ∈ lw_privs, lw_okq q := by
  show ∀ q ∈ lw_privs_1 ++ (lw_privs_2 ++ (lw_privs_3 ++ (lw_privs_4))), lw_okq q
  exact List.forall_mem_append.mpr ⟨lw_r1, List.forall_mem_append.mpr ⟨lw_r2, List.forall_mem_append.mpr ⟨lw_r3, lw_r4⟩⟩⟩
def RX0 : String := "CutMatch$Course"
def TX0 : u_T := fun k => match k with
  | 0 => ("CutMatch$Course", "rules", "LCutMatch$Rules;", true)
  | 1 => ("CutMatch$Course", "first", "LCutMatch$Innings;", true)
  | 2 => ("CutMatch$Course", "second", "LCutMatch$Innings;", true)
  | 3 => ("CutMatch$Course", "inPlay", "I", false)
  | _ => ("CutMatch$Course", "secondUntouched", "Z", false)
def tyX0 : Nat → FieldType := fun k => match k with
  | 0 => .object "CutMatch$Rules"
  | 1 => .object "CutMatch$Innings"
  | 2 => .object "CutMatch$Innings"
  | 3 => .int
  | _ => .boolean
abbrev wsX00 : List Cond := u_ws RX0 TX0 5
theorem nmX0 : ∀ a, a < 5 → ∀ b, b < 5 → a ≠ b → (TX0 a).2.1 ≠ (TX0 b).2.1 := by decide +kernel
theorem tyX0_ok : ∀ k, k < 5 → parseFieldDescriptor (TX0 k).2.2.1 = some (tyX0 k) := by decide +kernel
abbrev cX0_init : ByteArray := prog_2_method_1_code
def yX0_init : MethodName := ⟨RX0, "<init>", "(LCutMatch$Rules;)V"⟩
abbrev cX0_restart : ByteArray := prog_2_method_2_code
def yX0_restart : MethodName := ⟨RX0, "restart", "()V"⟩
abbrev cX0_side : ByteArray := prog_2_method_3_code
def yX0_side : MethodName := ⟨RX0, "side", "(I)LCutMatch$Innings;"⟩
abbrev cX0_admits : ByteArray := prog_2_method_4_code
def yX0_admits : MethodName := ⟨RX0, "admits", "(I)Z"⟩
abbrev cX0_fits : ByteArray := prog_2_method_5_code
def yX0_fits : MethodName := ⟨RX0, "fits", "(II)Z"⟩
abbrev cX0_take : ByteArray := prog_2_method_6_code
def yX0_take : MethodName := ⟨RX0, "take", "(II)V"⟩
abbrev cX0_targetReached : ByteArray := prog_2_method_7_code
def yX0_targetReached : MethodName := ⟨RX0, "targetReached", "()Z"⟩
abbrev cX0_ballsLeft : ByteArray := prog_2_method_8_code
def yX0_ballsLeft : MethodName := ⟨RX0, "ballsLeft", "(I)I"⟩
abbrev cX0_worthLeft : ByteArray := prog_2_method_9_code
def yX0_worthLeft : MethodName := ⟨RX0, "worthLeft", "()I"⟩
abbrev cX0_lossByCut : ByteArray := prog_2_method_10_code
def yX0_lossByCut : MethodName := ⟨RX0, "lossByCut", "(I)I"⟩
abbrev cX0_blockFact : ByteArray := prog_2_method_11_code
def yX0_blockFact : MethodName := ⟨RX0, "blockFact", "(III)I"⟩
abbrev cX0_projection : ByteArray := prog_2_method_12_code
def yX0_projection : MethodName := ⟨RX0, "projection", "()I"⟩
abbrev cX0_firstPart : ByteArray := prog_2_method_13_code
def yX0_firstPart : MethodName := ⟨RX0, "firstPart", "()I"⟩
abbrev cX0_hasTarget : ByteArray := prog_2_method_14_code
def yX0_hasTarget : MethodName := ⟨RX0, "hasTarget", "()Z"⟩
abbrev cX0_targetBy : ByteArray := prog_2_method_15_code
def yX0_targetBy : MethodName := ⟨RX0, "targetBy", "(II)I"⟩
abbrev cX0_theTarget : ByteArray := prog_2_method_16_code
def yX0_theTarget : MethodName := ⟨RX0, "theTarget", "()I"⟩
abbrev cX0_targetIfCut : ByteArray := prog_2_method_17_code
def yX0_targetIfCut : MethodName := ⟨RX0, "targetIfCut", "(I)I"⟩
abbrev cX0_parNow : ByteArray := prog_2_method_18_code
def yX0_parNow : MethodName := ⟨RX0, "parNow", "()I"⟩
abbrev cX0_parWithout : ByteArray := prog_2_method_19_code
def yX0_parWithout : MethodName := ⟨RX0, "parWithout", "(I)I"⟩
abbrev cX0_leadOverTie : ByteArray := prog_2_method_20_code
def yX0_leadOverTie : MethodName := ⟨RX0, "leadOverTie", "(Z)I"⟩
abbrev cX0_outcome : ByteArray := prog_2_method_21_code
def yX0_outcome : MethodName := ⟨RX0, "outcome", "(Z)I"⟩
abbrev cX0_leadAtEnd : ByteArray := prog_2_method_22_code
def yX0_leadAtEnd : MethodName := ⟨RX0, "leadAtEnd", "()I"⟩
abbrev cX0_leadByRule : ByteArray := prog_2_method_23_code
def yX0_leadByRule : MethodName := ⟨RX0, "leadByRule", "(I)I"⟩
abbrev cX0_boundaries : ByteArray := prog_2_method_24_code
def yX0_boundaries : MethodName := ⟨RX0, "boundaries", "(LCutMatch$Innings;)I"⟩
def RX1 : String := "CutMatch$Innings"
def TX1 : u_T := fun k => match k with
  | 0 => ("CutMatch$Innings", "runs", "I", false)
  | 1 => ("CutMatch$Innings", "wickets", "I", false)
  | 2 => ("CutMatch$Innings", "balls", "I", false)
  | 3 => ("CutMatch$Innings", "overs", "I", false)
  | 4 => ("CutMatch$Innings", "extras", "I", false)
  | 5 => ("CutMatch$Innings", "cuts", "I", false)
  | 6 => ("CutMatch$Innings", "closed", "Z", false)
  | 7 => ("CutMatch$Innings", "part", "I", false)
  | 8 => ("CutMatch$Innings", "closedTook", "I", false)
  | 9 => ("CutMatch$Innings", "overFacts", "[I", true)
  | 10 => ("CutMatch$Innings", "cutFacts", "[I", true)
  | 11 => ("CutMatch$Innings", "madeBalls", "[I", true)
  | 12 => ("CutMatch$Innings", "fallRuns", "[I", true)
  | _ => ("CutMatch$Innings", "fallBalls", "[I", true)
def tyX1 : Nat → FieldType := fun k => match k with
  | 0 => .int
  | 1 => .int
  | 2 => .int
  | 3 => .int
  | 4 => .int
  | 5 => .int
  | 6 => .boolean
  | 7 => .int
  | 8 => .int
  | 9 => .array .int
  | 10 => .array .int
  | 11 => .array .int
  | 12 => .array .int
  | _ => .array .int
abbrev wsX10 : List Cond := u_ws RX1 TX1 14
theorem nmX1 : ∀ a, a < 14 → ∀ b, b < 14 → a ≠ b → (TX1 a).2.1 ≠ (TX1 b).2.1 := by decide +kernel
theorem tyX1_ok : ∀ k, k < 14 → parseFieldDescriptor (TX1 k).2.2.1 = some (tyX1 k) := by decide +kernel
abbrev cX1_init : ByteArray := prog_3_method_1_code
def yX1_init : MethodName := ⟨RX1, "<init>", "()V"⟩
abbrev cX1_restart : ByteArray := prog_3_method_2_code
def yX1_restart : MethodName := ⟨RX1, "restart", "(II)V"⟩
abbrev cX1_beginWith : ByteArray := prog_3_method_3_code
def yX1_beginWith : MethodName := ⟨RX1, "beginWith", "(II)V"⟩
abbrev cX1_addToOver : ByteArray := prog_3_method_4_code
def yX1_addToOver : MethodName := ⟨RX1, "addToOver", "(II)V"⟩
abbrev cX1_addExtra : ByteArray := prog_3_method_5_code
def yX1_addExtra : MethodName := ⟨RX1, "addExtra", "()V"⟩
abbrev cX1_addBall : ByteArray := prog_3_method_6_code
def yX1_addBall : MethodName := ⟨RX1, "addBall", "(I)V"⟩
abbrev cX1_addWicket : ByteArray := prog_3_method_7_code
def yX1_addWicket : MethodName := ⟨RX1, "addWicket", "()V"⟩
abbrev cX1_addCut : ByteArray := prog_3_method_8_code
def yX1_addCut : MethodName := ⟨RX1, "addCut", "(II)V"⟩
abbrev cX1_addClose : ByteArray := prog_3_method_9_code
def yX1_addClose : MethodName := ⟨RX1, "addClose", "(I)V"⟩
abbrev cX1_isWorn : ByteArray := prog_3_method_10_code
def yX1_isWorn : MethodName := ⟨RX1, "isWorn", "()Z"⟩
abbrev cX1_hasCut : ByteArray := prog_3_method_11_code
def yX1_hasCut : MethodName := ⟨RX1, "hasCut", "(I)Z"⟩
abbrev cX1_cutFact : ByteArray := prog_3_method_12_code
def yX1_cutFact : MethodName := ⟨RX1, "cutFact", "(II)I"⟩
abbrev cX1_overFact : ByteArray := prog_3_method_13_code
def yX1_overFact : MethodName := ⟨RX1, "overFact", "(II)I"⟩
abbrev cX1_ballsThatMade : ByteArray := prog_3_method_14_code
def yX1_ballsThatMade : MethodName := ⟨RX1, "ballsThatMade", "(I)I"⟩
abbrev cX1_hasFall : ByteArray := prog_3_method_15_code
def yX1_hasFall : MethodName := ⟨RX1, "hasFall", "(I)Z"⟩
abbrev cX1_runsAtFall : ByteArray := prog_3_method_16_code
def yX1_runsAtFall : MethodName := ⟨RX1, "runsAtFall", "(I)I"⟩
abbrev cX1_ballsAtFall : ByteArray := prog_3_method_17_code
def yX1_ballsAtFall : MethodName := ⟨RX1, "ballsAtFall", "(I)I"⟩
abbrev cX1_standOf : ByteArray := prog_3_method_18_code
def yX1_standOf : MethodName := ⟨RX1, "standOf", "(I)I"⟩
abbrev cX1_openStand : ByteArray := prog_3_method_19_code
def yX1_openStand : MethodName := ⟨RX1, "openStand", "()I"⟩
abbrev cX1_greatestStand : ByteArray := prog_3_method_20_code
def yX1_greatestStand : MethodName := ⟨RX1, "greatestStand", "()I"⟩
abbrev cX1_greatestOver : ByteArray := prog_3_method_21_code
def yX1_greatestOver : MethodName := ⟨RX1, "greatestOver", "()I"⟩
def RX2 : String := "CutMatch$Rules"
def TX2 : u_T := fun k => match k with
  | 0 => ("CutMatch$Rules", "cells", "[I", true)
  | 1 => ("CutMatch$Rules", "proposal", "[I", true)
  | _ => ("CutMatch$Rules", "settings", "[I", true)
def tyX2 : Nat → FieldType := fun k => match k with
  | 0 => .array .int
  | 1 => .array .int
  | _ => .array .int
abbrev wsX20 : List Cond := u_ws RX2 TX2 3
theorem nmX2 : ∀ a, a < 3 → ∀ b, b < 3 → a ≠ b → (TX2 a).2.1 ≠ (TX2 b).2.1 := by decide +kernel
theorem tyX2_ok : ∀ k, k < 3 → parseFieldDescriptor (TX2 k).2.2.1 = some (tyX2 k) := by decide +kernel
abbrev cX2_init : ByteArray := prog_4_method_1_code
def yX2_init : MethodName := ⟨RX2, "<init>", "()V"⟩
abbrev cX2_number : ByteArray := prog_4_method_2_code
def yX2_number : MethodName := ⟨RX2, "number", "(II)I"⟩
abbrev cX2_worthOf : ByteArray := prog_4_method_3_code
def yX2_worthOf : MethodName := ⟨RX2, "worthOf", "(II)I"⟩
abbrev cX2_full : ByteArray := prog_4_method_4_code
def yX2_full : MethodName := ⟨RX2, "full", "()I"⟩
abbrev cX2_worthOfOvers : ByteArray := prog_4_method_5_code
def yX2_worthOfOvers : MethodName := ⟨RX2, "worthOfOvers", "(I)I"⟩
abbrev cX2_setting : ByteArray := prog_4_method_6_code
def yX2_setting : MethodName := ⟨RX2, "setting", "(I)I"⟩
abbrev cX2_allows : ByteArray := prog_4_method_7_code
def yX2_allows : MethodName := ⟨RX2, "allows", "(II)Z"⟩
abbrev cX2_change : ByteArray := prog_4_method_8_code
def yX2_change : MethodName := ⟨RX2, "change", "(II)V"⟩
abbrev cX2_shareOf : ByteArray := prog_4_method_9_code
def yX2_shareOf : MethodName := ⟨RX2, "shareOf", "(I)I"⟩
abbrev cX2_blockOvers : ByteArray := prog_4_method_10_code
def yX2_blockOvers : MethodName := ⟨RX2, "blockOvers", "(II)I"⟩
abbrev cX2_canStandInRow : ByteArray := prog_4_method_11_code
def yX2_canStandInRow : MethodName := ⟨RX2, "canStandInRow", "(II)Z"⟩
abbrev cX2_beginProposal : ByteArray := prog_4_method_12_code
def yX2_beginProposal : MethodName := ⟨RX2, "beginProposal", "()V"⟩
abbrev cX2_propose : ByteArray := prog_4_method_13_code
def yX2_propose : MethodName := ⟨RX2, "propose", "(III)V"⟩
abbrev cX2_proposalHolds : ByteArray := prog_4_method_14_code
def yX2_proposalHolds : MethodName := ⟨RX2, "proposalHolds", "()Z"⟩
abbrev cX2_adoptProposal : ByteArray := prog_4_method_15_code
def yX2_adoptProposal : MethodName := ⟨RX2, "adoptProposal", "()V"⟩
def RX3 : String := "CutMatch$Tape"
def TX3 : u_T := fun k => match k with
  | 0 => ("CutMatch$Tape", "bytes", "[I", true)
  | 1 => ("CutMatch$Tape", "length", "I", false)
  | 2 => ("CutMatch$Tape", "start", "I", false)
  | 3 => ("CutMatch$Tape", "number", "I", false)
  | _ => ("CutMatch$Tape", "next", "I", false)
def tyX3 : Nat → FieldType := fun k => match k with
  | 0 => .array .int
  | 1 => .int
  | 2 => .int
  | 3 => .int
  | _ => .int
abbrev wsX30 : List Cond := u_ws RX3 TX3 5
theorem nmX3 : ∀ a, a < 5 → ∀ b, b < 5 → a ≠ b → (TX3 a).2.1 ≠ (TX3 b).2.1 := by decide +kernel
theorem tyX3_ok : ∀ k, k < 5 → parseFieldDescriptor (TX3 k).2.2.1 = some (tyX3 k) := by decide +kernel
abbrev cX3_init : ByteArray := prog_5_method_1_code
def yX3_init : MethodName := ⟨RX3, "<init>", "()V"⟩
abbrev cX3_append : ByteArray := prog_5_method_2_code
def yX3_append : MethodName := ⟨RX3, "append", "(I)V"⟩
abbrev cX3_byteAt : ByteArray := prog_5_method_3_code
def yX3_byteAt : MethodName := ⟨RX3, "byteAt", "(I)I"⟩
abbrev cX3_rewind : ByteArray := prog_5_method_4_code
def yX3_rewind : MethodName := ⟨RX3, "rewind", "()V"⟩
abbrev cX3_seek : ByteArray := prog_5_method_5_code
def yX3_seek : MethodName := ⟨RX3, "seek", "()Z"⟩
abbrev cX3_takeByte : ByteArray := prog_5_method_6_code
def yX3_takeByte : MethodName := ⟨RX3, "takeByte", "()I"⟩
abbrev cX3_readByte : ByteArray := prog_5_method_7_code
def yX3_readByte : MethodName := ⟨RX3, "readByte", "(I)Z"⟩
abbrev cX3_readRowWord : ByteArray := prog_5_method_8_code
def yX3_readRowWord : MethodName := ⟨RX3, "readRowWord", "()Z"⟩
abbrev cX3_readNumber : ByteArray := prog_5_method_9_code
def yX3_readNumber : MethodName := ⟨RX3, "readNumber", "()Z"⟩
def RX4 : String := "CutMatch"
def TX4 : u_T := fun k => match k with
  | 0 => ("CutMatch", "rules", "LCutMatch$Rules;", true)
  | 1 => ("CutMatch", "tape", "LCutMatch$Tape;", true)
  | 2 => ("CutMatch", "live", "LCutMatch$Course;", true)
  | 3 => ("CutMatch", "earlier", "LCutMatch$Course;", true)
  | 4 => ("CutMatch", "logEvents", "[I", true)
  | 5 => ("CutMatch", "logNumbers", "[I", true)
  | 6 => ("CutMatch", "logSize", "I", false)
  | 7 => ("CutMatch", "latestFault", "I", false)
  | _ => ("CutMatch", "rowsRead", "I", false)
def tyX4 : Nat → FieldType := fun k => match k with
  | 0 => .object "CutMatch$Rules"
  | 1 => .object "CutMatch$Tape"
  | 2 => .object "CutMatch$Course"
  | 3 => .object "CutMatch$Course"
  | 4 => .array .int
  | 5 => .array .int
  | 6 => .int
  | 7 => .int
  | _ => .int
abbrev wsX40 : List Cond := u_ws RX4 TX4 9
theorem nmX4 : ∀ a, a < 9 → ∀ b, b < 9 → a ≠ b → (TX4 a).2.1 ≠ (TX4 b).2.1 := by decide +kernel
theorem tyX4_ok : ∀ k, k < 9 → parseFieldDescriptor (TX4 k).2.2.1 = some (tyX4 k) := by decide +kernel
abbrev cX4_init : ByteArray := prog_1_method_1_code
def yX4_init : MethodName := ⟨RX4, "<init>", "()V"⟩
abbrev cX4_feed : ByteArray := prog_1_method_2_code
def yX4_feed : MethodName := ⟨RX4, "feed", "(IIIII)I"⟩
abbrev cX4_end : ByteArray := prog_1_method_3_code
def yX4_end : MethodName := ⟨RX4, "end", "(I)Z"⟩
abbrev cX4_table : ByteArray := prog_1_method_4_code
def yX4_table : MethodName := ⟨RX4, "table", "()I"⟩
abbrev cX4_events : ByteArray := prog_1_method_5_code
def yX4_events : MethodName := ⟨RX4, "events", "()I"⟩
abbrev cX4_fault : ByteArray := prog_1_method_6_code
def yX4_fault : MethodName := ⟨RX4, "fault", "()I"⟩
abbrev cX4_set : ByteArray := prog_1_method_7_code
def yX4_set : MethodName := ⟨RX4, "set", "(II)Z"⟩
abbrev cX4_play : ByteArray := prog_1_method_8_code
def yX4_play : MethodName := ⟨RX4, "play", "(II)I"⟩
abbrev cX4_back : ByteArray := prog_1_method_9_code
def yX4_back : MethodName := ⟨RX4, "back", "()I"⟩
abbrev cX4_clear : ByteArray := prog_1_method_10_code
def yX4_clear : MethodName := ⟨RX4, "clear", "()I"⟩
abbrev cX4_count : ByteArray := prog_1_method_11_code
def yX4_count : MethodName := ⟨RX4, "count", "(I)I"⟩
abbrev cX4_worth : ByteArray := prog_1_method_12_code
def yX4_worth : MethodName := ⟨RX4, "worth", "(II)I"⟩
abbrev cX4_told : ByteArray := prog_1_method_13_code
def yX4_told : MethodName := ⟨RX4, "told", "(II)I"⟩
abbrev cX4_innings : ByteArray := prog_1_method_14_code
def yX4_innings : MethodName := ⟨RX4, "innings", "(II)I"⟩
abbrev cX4_cut : ByteArray := prog_1_method_15_code
def yX4_cut : MethodName := ⟨RX4, "cut", "(III)I"⟩
abbrev cX4_over : ByteArray := prog_1_method_16_code
def yX4_over : MethodName := ⟨RX4, "over", "(III)I"⟩
abbrev cX4_block : ByteArray := prog_1_method_17_code
def yX4_block : MethodName := ⟨RX4, "block", "(II)I"⟩
abbrev cX4_blockNow : ByteArray := prog_1_method_18_code
def yX4_blockNow : MethodName := ⟨RX4, "blockNow", "()I"⟩
abbrev cX4_inBlock : ByteArray := prog_1_method_19_code
def yX4_inBlock : MethodName := ⟨RX4, "inBlock", "(III)I"⟩
abbrev cX4_fall : ByteArray := prog_1_method_20_code
def yX4_fall : MethodName := ⟨RX4, "fall", "(III)I"⟩
abbrev cX4_lastStand : ByteArray := prog_1_method_21_code
def yX4_lastStand : MethodName := ⟨RX4, "lastStand", "(I)I"⟩
abbrev cX4_bestStand : ByteArray := prog_1_method_22_code
def yX4_bestStand : MethodName := ⟨RX4, "bestStand", "(I)I"⟩
abbrev cX4_made : ByteArray := prog_1_method_23_code
def yX4_made : MethodName := ⟨RX4, "made", "(II)I"⟩
abbrev cX4_bestOver : ByteArray := prog_1_method_24_code
def yX4_bestOver : MethodName := ⟨RX4, "bestOver", "(I)I"⟩
abbrev cX4_rate : ByteArray := prog_1_method_25_code
def yX4_rate : MethodName := ⟨RX4, "rate", "(IZ)I"⟩
abbrev cX4_projected : ByteArray := prog_1_method_26_code
def yX4_projected : MethodName := ⟨RX4, "projected", "()I"⟩
abbrev cX4_target : ByteArray := prog_1_method_27_code
def yX4_target : MethodName := ⟨RX4, "target", "()I"⟩
abbrev cX4_par : ByteArray := prog_1_method_28_code
def yX4_par : MethodName := ⟨RX4, "par", "()I"⟩
abbrev cX4_result : ByteArray := prog_1_method_29_code
def yX4_result : MethodName := ⟨RX4, "result", "()I"⟩
abbrev cX4_margin : ByteArray := prog_1_method_30_code
def yX4_margin : MethodName := ⟨RX4, "margin", "()I"⟩
abbrev cX4_needs : ByteArray := prog_1_method_31_code
def yX4_needs : MethodName := ⟨RX4, "needs", "(I)I"⟩
abbrev cX4_broken : ByteArray := prog_1_method_32_code
def yX4_broken : MethodName := ⟨RX4, "broken", "(I)I"⟩
abbrev cX4_ifCut : ByteArray := prog_1_method_33_code
def yX4_ifCut : MethodName := ⟨RX4, "ifCut", "(I)I"⟩
abbrev cX4_ifClosed : ByteArray := prog_1_method_34_code
def yX4_ifClosed : MethodName := ⟨RX4, "ifClosed", "()I"⟩
abbrev cX4_ifRuns : ByteArray := prog_1_method_35_code
def yX4_ifRuns : MethodName := ⟨RX4, "ifRuns", "(I)I"⟩
abbrev cX4_leastCut : ByteArray := prog_1_method_36_code
def yX4_leastCut : MethodName := ⟨RX4, "leastCut", "(I)I"⟩
abbrev cX4_after : ByteArray := prog_1_method_37_code
def yX4_after : MethodName := ⟨RX4, "after", "(II)I"⟩
abbrev cX4_firstAhead : ByteArray := prog_1_method_38_code
def yX4_firstAhead : MethodName := ⟨RX4, "firstAhead", "()I"⟩
abbrev cX4_emptyLog : ByteArray := prog_1_method_39_code
def yX4_emptyLog : MethodName := ⟨RX4, "emptyLog", "()V"⟩
abbrev cX4_replay : ByteArray := prog_1_method_40_code
def yX4_replay : MethodName := ⟨RX4, "replay", "(LCutMatch$Course;I)V"⟩
abbrev cX4_record : ByteArray := prog_1_method_41_code
def yX4_record : MethodName := ⟨RX4, "record", "(II)V"⟩
abbrev cX4_canCome : ByteArray := prog_1_method_42_code
def yX4_canCome : MethodName := ⟨RX4, "canCome", "(I)Z"⟩
abbrev cX4_secondCanBeCut : ByteArray := prog_1_method_43_code
def yX4_secondCanBeCut : MethodName := ⟨RX4, "secondCanBeCut", "(I)Z"⟩
abbrev cX4_readTable : ByteArray := prog_1_method_44_code
def yX4_readTable : MethodName := ⟨RX4, "readTable", "()I"⟩
abbrev cX4_readRow : ByteArray := prog_1_method_45_code
def yX4_readRow : MethodName := ⟨RX4, "readRow", "()I"⟩
abbrev cX4_readEvent : ByteArray := prog_1_method_46_code
def yX4_readEvent : MethodName := ⟨RX4, "readEvent", "()I"⟩
abbrev cX4_faultHere : ByteArray := prog_1_method_47_code
def yX4_faultHere : MethodName := ⟨RX4, "faultHere", "(I)I"⟩
abbrev cX4_isEvent : ByteArray := prog_1_method_48_code
def yX4_isEvent : MethodName := ⟨RX4, "isEvent", "(I)Z"⟩
abbrev cX4_bearsNumber : ByteArray := prog_1_method_49_code
def yX4_bearsNumber : MethodName := ⟨RX4, "bearsNumber", "(I)Z"⟩
abbrev cX4_isSide : ByteArray := prog_1_method_50_code
def yX4_isSide : MethodName := ⟨RX4, "isSide", "(I)Z"⟩
abbrev cX4_isBlock : ByteArray := prog_1_method_51_code
def yX4_isBlock : MethodName := ⟨RX4, "isBlock", "(I)Z"⟩
abbrev cX4_isOverFact : ByteArray := prog_1_method_52_code
def yX4_isOverFact : MethodName := ⟨RX4, "isOverFact", "(I)Z"⟩
abbrev cX4_inLeastTerms : ByteArray := prog_1_method_53_code
def yX4_inLeastTerms : MethodName := ⟨RX4, "inLeastTerms", "(IIZ)I"⟩
abbrev cX4_commonDivisor : ByteArray := prog_1_method_54_code
def yX4_commonDivisor : MethodName := ⟨RX4, "commonDivisor", "(II)I"⟩
def RX5 : String := "CutMatchModel"
def TX5 : u_T := fun k => match k with
  | 0 => ("CutMatchModel", "raised", "I", false)
  | 1 => ("CutMatchModel", "setting", "[I", true)
  | 2 => ("CutMatchModel", "table", "[I", true)
  | 3 => ("CutMatchModel", "newTable", "[I", true)
  | 4 => ("CutMatchModel", "event", "[I", true)
  | 5 => ("CutMatchModel", "number", "[I", true)
  | 6 => ("CutMatchModel", "many", "I", false)
  | 7 => ("CutMatchModel", "run", "[I", true)
  | 8 => ("CutMatchModel", "wicket", "[I", true)
  | 9 => ("CutMatchModel", "ball", "[I", true)
  | 10 => ("CutMatchModel", "has", "[I", true)
  | 11 => ("CutMatchModel", "part", "[I", true)
  | 12 => ("CutMatchModel", "shut", "[I", true)
  | 13 => ("CutMatchModel", "isShut", "[Z", true)
  | 14 => ("CutMatchModel", "extra", "[I", true)
  | 15 => ("CutMatchModel", "cuts", "[I", true)
  | 16 => ("CutMatchModel", "cutRow", "[I", true)
  | 17 => ("CutMatchModel", "fallRun", "[I", true)
  | 18 => ("CutMatchModel", "fallBall", "[I", true)
  | 19 => ("CutMatchModel", "overRun", "[I", true)
  | 20 => ("CutMatchModel", "overWicket", "[I", true)
  | 21 => ("CutMatchModel", "overBall", "[I", true)
  | 22 => ("CutMatchModel", "madeMany", "[I", true)
  | 23 => ("CutMatchModel", "now", "I", false)
  | 24 => ("CutMatchModel", "isTouched", "Z", false)
  | 25 => ("CutMatchModel", "tape", "[I", true)
  | 26 => ("CutMatchModel", "taped", "I", false)
  | 27 => ("CutMatchModel", "fault", "I", false)
  | 28 => ("CutMatchModel", "at", "I", false)
  | 29 => ("CutMatchModel", "wrong", "I", false)
  | 30 => ("CutMatchModel", "value", "I", false)
  | 31 => ("CutMatchModel", "came", "I", false)
  | 32 => ("CutMatchModel", "place", "I", false)
  | 33 => ("CutMatchModel", "blocks", "[I", true)
  | _ => ("CutMatchModel", "rests", "[I", true)
def tyX5 : Nat → FieldType := fun k => match k with
  | 0 => .int
  | 1 => .array .int
  | 2 => .array .int
  | 3 => .array .int
  | 4 => .array .int
  | 5 => .array .int
  | 6 => .int
  | 7 => .array .int
  | 8 => .array .int
  | 9 => .array .int
  | 10 => .array .int
  | 11 => .array .int
  | 12 => .array .int
  | 13 => .array .boolean
  | 14 => .array .int
  | 15 => .array .int
  | 16 => .array .int
  | 17 => .array .int
  | 18 => .array .int
  | 19 => .array .int
  | 20 => .array .int
  | 21 => .array .int
  | 22 => .array .int
  | 23 => .int
  | 24 => .boolean
  | 25 => .array .int
  | 26 => .int
  | 27 => .int
  | 28 => .int
  | 29 => .int
  | 30 => .int
  | 31 => .int
  | 32 => .int
  | 33 => .array .int
  | _ => .array .int
abbrev wsX50 : List Cond := u_ws RX5 TX5 35
theorem nmX5 : ∀ a, a < 35 → ∀ b, b < 35 → a ≠ b → (TX5 a).2.1 ≠ (TX5 b).2.1 := by decide +kernel
theorem tyX5_ok : ∀ k, k < 35 → parseFieldDescriptor (TX5 k).2.2.1 = some (tyX5 k) := by decide +kernel
abbrev cX5_init : ByteArray := prog_7_method_1_code
def yX5_init : MethodName := ⟨RX5, "<init>", "()V"⟩
abbrev cX5_in : ByteArray := prog_7_method_3_code
def yX5_in : MethodName := ⟨RX5, "in", "(III)Z"⟩
abbrev cX5_worthOf : ByteArray := prog_7_method_4_code
def yX5_worthOf : MethodName := ⟨RX5, "worthOf", "(II)I"⟩
abbrev cX5_full : ByteArray := prog_7_method_5_code
def yX5_full : MethodName := ⟨RX5, "full", "()I"⟩
abbrev cX5_worth : ByteArray := prog_7_method_6_code
def yX5_worth : MethodName := ⟨RX5, "worth", "(II)I"⟩
abbrev cX5_told : ByteArray := prog_7_method_7_code
def yX5_told : MethodName := ⟨RX5, "told", "(II)I"⟩
abbrev cX5_begins : ByteArray := prog_7_method_8_code
def yX5_begins : MethodName := ⟨RX5, "begins", "()V"⟩
abbrev cX5_left : ByteArray := prog_7_method_9_code
def yX5_left : MethodName := ⟨RX5, "left", "(I)I"⟩
abbrev cX5_leftWorth : ByteArray := prog_7_method_10_code
def yX5_leftWorth : MethodName := ⟨RX5, "leftWorth", "(I)I"⟩
abbrev cX5_takes : ByteArray := prog_7_method_11_code
def yX5_takes : MethodName := ⟨RX5, "takes", "(II)I"⟩
abbrev cX5_targetOf : ByteArray := prog_7_method_12_code
def yX5_targetOf : MethodName := ⟨RX5, "targetOf", "(II)I"⟩
abbrev cX5_hasTarget : ByteArray := prog_7_method_13_code
def yX5_hasTarget : MethodName := ⟨RX5, "hasTarget", "()Z"⟩
abbrev cX5_partOfSecond : ByteArray := prog_7_method_14_code
def yX5_partOfSecond : MethodName := ⟨RX5, "partOfSecond", "()I"⟩
abbrev cX5_theTarget : ByteArray := prog_7_method_15_code
def yX5_theTarget : MethodName := ⟨RX5, "theTarget", "()I"⟩
abbrev cX5_thePar : ByteArray := prog_7_method_16_code
def yX5_thePar : MethodName := ⟨RX5, "thePar", "(I)I"⟩
abbrev cX5_mayCut : ByteArray := prog_7_method_17_code
def yX5_mayCut : MethodName := ⟨RX5, "mayCut", "(I)Z"⟩
abbrev cX5_mayDrop : ByteArray := prog_7_method_18_code
def yX5_mayDrop : MethodName := ⟨RX5, "mayDrop", "(I)Z"⟩
abbrev cX5_isEarly : ByteArray := prog_7_method_19_code
def yX5_isEarly : MethodName := ⟨RX5, "isEarly", "()Z"⟩
abbrev cX5_isBall : ByteArray := prog_7_method_20_code
def yX5_isBall : MethodName := ⟨RX5, "isBall", "(I)Z"⟩
abbrev cX5_isEvent : ByteArray := prog_7_method_21_code
def yX5_isEvent : MethodName := ⟨RX5, "isEvent", "(I)Z"⟩
abbrev cX5_bowls : ByteArray := prog_7_method_22_code
def yX5_bowls : MethodName := ⟨RX5, "bowls", "(II)V"⟩
abbrev cX5_cutsTo : ByteArray := prog_7_method_23_code
def yX5_cutsTo : MethodName := ⟨RX5, "cutsTo", "(II)V"⟩
abbrev cX5_goes : ByteArray := prog_7_method_24_code
def yX5_goes : MethodName := ⟨RX5, "goes", "(II)V"⟩
abbrev cX5_goesTo : ByteArray := prog_7_method_25_code
def yX5_goesTo : MethodName := ⟨RX5, "goesTo", "(I)V"⟩
abbrev cX5_goesOn : ByteArray := prog_7_method_26_code
def yX5_goesOn : MethodName := ⟨RX5, "goesOn", "()V"⟩
abbrev cX5_four : ByteArray := prog_7_method_27_code
def yX5_four : MethodName := ⟨RX5, "four", "(I)V"⟩
abbrev cX5_feed : ByteArray := prog_7_method_28_code
def yX5_feed : MethodName := ⟨RX5, "feed", "(IIIII)I"⟩
abbrev cX5_end : ByteArray := prog_7_method_29_code
def yX5_end : MethodName := ⟨RX5, "end", "(I)Z"⟩
abbrev cX5_here : ByteArray := prog_7_method_30_code
def yX5_here : MethodName := ⟨RX5, "here", "()I"⟩
abbrev cX5_fails : ByteArray := prog_7_method_31_code
def yX5_fails : MethodName := ⟨RX5, "fails", "(II)Z"⟩
abbrev cX5_readNumber : ByteArray := prog_7_method_32_code
def yX5_readNumber : MethodName := ⟨RX5, "readNumber", "()Z"⟩
abbrev cX5_readRow : ByteArray := prog_7_method_33_code
def yX5_readRow : MethodName := ⟨RX5, "readRow", "()Z"⟩
abbrev cX5_readTable : ByteArray := prog_7_method_34_code
def yX5_readTable : MethodName := ⟨RX5, "readTable", "()Z"⟩
abbrev cX5_readEvent : ByteArray := prog_7_method_35_code
def yX5_readEvent : MethodName := ⟨RX5, "readEvent", "()Z"⟩
abbrev cX5_readEvents : ByteArray := prog_7_method_36_code
def yX5_readEvents : MethodName := ⟨RX5, "readEvents", "()Z"⟩
abbrev cX5_beginsText : ByteArray := prog_7_method_37_code
def yX5_beginsText : MethodName := ⟨RX5, "beginsText", "()V"⟩
abbrev cX5_table : ByteArray := prog_7_method_38_code
def yX5_table : MethodName := ⟨RX5, "table", "()I"⟩
abbrev cX5_events : ByteArray := prog_7_method_39_code
def yX5_events : MethodName := ⟨RX5, "events", "()I"⟩
abbrev cX5_fault : ByteArray := prog_7_method_40_code
def yX5_fault : MethodName := ⟨RX5, "fault", "()I"⟩
abbrev cX5_set : ByteArray := prog_7_method_41_code
def yX5_set : MethodName := ⟨RX5, "set", "(II)Z"⟩
abbrev cX5_play : ByteArray := prog_7_method_42_code
def yX5_play : MethodName := ⟨RX5, "play", "(II)I"⟩
abbrev cX5_back : ByteArray := prog_7_method_43_code
def yX5_back : MethodName := ⟨RX5, "back", "()I"⟩
abbrev cX5_clear : ByteArray := prog_7_method_44_code
def yX5_clear : MethodName := ⟨RX5, "clear", "()I"⟩
abbrev cX5_count : ByteArray := prog_7_method_45_code
def yX5_count : MethodName := ⟨RX5, "count", "(I)I"⟩
abbrev cX5_isInnings : ByteArray := prog_7_method_46_code
def yX5_isInnings : MethodName := ⟨RX5, "isInnings", "(I)Z"⟩
abbrev cX5_innings : ByteArray := prog_7_method_47_code
def yX5_innings : MethodName := ⟨RX5, "innings", "(II)I"⟩
abbrev cX5_cut : ByteArray := prog_7_method_48_code
def yX5_cut : MethodName := ⟨RX5, "cut", "(III)I"⟩
abbrev cX5_over : ByteArray := prog_7_method_49_code
def yX5_over : MethodName := ⟨RX5, "over", "(III)I"⟩
abbrev cX5_ofOver : ByteArray := prog_7_method_50_code
def yX5_ofOver : MethodName := ⟨RX5, "ofOver", "(II)I"⟩
abbrev cX5_laysBlocks : ByteArray := prog_7_method_51_code
def yX5_laysBlocks : MethodName := ⟨RX5, "laysBlocks", "(I)V"⟩
abbrev cX5_block : ByteArray := prog_7_method_52_code
def yX5_block : MethodName := ⟨RX5, "block", "(II)I"⟩
abbrev cX5_blockNow : ByteArray := prog_7_method_53_code
def yX5_blockNow : MethodName := ⟨RX5, "blockNow", "()I"⟩
abbrev cX5_ofBlock : ByteArray := prog_7_method_54_code
def yX5_ofBlock : MethodName := ⟨RX5, "ofBlock", "(III)I"⟩
abbrev cX5_inBlock : ByteArray := prog_7_method_55_code
def yX5_inBlock : MethodName := ⟨RX5, "inBlock", "(III)I"⟩
abbrev cX5_standOf : ByteArray := prog_7_method_56_code
def yX5_standOf : MethodName := ⟨RX5, "standOf", "(II)I"⟩
abbrev cX5_lastOf : ByteArray := prog_7_method_57_code
def yX5_lastOf : MethodName := ⟨RX5, "lastOf", "(I)I"⟩
abbrev cX5_fall : ByteArray := prog_7_method_58_code
def yX5_fall : MethodName := ⟨RX5, "fall", "(III)I"⟩
abbrev cX5_lastStand : ByteArray := prog_7_method_59_code
def yX5_lastStand : MethodName := ⟨RX5, "lastStand", "(I)I"⟩
abbrev cX5_bestStand : ByteArray := prog_7_method_60_code
def yX5_bestStand : MethodName := ⟨RX5, "bestStand", "(I)I"⟩
abbrev cX5_made : ByteArray := prog_7_method_61_code
def yX5_made : MethodName := ⟨RX5, "made", "(II)I"⟩
abbrev cX5_bestOverOf : ByteArray := prog_7_method_62_code
def yX5_bestOverOf : MethodName := ⟨RX5, "bestOverOf", "(I)I"⟩
abbrev cX5_bestOver : ByteArray := prog_7_method_63_code
def yX5_bestOver : MethodName := ⟨RX5, "bestOver", "(I)I"⟩
abbrev cX5_divisor : ByteArray := prog_7_method_64_code
def yX5_divisor : MethodName := ⟨RX5, "divisor", "(II)I"⟩
abbrev cX5_tells : ByteArray := prog_7_method_65_code
def yX5_tells : MethodName := ⟨RX5, "tells", "(IIZ)I"⟩
abbrev cX5_rate : ByteArray := prog_7_method_66_code
def yX5_rate : MethodName := ⟨RX5, "rate", "(IZ)I"⟩
abbrev cX5_projected : ByteArray := prog_7_method_67_code
def yX5_projected : MethodName := ⟨RX5, "projected", "()I"⟩
abbrev cX5_target : ByteArray := prog_7_method_68_code
def yX5_target : MethodName := ⟨RX5, "target", "()I"⟩
abbrev cX5_parNow : ByteArray := prog_7_method_69_code
def yX5_parNow : MethodName := ⟨RX5, "parNow", "()I"⟩
abbrev cX5_par : ByteArray := prog_7_method_70_code
def yX5_par : MethodName := ⟨RX5, "par", "()I"⟩
abbrev cX5_aim : ByteArray := prog_7_method_71_code
def yX5_aim : MethodName := ⟨RX5, "aim", "()I"⟩
abbrev cX5_resultNow : ByteArray := prog_7_method_72_code
def yX5_resultNow : MethodName := ⟨RX5, "resultNow", "()I"⟩
abbrev cX5_result : ByteArray := prog_7_method_73_code
def yX5_result : MethodName := ⟨RX5, "result", "()I"⟩
abbrev cX5_margin : ByteArray := prog_7_method_74_code
def yX5_margin : MethodName := ⟨RX5, "margin", "()I"⟩
abbrev cX5_needs : ByteArray := prog_7_method_75_code
def yX5_needs : MethodName := ⟨RX5, "needs", "(I)I"⟩
abbrev cX5_more : ByteArray := prog_7_method_76_code
def yX5_more : MethodName := ⟨RX5, "more", "(II)I"⟩
abbrev cX5_broken : ByteArray := prog_7_method_77_code
def yX5_broken : MethodName := ⟨RX5, "broken", "(I)I"⟩
abbrev cX5_ifCut : ByteArray := prog_7_method_78_code
def yX5_ifCut : MethodName := ⟨RX5, "ifCut", "(I)I"⟩
abbrev cX5_ifClosed : ByteArray := prog_7_method_79_code
def yX5_ifClosed : MethodName := ⟨RX5, "ifClosed", "()I"⟩
abbrev cX5_ifRuns : ByteArray := prog_7_method_80_code
def yX5_ifRuns : MethodName := ⟨RX5, "ifRuns", "(I)I"⟩
abbrev cX5_leastCut : ByteArray := prog_7_method_81_code
def yX5_leastCut : MethodName := ⟨RX5, "leastCut", "(I)I"⟩
abbrev cX5_after : ByteArray := prog_7_method_82_code
def yX5_after : MethodName := ⟨RX5, "after", "(II)I"⟩
abbrev cX5_firstAhead : ByteArray := prog_7_method_83_code
def yX5_firstAhead : MethodName := ⟨RX5, "firstAhead", "()I"⟩
def RJ9 : String := "java/lang/Math"
abbrev cJ9_max_7cf53 : ByteArray := prog_10_method_65_code
def yJ9_max_7cf53 : MethodName := ⟨RJ9, "max", "(II)I"⟩
def RL : String := "CutMatchLaw"
abbrev cL_innings : ByteArray := method_3_code
def yL_innings : MethodName := ⟨RL, "innings", "(LCutMatch;II[J)I"⟩
abbrev cL_cut : ByteArray := method_4_code
def yL_cut : MethodName := ⟨RL, "cut", "(LCutMatch;III[J)I"⟩
abbrev cL_law : ByteArray := code
def yL_law : MethodName := ⟨RL, "law", "([I)Z"⟩
def wsX1_init : List Cond := .code yX1_init cX1_init 1 none :: ([.methodLink RX1 3 objectInit, .instanceMethod objectInit, .code objectInit ⟨#[0xb1]⟩ 1 none, .arrayClass .int, .fieldLink RX1 11 "CutMatch$Innings" "overFacts" "[I", .fieldLink RX1 15 "CutMatch$Innings" "cutFacts" "[I", .fieldLink RX1 18 "CutMatch$Innings" "madeBalls" "[I", .fieldLink RX1 21 "CutMatch$Innings" "fallRuns" "[I", .fieldLink RX1 24 "CutMatch$Innings" "fallBalls" "[I"] ++ wsX10)
def wsX2_setting : List Cond := .code yX2_setting cX2_setting 2 (some .int) :: ([.fieldLink RX2 18 "CutMatch$Rules" "settings" "[I"] ++ wsX20)
def wsX2_worthOf : List Cond := .code yX2_worthOf cX2_worthOf 6 (some .int) :: ([.fieldLink RX2 11 "CutMatch$Rules" "cells" "[I"] ++ wsX20)
def wsX2_worthOfOvers : List Cond := .code yX2_worthOfOvers cX2_worthOfOvers 2 (some .int) :: ([.methodLink RX2 24 yX2_worthOf, .instanceMethod yX2_worthOf, .selects RX2 yX2_worthOf yX2_worthOf, .initialized RX2, .code yX2_worthOf cX2_worthOf 6 (some .int), .fieldLink RX2 11 "CutMatch$Rules" "cells" "[I"] ++ wsX20)
def wsX1_beginWith : List Cond := .code yX1_beginWith cX1_beginWith 3 none :: ([.fieldLink RX1 54 "CutMatch$Innings" "overs" "I", .fieldLink RX1 57 "CutMatch$Innings" "part" "I"] ++ wsX10)
def wsX1_restart : List Cond := .code yX1_restart cX1_restart 4 none :: ([.fieldLink RX1 27 "CutMatch$Innings" "runs" "I", .fieldLink RX1 31 "CutMatch$Innings" "wickets" "I", .fieldLink RX1 34 "CutMatch$Innings" "balls" "I", .fieldLink RX1 37 "CutMatch$Innings" "extras" "I", .fieldLink RX1 40 "CutMatch$Innings" "cuts" "I", .fieldLink RX1 43 "CutMatch$Innings" "closed" "Z", .fieldLink RX1 47 "CutMatch$Innings" "closedTook" "I", .fieldLink RX1 11 "CutMatch$Innings" "overFacts" "[I", .fieldLink RX1 18 "CutMatch$Innings" "madeBalls" "[I", .methodLink RX1 50 yX1_beginWith, .instanceMethod yX1_beginWith, .selects RX1 yX1_beginWith yX1_beginWith, .initialized RX1, .code yX1_beginWith cX1_beginWith 3 none, .fieldLink RX1 54 "CutMatch$Innings" "overs" "I", .fieldLink RX1 57 "CutMatch$Innings" "part" "I"] ++ wsX10)
abbrev vwCl : List vw_C := [(RX0, TX0, 5), (RX1, TX1, 14), (RX2, TX2, 3), (RX3, TX3, 5), (RX4, TX4, 9), (RX5, TX5, 35)]
theorem ip_inX0 : ∀ w ∈ wsX00, w ∈ lw_tbl := by decide +kernel
theorem ip_inX1 : ∀ w ∈ wsX10, w ∈ lw_tbl := by decide +kernel
theorem ip_inX2 : ∀ w ∈ wsX20, w ∈ lw_tbl := by decide +kernel
theorem ip_inX3 : ∀ w ∈ wsX30, w ∈ lw_tbl := by decide +kernel
theorem ip_inX4 : ∀ w ∈ wsX40, w ∈ lw_tbl := by decide +kernel
theorem ip_inX5 : ∀ w ∈ wsX50, w ∈ lw_tbl := by decide +kernel
