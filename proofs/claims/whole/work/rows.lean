section
-- ===== PART A: goes FIRST, ahead of the names: the tables' words, and 'selects' of the private methods out of them =====
/-- a private method of a class that the tables say can be made, by its rows of tables_1 -/
def lw_okq (q : MethodName × Nat) : Prop := (q.1.cls ≠ "java/lang/invoke/MethodHandle" ∧ q.1.cls ≠ "java/lang/invoke/VarHandle") ∧ Cond.instantiable q.1.cls q.2 ∈ tables_1 ∧ Cond.privateMethod q.1 ∈ tables_1 ∧ Cond.instanceMethod q.1 ∈ tables_1
theorem lw_p0 : lw_okq (⟨"VisitorSteps$Walk", "goOn", "(LVisitorSteps$Visitor;)V"⟩, 11) := ⟨⟨by decide +kernel, by decide +kernel⟩, List.mem_of_getElem? (i := 103) (by decide +kernel), List.mem_of_getElem? (i := 245) (by decide +kernel), List.mem_of_getElem? (i := 246) (by decide +kernel)⟩
theorem lw_p1 : lw_okq (⟨"VisitorSteps$Walk", "choose", "(LVisitorSteps$Visitor;)I"⟩, 11) := ⟨⟨by decide +kernel, by decide +kernel⟩, List.mem_of_getElem? (i := 103) (by decide +kernel), List.mem_of_getElem? (i := 253) (by decide +kernel), List.mem_of_getElem? (i := 254) (by decide +kernel)⟩
theorem lw_p2 : lw_okq (⟨"VisitorSteps$Walk", "chooseThing", "(LVisitorSteps$Visitor;)I"⟩, 11) := ⟨⟨by decide +kernel, by decide +kernel⟩, List.mem_of_getElem? (i := 103) (by decide +kernel), List.mem_of_getElem? (i := 257) (by decide +kernel), List.mem_of_getElem? (i := 258) (by decide +kernel)⟩
theorem lw_p3 : lw_okq (⟨"VisitorSteps$Walk", "luck", "(LVisitorSteps$Visitor;)I"⟩, 11) := ⟨⟨by decide +kernel, by decide +kernel⟩, List.mem_of_getElem? (i := 103) (by decide +kernel), List.mem_of_getElem? (i := 265) (by decide +kernel), List.mem_of_getElem? (i := 266) (by decide +kernel)⟩
theorem lw_p4 : lw_okq (⟨"VisitorSteps$Walk", "step", "(LVisitorSteps$Visitor;)V"⟩, 11) := ⟨⟨by decide +kernel, by decide +kernel⟩, List.mem_of_getElem? (i := 103) (by decide +kernel), List.mem_of_getElem? (i := 276) (by decide +kernel), List.mem_of_getElem? (i := 277) (by decide +kernel)⟩
theorem lw_p5 : lw_okq (⟨"VisitorSteps$House", "neighbour", "(II)I"⟩, 13) := ⟨⟨by decide +kernel, by decide +kernel⟩, List.mem_of_getElem? (i := 24) (by decide +kernel), List.mem_of_getElem? (i := 284) (by decide +kernel), List.mem_of_getElem? (i := 285) (by decide +kernel)⟩
theorem lw_p6 : lw_okq (⟨"VisitorSteps$Walk", "hasRoom", "(I)Z"⟩, 11) := ⟨⟨by decide +kernel, by decide +kernel⟩, List.mem_of_getElem? (i := 103) (by decide +kernel), List.mem_of_getElem? (i := 292) (by decide +kernel), List.mem_of_getElem? (i := 293) (by decide +kernel)⟩
theorem lw_p7 : lw_okq (⟨"VisitorSteps$Walk", "goOut", "(LVisitorSteps$Visitor;)V"⟩, 11) := ⟨⟨by decide +kernel, by decide +kernel⟩, List.mem_of_getElem? (i := 103) (by decide +kernel), List.mem_of_getElem? (i := 296) (by decide +kernel), List.mem_of_getElem? (i := 297) (by decide +kernel)⟩
theorem lw_p8 : lw_okq (⟨"VisitorSteps$Walk", "look", "(LVisitorSteps$Visitor;)V"⟩, 11) := ⟨⟨by decide +kernel, by decide +kernel⟩, List.mem_of_getElem? (i := 103) (by decide +kernel), List.mem_of_getElem? (i := 300) (by decide +kernel), List.mem_of_getElem? (i := 301) (by decide +kernel)⟩
theorem lw_p9 : lw_okq (⟨"VisitorSteps$Walk", "groupIsDoneWith", "(LVisitorSteps$Visitor;)Z"⟩, 11) := ⟨⟨by decide +kernel, by decide +kernel⟩, List.mem_of_getElem? (i := 103) (by decide +kernel), List.mem_of_getElem? (i := 304) (by decide +kernel), List.mem_of_getElem? (i := 305) (by decide +kernel)⟩
theorem lw_p10 : lw_okq (⟨"VisitorSteps$Walk", "comeIn", "(LVisitorSteps$Visitor;)V"⟩, 11) := ⟨⟨by decide +kernel, by decide +kernel⟩, List.mem_of_getElem? (i := 103) (by decide +kernel), List.mem_of_getElem? (i := 308) (by decide +kernel), List.mem_of_getElem? (i := 309) (by decide +kernel)⟩
theorem lw_p11 : lw_okq (⟨"VisitorSteps", "squaresAnew", "()I"⟩, 4) := ⟨⟨by decide +kernel, by decide +kernel⟩, List.mem_of_getElem? (i := 16) (by decide +kernel), List.mem_of_getElem? (i := 316) (by decide +kernel), List.mem_of_getElem? (i := 317) (by decide +kernel)⟩
theorem lw_p12 : lw_okq (⟨"VisitorSteps", "existingCell", "(II)I"⟩, 4) := ⟨⟨by decide +kernel, by decide +kernel⟩, List.mem_of_getElem? (i := 16) (by decide +kernel), List.mem_of_getElem? (i := 345) (by decide +kernel), List.mem_of_getElem? (i := 346) (by decide +kernel)⟩
theorem lw_p13 : lw_okq (⟨"java/lang/Throwable", "fillInStackTrace", "(I)Ljava/lang/Throwable;"⟩, 6) := ⟨⟨by decide +kernel, by decide +kernel⟩, List.mem_of_getElem? (i := 387) (by decide +kernel), List.mem_of_getElem? (i := 385) (by decide +kernel), List.mem_of_getElem? (i := 386) (by decide +kernel)⟩
theorem lw_p14 : lw_okq (⟨"VisitorSteps$House", "measure", "(I)V"⟩, 13) := ⟨⟨by decide +kernel, by decide +kernel⟩, List.mem_of_getElem? (i := 24) (by decide +kernel), List.mem_of_getElem? (i := 429) (by decide +kernel), List.mem_of_getElem? (i := 430) (by decide +kernel)⟩
theorem lw_p15 : lw_okq (⟨"VisitorSteps", "existingDoor", "(I)I"⟩, 4) := ⟨⟨by decide +kernel, by decide +kernel⟩, List.mem_of_getElem? (i := 16) (by decide +kernel), List.mem_of_getElem? (i := 513) (by decide +kernel), List.mem_of_getElem? (i := 514) (by decide +kernel)⟩
def lw_privs_1 : List (MethodName × Nat) := [(⟨"VisitorSteps$Walk", "goOn", "(LVisitorSteps$Visitor;)V"⟩, 11), (⟨"VisitorSteps$Walk", "choose", "(LVisitorSteps$Visitor;)I"⟩, 11), (⟨"VisitorSteps$Walk", "chooseThing", "(LVisitorSteps$Visitor;)I"⟩, 11), (⟨"VisitorSteps$Walk", "luck", "(LVisitorSteps$Visitor;)I"⟩, 11), (⟨"VisitorSteps$Walk", "step", "(LVisitorSteps$Visitor;)V"⟩, 11), (⟨"VisitorSteps$House", "neighbour", "(II)I"⟩, 13), (⟨"VisitorSteps$Walk", "hasRoom", "(I)Z"⟩, 11), (⟨"VisitorSteps$Walk", "goOut", "(LVisitorSteps$Visitor;)V"⟩, 11), (⟨"VisitorSteps$Walk", "look", "(LVisitorSteps$Visitor;)V"⟩, 11), (⟨"VisitorSteps$Walk", "groupIsDoneWith", "(LVisitorSteps$Visitor;)Z"⟩, 11), (⟨"VisitorSteps$Walk", "comeIn", "(LVisitorSteps$Visitor;)V"⟩, 11), (⟨"VisitorSteps", "squaresAnew", "()I"⟩, 4), (⟨"VisitorSteps", "existingCell", "(II)I"⟩, 4), (⟨"java/lang/Throwable", "fillInStackTrace", "(I)Ljava/lang/Throwable;"⟩, 6), (⟨"VisitorSteps$House", "measure", "(I)V"⟩, 13), (⟨"VisitorSteps", "existingDoor", "(I)I"⟩, 4)]
theorem lw_r1 : ∀ q ∈ lw_privs_1, lw_okq q := List.forall_mem_cons.mpr ⟨lw_p0, List.forall_mem_cons.mpr ⟨lw_p1, List.forall_mem_cons.mpr ⟨lw_p2, List.forall_mem_cons.mpr ⟨lw_p3, List.forall_mem_cons.mpr ⟨lw_p4, List.forall_mem_cons.mpr ⟨lw_p5, List.forall_mem_cons.mpr ⟨lw_p6, List.forall_mem_cons.mpr ⟨lw_p7, List.forall_mem_cons.mpr ⟨lw_p8, List.forall_mem_cons.mpr ⟨lw_p9, List.forall_mem_cons.mpr ⟨lw_p10, List.forall_mem_cons.mpr ⟨lw_p11, List.forall_mem_cons.mpr ⟨lw_p12, List.forall_mem_cons.mpr ⟨lw_p13, List.forall_mem_cons.mpr ⟨lw_p14, List.forall_mem_cons.mpr ⟨lw_p15, fun _ h => absurd h List.not_mem_nil⟩⟩⟩⟩⟩⟩⟩⟩⟩⟩⟩⟩⟩⟩⟩⟩
theorem lw_p16 : lw_okq (⟨"VisitorSteps$Walk", "keyOf", "(I)I"⟩, 11) := ⟨⟨by decide +kernel, by decide +kernel⟩, List.mem_of_getElem? (i := 103) (by decide +kernel), List.mem_of_getElem? (i := 524) (by decide +kernel), List.mem_of_getElem? (i := 525) (by decide +kernel)⟩
theorem lw_p17 : lw_okq (⟨"VisitorSteps", "existingVisitor", "(I)LVisitorSteps$Visitor;"⟩, 4) := ⟨⟨by decide +kernel, by decide +kernel⟩, List.mem_of_getElem? (i := 16) (by decide +kernel), List.mem_of_getElem? (i := 543) (by decide +kernel), List.mem_of_getElem? (i := 544) (by decide +kernel)⟩
theorem lw_p18 : lw_okq (⟨"VisitorSteps", "existingThing", "(I)I"⟩, 4) := ⟨⟨by decide +kernel, by decide +kernel⟩, List.mem_of_getElem? (i := 16) (by decide +kernel), List.mem_of_getElem? (i := 585) (by decide +kernel), List.mem_of_getElem? (i := 586) (by decide +kernel)⟩
theorem lw_p19 : lw_okq (⟨"VisitorStepsModel", "isCell", "(II)Z"⟩, 31) := ⟨⟨by decide +kernel, by decide +kernel⟩, List.mem_of_getElem? (i := 628) (by decide +kernel), List.mem_of_getElem? (i := 737) (by decide +kernel), List.mem_of_getElem? (i := 738) (by decide +kernel)⟩
theorem lw_p20 : lw_okq (⟨"VisitorStepsModel", "goes", "(ZZZ)Z"⟩, 31) := ⟨⟨by decide +kernel, by decide +kernel⟩, List.mem_of_getElem? (i := 628) (by decide +kernel), List.mem_of_getElem? (i := 744) (by decide +kernel), List.mem_of_getElem? (i := 745) (by decide +kernel)⟩
theorem lw_p21 : lw_okq (⟨"VisitorStepsModel", "crowdOf", "(I)I"⟩, 31) := ⟨⟨by decide +kernel, by decide +kernel⟩, List.mem_of_getElem? (i := 628) (by decide +kernel), List.mem_of_getElem? (i := 748) (by decide +kernel), List.mem_of_getElem? (i := 749) (by decide +kernel)⟩
theorem lw_p22 : lw_okq (⟨"VisitorStepsModel", "measureAll", "()V"⟩, 31) := ⟨⟨by decide +kernel, by decide +kernel⟩, List.mem_of_getElem? (i := 628) (by decide +kernel), List.mem_of_getElem? (i := 776) (by decide +kernel), List.mem_of_getElem? (i := 777) (by decide +kernel)⟩
theorem lw_p23 : lw_okq (⟨"VisitorStepsModel", "measure", "(II)V"⟩, 31) := ⟨⟨by decide +kernel, by decide +kernel⟩, List.mem_of_getElem? (i := 628) (by decide +kernel), List.mem_of_getElem? (i := 780) (by decide +kernel), List.mem_of_getElem? (i := 781) (by decide +kernel)⟩
theorem lw_p24 : lw_okq (⟨"VisitorStepsModel", "stepAt", "(II)I"⟩, 31) := ⟨⟨by decide +kernel, by decide +kernel⟩, List.mem_of_getElem? (i := 628) (by decide +kernel), List.mem_of_getElem? (i := 784) (by decide +kernel), List.mem_of_getElem? (i := 785) (by decide +kernel)⟩
theorem lw_p25 : lw_okq (⟨"VisitorStepsModel", "pass", "(IZ)V"⟩, 31) := ⟨⟨by decide +kernel, by decide +kernel⟩, List.mem_of_getElem? (i := 628) (by decide +kernel), List.mem_of_getElem? (i := 788) (by decide +kernel), List.mem_of_getElem? (i := 789) (by decide +kernel)⟩
theorem lw_p26 : lw_okq (⟨"VisitorStepsModel", "act", "(IZ)V"⟩, 31) := ⟨⟨by decide +kernel, by decide +kernel⟩, List.mem_of_getElem? (i := 628) (by decide +kernel), List.mem_of_getElem? (i := 792) (by decide +kernel), List.mem_of_getElem? (i := 793) (by decide +kernel)⟩
theorem lw_p27 : lw_okq (⟨"VisitorStepsModel", "distance", "(II)I"⟩, 31) := ⟨⟨by decide +kernel, by decide +kernel⟩, List.mem_of_getElem? (i := 628) (by decide +kernel), List.mem_of_getElem? (i := 796) (by decide +kernel), List.mem_of_getElem? (i := 797) (by decide +kernel)⟩
theorem lw_p28 : lw_okq (⟨"VisitorStepsModel", "nearest", "(I)I"⟩, 31) := ⟨⟨by decide +kernel, by decide +kernel⟩, List.mem_of_getElem? (i := 628) (by decide +kernel), List.mem_of_getElem? (i := 803) (by decide +kernel), List.mem_of_getElem? (i := 804) (by decide +kernel)⟩
theorem lw_p29 : lw_okq (⟨"VisitorStepsModel", "chosen", "(I)I"⟩, 31) := ⟨⟨by decide +kernel, by decide +kernel⟩, List.mem_of_getElem? (i := 628) (by decide +kernel), List.mem_of_getElem? (i := 807) (by decide +kernel), List.mem_of_getElem? (i := 808) (by decide +kernel)⟩
theorem lw_p30 : lw_okq (⟨"VisitorStepsModel", "many", "(I)I"⟩, 31) := ⟨⟨by decide +kernel, by decide +kernel⟩, List.mem_of_getElem? (i := 628) (by decide +kernel), List.mem_of_getElem? (i := 811) (by decide +kernel), List.mem_of_getElem? (i := 812) (by decide +kernel)⟩
theorem lw_p31 : lw_okq (⟨"VisitorStepsModel", "key", "(I)I"⟩, 31) := ⟨⟨by decide +kernel, by decide +kernel⟩, List.mem_of_getElem? (i := 628) (by decide +kernel), List.mem_of_getElem? (i := 815) (by decide +kernel), List.mem_of_getElem? (i := 816) (by decide +kernel)⟩
def lw_privs_2 : List (MethodName × Nat) := [(⟨"VisitorSteps$Walk", "keyOf", "(I)I"⟩, 11), (⟨"VisitorSteps", "existingVisitor", "(I)LVisitorSteps$Visitor;"⟩, 4), (⟨"VisitorSteps", "existingThing", "(I)I"⟩, 4), (⟨"VisitorStepsModel", "isCell", "(II)Z"⟩, 31), (⟨"VisitorStepsModel", "goes", "(ZZZ)Z"⟩, 31), (⟨"VisitorStepsModel", "crowdOf", "(I)I"⟩, 31), (⟨"VisitorStepsModel", "measureAll", "()V"⟩, 31), (⟨"VisitorStepsModel", "measure", "(II)V"⟩, 31), (⟨"VisitorStepsModel", "stepAt", "(II)I"⟩, 31), (⟨"VisitorStepsModel", "pass", "(IZ)V"⟩, 31), (⟨"VisitorStepsModel", "act", "(IZ)V"⟩, 31), (⟨"VisitorStepsModel", "distance", "(II)I"⟩, 31), (⟨"VisitorStepsModel", "nearest", "(I)I"⟩, 31), (⟨"VisitorStepsModel", "chosen", "(I)I"⟩, 31), (⟨"VisitorStepsModel", "many", "(I)I"⟩, 31), (⟨"VisitorStepsModel", "key", "(I)I"⟩, 31)]
theorem lw_r2 : ∀ q ∈ lw_privs_2, lw_okq q := List.forall_mem_cons.mpr ⟨lw_p16, List.forall_mem_cons.mpr ⟨lw_p17, List.forall_mem_cons.mpr ⟨lw_p18, List.forall_mem_cons.mpr ⟨lw_p19, List.forall_mem_cons.mpr ⟨lw_p20, List.forall_mem_cons.mpr ⟨lw_p21, List.forall_mem_cons.mpr ⟨lw_p22, List.forall_mem_cons.mpr ⟨lw_p23, List.forall_mem_cons.mpr ⟨lw_p24, List.forall_mem_cons.mpr ⟨lw_p25, List.forall_mem_cons.mpr ⟨lw_p26, List.forall_mem_cons.mpr ⟨lw_p27, List.forall_mem_cons.mpr ⟨lw_p28, List.forall_mem_cons.mpr ⟨lw_p29, List.forall_mem_cons.mpr ⟨lw_p30, List.forall_mem_cons.mpr ⟨lw_p31, fun _ h => absurd h List.not_mem_nil⟩⟩⟩⟩⟩⟩⟩⟩⟩⟩⟩⟩⟩⟩⟩⟩
theorem lw_p32 : lw_okq (⟨"VisitorStepsModel", "next", "(II)I"⟩, 31) := ⟨⟨by decide +kernel, by decide +kernel⟩, List.mem_of_getElem? (i := 628) (by decide +kernel), List.mem_of_getElem? (i := 820) (by decide +kernel), List.mem_of_getElem? (i := 821) (by decide +kernel)⟩
theorem lw_p33 : lw_okq (⟨"VisitorStepsModel", "look", "(I)V"⟩, 31) := ⟨⟨by decide +kernel, by decide +kernel⟩, List.mem_of_getElem? (i := 628) (by decide +kernel), List.mem_of_getElem? (i := 824) (by decide +kernel), List.mem_of_getElem? (i := 825) (by decide +kernel)⟩
theorem lw_p34 : lw_okq (⟨"VisitorStepsModel", "isReady", "(II)Z"⟩, 31) := ⟨⟨by decide +kernel, by decide +kernel⟩, List.mem_of_getElem? (i := 628) (by decide +kernel), List.mem_of_getElem? (i := 828) (by decide +kernel), List.mem_of_getElem? (i := 829) (by decide +kernel)⟩
theorem lw_p35 : lw_okq (⟨"VisitorStepsModel", "inside", "()I"⟩, 31) := ⟨⟨by decide +kernel, by decide +kernel⟩, List.mem_of_getElem? (i := 628) (by decide +kernel), List.mem_of_getElem? (i := 832) (by decide +kernel), List.mem_of_getElem? (i := 833) (by decide +kernel)⟩
theorem lw_p36 : lw_okq (⟨"VisitorStepsModel", "isVisitor", "(I)Z"⟩, 31) := ⟨⟨by decide +kernel, by decide +kernel⟩, List.mem_of_getElem? (i := 628) (by decide +kernel), List.mem_of_getElem? (i := 840) (by decide +kernel), List.mem_of_getElem? (i := 841) (by decide +kernel)⟩
theorem lw_p37 : lw_okq (⟨"VisitorStepsModel", "seenOf", "(I)I"⟩, 31) := ⟨⟨by decide +kernel, by decide +kernel⟩, List.mem_of_getElem? (i := 628) (by decide +kernel), List.mem_of_getElem? (i := 864) (by decide +kernel), List.mem_of_getElem? (i := 865) (by decide +kernel)⟩
theorem lw_p38 : lw_okq (⟨"VisitorStepsModel", "keep", "()V"⟩, 31) := ⟨⟨by decide +kernel, by decide +kernel⟩, List.mem_of_getElem? (i := 628) (by decide +kernel), List.mem_of_getElem? (i := 876) (by decide +kernel), List.mem_of_getElem? (i := 877) (by decide +kernel)⟩
theorem lw_p39 : lw_okq (⟨"VisitorStepsModel", "putBack", "()V"⟩, 31) := ⟨⟨by decide +kernel, by decide +kernel⟩, List.mem_of_getElem? (i := 628) (by decide +kernel), List.mem_of_getElem? (i := 880) (by decide +kernel), List.mem_of_getElem? (i := 881) (by decide +kernel)⟩
theorem lw_p40 : lw_okq (⟨"VisitorStepsModel", "anew", "()I"⟩, 31) := ⟨⟨by decide +kernel, by decide +kernel⟩, List.mem_of_getElem? (i := 628) (by decide +kernel), List.mem_of_getElem? (i := 892) (by decide +kernel), List.mem_of_getElem? (i := 893) (by decide +kernel)⟩
theorem lw_p41 : lw_okq (⟨"VisitorStepsModel", "tries", "(II)Z"⟩, 31) := ⟨⟨by decide +kernel, by decide +kernel⟩, List.mem_of_getElem? (i := 628) (by decide +kernel), List.mem_of_getElem? (i := 900) (by decide +kernel), List.mem_of_getElem? (i := 901) (by decide +kernel)⟩
def lw_privs_3 : List (MethodName × Nat) := [(⟨"VisitorStepsModel", "next", "(II)I"⟩, 31), (⟨"VisitorStepsModel", "look", "(I)V"⟩, 31), (⟨"VisitorStepsModel", "isReady", "(II)Z"⟩, 31), (⟨"VisitorStepsModel", "inside", "()I"⟩, 31), (⟨"VisitorStepsModel", "isVisitor", "(I)Z"⟩, 31), (⟨"VisitorStepsModel", "seenOf", "(I)I"⟩, 31), (⟨"VisitorStepsModel", "keep", "()V"⟩, 31), (⟨"VisitorStepsModel", "putBack", "()V"⟩, 31), (⟨"VisitorStepsModel", "anew", "()I"⟩, 31), (⟨"VisitorStepsModel", "tries", "(II)Z"⟩, 31)]
theorem lw_r3 : ∀ q ∈ lw_privs_3, lw_okq q := List.forall_mem_cons.mpr ⟨lw_p32, List.forall_mem_cons.mpr ⟨lw_p33, List.forall_mem_cons.mpr ⟨lw_p34, List.forall_mem_cons.mpr ⟨lw_p35, List.forall_mem_cons.mpr ⟨lw_p36, List.forall_mem_cons.mpr ⟨lw_p37, List.forall_mem_cons.mpr ⟨lw_p38, List.forall_mem_cons.mpr ⟨lw_p39, List.forall_mem_cons.mpr ⟨lw_p40, List.forall_mem_cons.mpr ⟨lw_p41, fun _ h => absurd h List.not_mem_nil⟩⟩⟩⟩⟩⟩⟩⟩⟩⟩
def lw_privs : List (MethodName × Nat) := lw_privs_1 ++ (lw_privs_2 ++ (lw_privs_3))
def lw_tbl : List Cond := k2_sels lw_privs ++ tables_1
theorem lw_privs_ok : ∀ q ∈ lw_privs, lw_okq q := by
  show ∀ q ∈ lw_privs_1 ++ (lw_privs_2 ++ (lw_privs_3)), lw_okq q
  exact List.forall_mem_append.mpr ⟨lw_r1, List.forall_mem_append.mpr ⟨lw_r2, lw_r3⟩⟩
-- ===== end of PART A; then your names; then what follows =====
end
section
/-! CORE: a pure heap over the machine's heap, and a walk over it. S0: the law's own start; z0: its heap's size; cells below z0 never change. -/
abbrev px_V : Type := (Nat → Int32) ⊕ (Nat → Option Nat) ⊕ (Nat → Int64)
abbrev px_A : Type := FieldType × Nat × px_V
abbrev px_E : Type := px_A ⊕ (Nat × List Value)
abbrev px_H : Type := Nat × (Nat → Option px_E)
def px_con (q : px_V) (j : Nat) : Value := match q with
  | .inl f => .int (f j)
  | .inr (.inl f) => va_rf (f j)
  | .inr (.inr f) => .long (f j)
def px_at (D : va_G) (cl : List vw_C) (s : State) (a : Nat) (e : px_E) (H : Heap) : Prop := match e with
  | .inl q => ∃ cell : Cell, H[a]? = some cell ∧ s.isArrayOf cell q.1 ∧ va_RA s cell.cls q.1 ∧ cell.vm ≠ .unknown ∧ cell.slots.size = q.2.1 ∧ ∀ j : Nat, j < q.2.1 → cell.slots[j]? = some (px_con q.2.2 j)
  | .inr o => ∃ r : vw_C, cl[o.1]? = some r ∧ o.2.length = r.2.2 ∧ t_OB a (D.1 o.1) r.2.2 (D.2 o.1) H (vp_V o.2)
theorem px_at.kept {D : va_G} {cl : List vw_C} {s : State} {a : Nat} {e : px_E} {H H1 : Heap} (h : px_at D cl s a e H) (hq : H1[a]? = H[a]?) : px_at D cl s a e H1 := by
  cases e with
  | inl q =>
    obtain ⟨cell, h1, h2⟩ := h
    exact ⟨cell, hq.trans h1, h2⟩
  | inr o =>
    obtain ⟨r, h1, h2, h3⟩ := h
    exact ⟨r, h1, h2, h3.kept hq⟩
theorem px_at.lt {D : va_G} {cl : List vw_C} {s : State} {a : Nat} {e : px_E} {H : Heap} (h : px_at D cl s a e H) : a < H.size := by
  cases e with
  | inl q =>
    obtain ⟨cell, h1, -⟩ := h
    exact (Array.getElem?_eq_some_iff.mp h1).1
  | inr o =>
    obtain ⟨r, -, -, cell, h1, -⟩ := h
    exact (Array.getElem?_eq_some_iff.mp h1).1
theorem px_at.moved {D : va_G} {cl : List vw_C} {s U : State} {a : Nat} {e : px_E} {H : Heap} (hvm : s.vm.Alike U.vm) (h : px_at D cl s a e H) : px_at D cl U a e H := by
  cases e with
  | inl q =>
    obtain ⟨cell, h1, h2, h3, h4⟩ := h
    exact ⟨cell, h1, State.isArrayOf_alike hvm h2, h3.moved hvm, h4⟩
  | inr o => exact h
def px_wr (π : px_H) (a : Nat) (e : px_E) : px_H := (π.1, fun q => if q = a then some e else π.2 q)
def px_nw (π : px_H) (e : px_E) : px_H := (π.1 + 1, fun q => if q = π.1 then some e else π.2 q)
def px_rd (ρ : Nat → Option px_E) (π : px_H) (a : Nat) : Option px_E := match π.2 a with
  | some e => some e
  | none => ρ a
theorem px_rd_of {ρ : Nat → Option px_E} {π : px_H} {a : Nat} {e : px_E} (h : π.2 a = some e) : px_rd ρ π a = some e := by
  unfold px_rd
  rw [h]
theorem px_wr_self {π : px_H} {a : Nat} {e : px_E} : (px_wr π a e).2 a = some e := by simp [px_wr]
theorem px_wr_ne {π : px_H} {a b : Nat} {e : px_E} (h : b ≠ a) : (px_wr π a e).2 b = π.2 b := by simp [px_wr, h]
theorem px_wr_size {π : px_H} {a : Nat} {e : px_E} : (px_wr π a e).1 = π.1 := rfl
theorem px_nw_self {π : px_H} {e : px_E} : (px_nw π e).2 π.1 = some e := by simp [px_nw]
theorem px_nw_ne {π : px_H} {b : Nat} {e : px_E} (h : b ≠ π.1) : (px_nw π e).2 b = π.2 b := by simp [px_nw, h]
/-- the machine's heap holds the pure one -/
def px_M (S0 : State) (D : va_G) (cl : List vw_C) (z0 : Nat) (π : px_H) (H : Heap) : Prop :=
  π.1 = H.size ∧ z0 ≤ H.size ∧ (∀ q : Nat, q < z0 → H[q]? = S0.heap[q]?) ∧ ∀ (a : Nat) (e : px_E), π.2 a = some e → z0 ≤ a ∧ px_at D cl S0 a e H
theorem px_M.wr {S0 : State} {D : va_G} {cl : List vw_C} {z0 : Nat} {π : px_H} {H H' : Heap} (h : px_M S0 D cl z0 π H) {a : Nat} {e e' : px_E} (ha : π.2 a = some e) (h1 : px_at D cl S0 a e' H') (hz : H'.size = H.size) (ho : ∀ q, q ≠ a → H'[q]? = H[q]?) : px_M S0 D cl z0 (px_wr π a e') H' := by
  obtain ⟨m1, m2, m3, m4⟩ := h
  have hza := (m4 _ _ ha).1
  refine ⟨by rw [hz]; exact m1, by omega, fun q hq => (ho q (by omega)).trans (m3 q hq), fun b f hb => ?_⟩
  by_cases hba : b = a
  · subst hba
    rw [px_wr_self] at hb
    cases hb
    exact ⟨hza, h1⟩
  · rw [px_wr_ne hba] at hb
    exact ⟨(m4 _ _ hb).1, (m4 _ _ hb).2.kept (ho b hba)⟩
theorem px_M.nw {S0 : State} {D : va_G} {cl : List vw_C} {z0 : Nat} {π : px_H} {H H' : Heap} (h : px_M S0 D cl z0 π H) {e' : px_E} (h1 : px_at D cl S0 H.size e' H') (hz : H'.size = H.size + 1) (ho : ∀ q, q < H.size → H'[q]? = H[q]?) : px_M S0 D cl z0 (px_nw π e') H' := by
  obtain ⟨m1, m2, m3, m4⟩ := h
  refine ⟨by show π.1 + 1 = _; rw [hz, m1], by omega, fun q hq => (ho q (by omega)).trans (m3 q hq), fun b f hb => ?_⟩
  by_cases hba : b = π.1
  · subst hba
    rw [px_nw_self] at hb
    cases hb
    rw [m1]
    exact ⟨m2, h1⟩
  · rw [px_nw_ne hba] at hb
    exact ⟨(m4 _ _ hb).1, (m4 _ _ hb).2.kept (ho b (m4 _ _ hb).2.lt)⟩
/-- what holds once and for all of the start -/
def px_Z (S0 : State) (D : va_G) (cl : List vw_C) (z0 : Nat) (ρ : Nat → Option px_E) (Ts : List Cond) : Prop :=
  (∀ w ∈ Ts, ∀ (a' : Array Value) (U : State), S0.WarmedH U.vm → w.before a' U = true) ∧ va_K D cl [] S0 ∧ ∀ (a : Nat) (e : px_E), ρ a = some e → a < z0 ∧ px_at D cl S0 a e S0.heap
def px_W (S0 : State) (D : va_G) (cl : List vw_C) (z0 : Nat) (π : px_H) (U : State) : Prop := S0.WarmedH U.vm ∧ px_M S0 D cl z0 π U.heap
theorem px_word {S0 : State} {D : va_G} {cl : List vw_C} {z0 : Nat} {ρ : Nat → Option px_E} {Ts : List Cond} (hZ : px_Z S0 D cl z0 ρ Ts) {U : State} (hW : S0.WarmedH U.vm) (a' : Array Value) {w : Cond} (hw : w ∈ Ts) : w.before a' U = true := hZ.1 w hw a' U hW
/-- the locals -/
def px_L (nL : Nat) (ls : List (Option Value)) (lsA : Array Slot) : Prop := lsA.size = nL ∧ lv_wf lsA ∧ ls.length = nL ∧ ∀ (i : Nat) (v : Value), ls[i]? = some (some v) → v.category = 1 ∧ lsA[i]? = some (.val v)
def px_lv (ls : List (Option Value)) : List (Nat × Value) := (List.range ls.length).filterMap (fun i => (ls[i]?.join).map (fun v => (i, v)))
theorem px_lv_mem {ls : List (Option Value)} {q : Nat × Value} : q ∈ px_lv ls ↔ ls[q.1]? = some (some q.2) := by
  unfold px_lv
  rw [List.mem_filterMap]
  constructor
  · rintro ⟨i, -, h⟩
    cases hi : ls[i]? with
    | none => rw [hi] at h; simp at h
    | some x =>
      cases x with
      | none => rw [hi] at h; simp at h
      | some v =>
        rw [hi] at h
        simp at h
        subst h
        exact hi
  · intro h
    refine ⟨q.1, List.mem_range.mpr (List.getElem?_eq_some_iff.mp h).1, ?_⟩
    rw [h]
    rfl
theorem px_L.has {nL : Nat} {ls : List (Option Value)} {lsA : Array Slot} (h : px_L nL ls lsA) : lv_has lsA nL (px_lv ls) := ⟨h.1, h.2.1, fun q hq => (h.2.2.2 q.1 q.2 (px_lv_mem.mp hq)).2⟩
theorem px_L.store {nL : Nat} {ls : List (Option Value)} {lsA lsA' : Array Slot} (h : px_L nL ls lsA) {i : Nat} {v : Value} (hi : i < ls.length) (hc : v.category = 1) (h' : lv_has lsA' nL ((i, v) :: (px_lv ls).filter (fun q => !(q.1 == i) && !(q.1 + 1 == i && q.2.category == 2)))) : px_L nL (ls.set i (some v)) lsA' := by
  refine ⟨h'.1, h'.2.1, by rw [List.length_set]; exact h.2.2.1, fun j w hj => ?_⟩
  by_cases hji : j = i
  · subst hji
    rw [List.getElem?_set_self hi] at hj
    cases hj
    exact ⟨hc, h'.2.2 (j, v) List.mem_cons_self⟩
  · rw [List.getElem?_set_ne (fun q => hji q.symm)] at hj
    have hw := (h.2.2.2 j w hj).1
    refine ⟨hw, h'.2.2 (j, w) (List.mem_cons_of_mem _ (List.mem_filter.mpr ⟨px_lv_mem.mpr hj, ?_⟩))⟩
    simp [hji, hw]
theorem px_L.rd {nL : Nat} {ls : List (Option Value)} {lsA : Array Slot} (h : px_L nL ls lsA) {i : Nat} {v : Value} (hi : ls[i]? = some (some v)) : lsA[i]? = some (.val v) := (h.2.2.2 i v hi).2
end
section
/-! RULES: px_G goes on, instruction by instruction -/
abbrev px_Cm : Type := Program × Launch × Env × Room × State × MethodId × Array Value × List Frame × Method × Code
abbrev px_Cm.p (Γ : px_Cm) : Program := Γ.1
abbrev px_Cm.l (Γ : px_Cm) : Launch := Γ.2.1
abbrev px_Cm.e (Γ : px_Cm) : Env := Γ.2.2.1
abbrev px_Cm.R (Γ : px_Cm) : Room := Γ.2.2.2.1
abbrev px_Cm.s (Γ : px_Cm) : State := Γ.2.2.2.2.1
abbrev px_Cm.m (Γ : px_Cm) : MethodId := Γ.2.2.2.2.2.1
abbrev px_Cm.args (Γ : px_Cm) : Array Value := Γ.2.2.2.2.2.2.1
abbrev px_Cm.below (Γ : px_Cm) : List Frame := Γ.2.2.2.2.2.2.2.1
abbrev px_Cm.meth (Γ : px_Cm) : Method := Γ.2.2.2.2.2.2.2.2.1
abbrev px_Cm.c (Γ : px_Cm) : Code := Γ.2.2.2.2.2.2.2.2.2
abbrev px_Cg : Type := State × va_G × List vw_C × Nat × (Nat → Option px_E) × List Cond
abbrev px_Cg.S0 (G : px_Cg) : State := G.1
abbrev px_Cg.D (G : px_Cg) : va_G := G.2.1
abbrev px_Cg.cl (G : px_Cg) : List vw_C := G.2.2.1
abbrev px_Cg.z0 (G : px_Cg) : Nat := G.2.2.2.1
abbrev px_Cg.ρ (G : px_Cg) : Nat → Option px_E := G.2.2.2.2.1
abbrev px_Cg.Ts (G : px_Cg) : List Cond := G.2.2.2.2.2
def px_fr (G : px_Cg) (w : Bool) (q : Nat) : Prop := w = true ∧ G.z0 ≤ q
def px_G (Γ : px_Cm) (G : px_Cg) (Q : State → Prop) (w : Bool) (nc ns pc : Nat) (ls : List (Option Value)) (st : List Value) (π : px_H) : Prop :=
  ∀ (H : Heap) (lsA : Array Slot) (locs : List Loc), px_L Γ.c.maxLocals ls lsA → px_M G.S0 G.D G.cl G.z0 π H → (∀ q ∈ locs, px_fr G w q.base) →
    W Γ.p Γ.l Γ.e Γ.R Γ.s Γ.m Γ.args Γ.below Γ.meth Γ.c H locs nc ns Q (F0 Γ.m pc lsA st)
def px_X (Γ : px_Cm) (G : px_Cg) (cc : ByteArray) (own : String) : Prop :=
  Γ.p.tables.exec = Jvm.exec ∧ Γ.c.code = cc ∧ Γ.s.vm.findClass own = some Γ.m.cls ∧ G.S0.WarmedH Γ.s.vm ∧ px_Z G.S0 G.D G.cl G.z0 G.ρ G.Ts
def px_D (cc : ByteArray) (pc : Nat) (i : Instr) (n q : Nat) : Prop := decode cc pc = .ok (i, n) ∧ pc + n = q
def px_J (cc : ByteArray) (pc : Nat) (i : Instr) (n q : Nat) (off : Int) (tgt : Nat) : Prop := decode cc pc = .ok (i, n) ∧ pc + n = q ∧ (pc : Int) + off = (tgt : Int)
section PGR
variable {Γ : px_Cm} {G : px_Cg} {Q : State → Prop} {cc : ByteArray} {own : String} {w : Bool} {nc ns pc q : Nat} {ls : List (Option Value)} {st : List Value} {π : px_H}
theorem px_X.word (X : px_X Γ G cc own) {w : Cond} (hw : w ∈ G.Ts) : w.before Γ.args Γ.s = true := px_word X.2.2.2.2 X.2.2.2.1 _ hw
theorem px_X.al (X : px_X Γ G cc own) : G.S0.vm.Alike Γ.s.vm := X.2.2.2.1.alike
theorem px_X.K (X : px_X Γ G cc own) : va_K G.D G.cl [] Γ.s := va_K.moved X.al X.2.2.2.2.2.1
theorem px_X.rd (X : px_X Γ G cc own) {H : Heap} (hM : px_M G.S0 G.D G.cl G.z0 π H) {a : Nat} {e : px_E} (hr : px_rd G.ρ π a = some e) : px_at G.D G.cl Γ.s a e H := by
  unfold px_rd at hr
  cases h : π.2 a with
  | some e' =>
    rw [h] at hr
    cases hr
    exact (hM.2.2.2 a e h).2.moved X.al
  | none =>
    rw [h] at hr
    obtain ⟨h1, h2⟩ := X.2.2.2.2.2.2 a e hr
    exact (h2.kept (hM.2.2.1 a h1)).moved X.al

theorem pg_iconst (X : px_X Γ G cc own) {n : Int} (v : Int32) (hd : px_D cc pc (.iconst n) 1 q) (hv : Int32.ofInt n = v) (k : px_G Γ G Q w nc ns q ls (.int v :: st) π) : px_G Γ G Q w nc ns pc ls (st) π := by
  obtain ⟨hd, rfl⟩ := hd
  exact fun H lsA locs hL hM hl => lv_iconst X.1 X.2.1 hd hv (k H lsA locs hL hM hl)
theorem pg_bipush (X : px_X Γ G cc own) {n : Int} (v : Int32) (hd : px_D cc pc (.bipush n) 2 q) (hv : (Int8.ofInt n).toInt32 = v) (k : px_G Γ G Q w nc ns q ls (.int v :: st) π) : px_G Γ G Q w nc ns pc ls (st) π := by
  obtain ⟨hd, rfl⟩ := hd
  exact fun H lsA locs hL hM hl => lv_bipush X.1 X.2.1 hd hv (k H lsA locs hL hM hl)
theorem pg_sipush (X : px_X Γ G cc own) {n : Int} (v : Int32) (hd : px_D cc pc (.sipush n) 3 q) (hv : (Int16.ofInt n).toInt32 = v) (k : px_G Γ G Q w nc ns q ls (.int v :: st) π) : px_G Γ G Q w nc ns pc ls (st) π := by
  obtain ⟨hd, rfl⟩ := hd
  exact fun H lsA locs hL hM hl => lv_sipush X.1 X.2.1 hd hv (k H lsA locs hL hM hl)
theorem pg_ldc (X : px_X Γ G cc own) {index : Nat} (v : Int32) (hd : px_D cc pc (.ldc index) 2 q) (hw : Cond.constant own index v ∈ G.Ts) (k : px_G Γ G Q w nc ns q ls (.int v :: st) π) : px_G Γ G Q w nc ns pc ls (st) π := by
  obtain ⟨hd, rfl⟩ := hd
  exact fun H lsA locs hL hM hl => lv_ldc X.1 X.2.1 X.2.2.1 (X.word hw) hd (k H lsA locs hL hM hl)
theorem pg_iload_n (X : px_X Γ G cc own) {k : Fin 4} {x : Int32} (hd : px_D cc pc (.iload_n k) 1 q) (hr : ls[(k : Nat)]? = some (some (.int x))) (k : px_G Γ G Q w nc ns q ls (.int x :: st) π) : px_G Γ G Q w nc ns pc ls (st) π := by
  obtain ⟨hd, rfl⟩ := hd
  exact fun H lsA locs hL hM hl => lv_iload_n X.1 X.2.1 hd rfl (hL.rd hr) (k H lsA locs hL hM hl)
theorem pg_iload (X : px_X Γ G cc own) {i : Nat} {x : Int32} (hd : px_D cc pc (.iload i) 2 q) (hr : ls[i]? = some (some (.int x))) (k : px_G Γ G Q w nc ns q ls (.int x :: st) π) : px_G Γ G Q w nc ns pc ls (st) π := by
  obtain ⟨hd, rfl⟩ := hd
  exact fun H lsA locs hL hM hl => lv_iload X.1 X.2.1 hd (hL.rd hr) (k H lsA locs hL hM hl)
theorem pg_aload_n (X : px_X Γ G cc own) {k : Fin 4} {x : Nat} (hd : px_D cc pc (.aload_n k) 1 q) (hr : ls[(k : Nat)]? = some (some (.ref x))) (k : px_G Γ G Q w nc ns q ls (.ref x :: st) π) : px_G Γ G Q w nc ns pc ls (st) π := by
  obtain ⟨hd, rfl⟩ := hd
  exact fun H lsA locs hL hM hl => lv_aload_n X.1 X.2.1 hd rfl (hL.rd hr) (k H lsA locs hL hM hl)
theorem pg_aload (X : px_X Γ G cc own) {i : Nat} {x : Nat} (hd : px_D cc pc (.aload i) 2 q) (hr : ls[i]? = some (some (.ref x))) (k : px_G Γ G Q w nc ns q ls (.ref x :: st) π) : px_G Γ G Q w nc ns pc ls (st) π := by
  obtain ⟨hd, rfl⟩ := hd
  exact fun H lsA locs hL hM hl => lv_aload X.1 X.2.1 hd (hL.rd hr) (k H lsA locs hL hM hl)
theorem pg_iadd (X : px_X Γ G cc own) {x y : Int32} (hd : px_D cc pc .iadd 1 q)  (k : px_G Γ G Q w nc ns q ls (.int (x + y) :: st) π) : px_G Γ G Q w nc ns pc ls (.int y :: .int x :: st) π := by
  obtain ⟨hd, rfl⟩ := hd
  exact fun H lsA locs hL hM hl => lv_iadd X.1 X.2.1 hd (k H lsA locs hL hM hl)
theorem pg_isub (X : px_X Γ G cc own) {x y : Int32} (hd : px_D cc pc .isub 1 q)  (k : px_G Γ G Q w nc ns q ls (.int (x - y) :: st) π) : px_G Γ G Q w nc ns pc ls (.int y :: .int x :: st) π := by
  obtain ⟨hd, rfl⟩ := hd
  exact fun H lsA locs hL hM hl => lv_isub X.1 X.2.1 hd (k H lsA locs hL hM hl)
theorem pg_imul (X : px_X Γ G cc own) {x y : Int32} (hd : px_D cc pc .imul 1 q)  (k : px_G Γ G Q w nc ns q ls (.int (x * y) :: st) π) : px_G Γ G Q w nc ns pc ls (.int y :: .int x :: st) π := by
  obtain ⟨hd, rfl⟩ := hd
  exact fun H lsA locs hL hM hl => lv_imul X.1 X.2.1 hd (k H lsA locs hL hM hl)
theorem pg_iand (X : px_X Γ G cc own) {x y : Int32} (hd : px_D cc pc .iand 1 q)  (k : px_G Γ G Q w nc ns q ls (.int (x &&& y) :: st) π) : px_G Γ G Q w nc ns pc ls (.int y :: .int x :: st) π := by
  obtain ⟨hd, rfl⟩ := hd
  exact fun H lsA locs hL hM hl => lv_iand X.1 X.2.1 hd (k H lsA locs hL hM hl)
theorem pg_ior (X : px_X Γ G cc own) {x y : Int32} (hd : px_D cc pc .ior 1 q)  (k : px_G Γ G Q w nc ns q ls (.int (x ||| y) :: st) π) : px_G Γ G Q w nc ns pc ls (.int y :: .int x :: st) π := by
  obtain ⟨hd, rfl⟩ := hd
  exact fun H lsA locs hL hM hl => lv_ior X.1 X.2.1 hd (k H lsA locs hL hM hl)
theorem pg_ixor (X : px_X Γ G cc own) {x y : Int32} (hd : px_D cc pc .ixor 1 q)  (k : px_G Γ G Q w nc ns q ls (.int (x ^^^ y) :: st) π) : px_G Γ G Q w nc ns pc ls (.int y :: .int x :: st) π := by
  obtain ⟨hd, rfl⟩ := hd
  exact fun H lsA locs hL hM hl => lv_ixor X.1 X.2.1 hd (k H lsA locs hL hM hl)
theorem pg_ishl (X : px_X Γ G cc own) {x y : Int32} (hd : px_D cc pc .ishl 1 q)  (k : px_G Γ G Q w nc ns q ls (.int (x <<< (y &&& 31)) :: st) π) : px_G Γ G Q w nc ns pc ls (.int y :: .int x :: st) π := by
  obtain ⟨hd, rfl⟩ := hd
  exact fun H lsA locs hL hM hl => lv_ishl X.1 X.2.1 hd (k H lsA locs hL hM hl)
theorem pg_ishr (X : px_X Γ G cc own) {x y : Int32} (hd : px_D cc pc .ishr 1 q)  (k : px_G Γ G Q w nc ns q ls (.int (x >>> (y &&& 31)) :: st) π) : px_G Γ G Q w nc ns pc ls (.int y :: .int x :: st) π := by
  obtain ⟨hd, rfl⟩ := hd
  exact fun H lsA locs hL hM hl => lv_ishr X.1 X.2.1 hd (k H lsA locs hL hM hl)
theorem pg_idiv (X : px_X Γ G cc own) {x y : Int32} (hd : px_D cc pc .idiv 1 q) (hne : ¬ y = 0) (k : px_G Γ G Q w nc ns q ls (.int (x / y) :: st) π) : px_G Γ G Q w nc ns pc ls (.int y :: .int x :: st) π := by
  obtain ⟨hd, rfl⟩ := hd
  exact fun H lsA locs hL hM hl => lv_idiv X.1 X.2.1 hd hne (k H lsA locs hL hM hl)
theorem pg_irem (X : px_X Γ G cc own) {x y : Int32} (hd : px_D cc pc .irem 1 q) (hne : ¬ y = 0) (k : px_G Γ G Q w nc ns q ls (.int (x - x / y * y) :: st) π) : px_G Γ G Q w nc ns pc ls (.int y :: .int x :: st) π := by
  obtain ⟨hd, rfl⟩ := hd
  exact fun H lsA locs hL hM hl => lv_irem X.1 X.2.1 hd hne (k H lsA locs hL hM hl)
theorem pg_ineg (X : px_X Γ G cc own) {x : Int32} (hd : px_D cc pc .ineg 1 q)  (k : px_G Γ G Q w nc ns q ls (.int (-x) :: st) π) : px_G Γ G Q w nc ns pc ls (.int x :: st) π := by
  obtain ⟨hd, rfl⟩ := hd
  exact fun H lsA locs hL hM hl => lv_ineg X.1 X.2.1 hd (k H lsA locs hL hM hl)
theorem pg_dup (X : px_X Γ G cc own) {va : Value} (hd : px_D cc pc .dup 1 q) (hc : va.category = 1) (k : px_G Γ G Q w nc ns q ls (va :: va :: st) π) : px_G Γ G Q w nc ns pc ls (va :: st) π := by
  obtain ⟨hd, rfl⟩ := hd
  exact fun H lsA locs hL hM hl => lv_dup X.1 X.2.1 hd hc (k H lsA locs hL hM hl)
theorem pg_pop (X : px_X Γ G cc own) {va : Value} (hd : px_D cc pc .pop 1 q) (hc : va.category = 1) (k : px_G Γ G Q w nc ns q ls (st) π) : px_G Γ G Q w nc ns pc ls (va :: st) π := by
  obtain ⟨hd, rfl⟩ := hd
  exact fun H lsA locs hL hM hl => lv_pop X.1 X.2.1 hd hc (k H lsA locs hL hM hl)
theorem pg_dup_x1 (X : px_X Γ G cc own) {va vb : Value} (hd : px_D cc pc .dup_x1 1 q) (hc : va.category = 1) (hc2 : vb.category = 1) (k : px_G Γ G Q w nc ns q ls (va :: vb :: va :: st) π) : px_G Γ G Q w nc ns pc ls (va :: vb :: st) π := by
  obtain ⟨hd, rfl⟩ := hd
  exact fun H lsA locs hL hM hl => lv_dup_x1 X.1 X.2.1 hd hc hc2 (k H lsA locs hL hM hl)
theorem pg_dup_x2 (X : px_X Γ G cc own) {va vb vc : Value} (hd : px_D cc pc .dup_x2 1 q) (hc : va.category = 1) (hc2 : vb.category = 1) (hc3 : vc.category = 1) (k : px_G Γ G Q w nc ns q ls (va :: vb :: vc :: va :: st) π) : px_G Γ G Q w nc ns pc ls (va :: vb :: vc :: st) π := by
  obtain ⟨hd, rfl⟩ := hd
  exact fun H lsA locs hL hM hl => lv_dup_x2 X.1 X.2.1 hd hc hc2 hc3 (k H lsA locs hL hM hl)
theorem pg_dup2 (X : px_X Γ G cc own) {va vb : Value} (hd : px_D cc pc .dup2 1 q) (hc : va.category = 1) (hc2 : vb.category = 1) (k : px_G Γ G Q w nc ns q ls (va :: vb :: va :: vb :: st) π) : px_G Γ G Q w nc ns pc ls (va :: vb :: st) π := by
  obtain ⟨hd, rfl⟩ := hd
  exact fun H lsA locs hL hM hl => lv_dup2_11 X.1 X.2.1 hd hc hc2 (k H lsA locs hL hM hl)
theorem pg_lconst (X : px_X Γ G cc own) {n : Fin 2} (v : Int64) (hd : px_D cc pc (.lconst n) 1 q) (hv : Int64.ofNat (n : Nat) = v) (k : px_G Γ G Q w nc ns q ls (.long v :: st) π) : px_G Γ G Q w nc ns pc ls (st) π := by
  obtain ⟨hd, rfl⟩ := hd
  exact fun H lsA locs hL hM hl => lv_lconst X.1 X.2.1 hd hv (k H lsA locs hL hM hl)
theorem pg_i2l (X : px_X Γ G cc own) {x : Int32} (hd : px_D cc pc .i2l 1 q)  (k : px_G Γ G Q w nc ns q ls (.long x.toInt64 :: st) π) : px_G Γ G Q w nc ns pc ls (.int x :: st) π := by
  obtain ⟨hd, rfl⟩ := hd
  exact fun H lsA locs hL hM hl => lv_i2l X.1 X.2.1 hd rfl (k H lsA locs hL hM hl)
theorem pg_lcmp (X : px_X Γ G cc own) {x y : Int64} (hd : px_D cc pc .lcmp 1 q)  (k : px_G Γ G Q w nc ns q ls (.int (lg_cmp x y) :: st) π) : px_G Γ G Q w nc ns pc ls (.long y :: .long x :: st) π := by
  obtain ⟨hd, rfl⟩ := hd
  exact fun H lsA locs hL hM hl => W.lcmp X.1 X.2.1 hd (k H lsA locs hL hM hl)
theorem px_storeG {x : Value} {i : Nat} (hi : i < ls.length) (hc : x.category = 1) (k : px_G Γ G Q w nc ns q (ls.set i (some x)) st π) {H : Heap} {lsA lsA' : Array Slot} {locs : List Loc} (hL : px_L Γ.c.maxLocals ls lsA) (hM : px_M G.S0 G.D G.cl G.z0 π H) (hl : ∀ q ∈ locs, px_fr G w q.base) (h : lv_has lsA' Γ.c.maxLocals ((i, x) :: (px_lv ls).filter (fun q => !(q.1 == i) && !(q.1 + 1 == i && q.2.category == 2)))) : W Γ.p Γ.l Γ.e Γ.R Γ.s Γ.m Γ.args Γ.below Γ.meth Γ.c H locs nc ns Q (F0 Γ.m q lsA' st) := k H lsA' locs (hL.store hi hc h) hM hl
theorem pg_istore_g (X : px_X Γ G cc own) {i : Nat} {x : Int32} (hd : px_D cc pc (.istore i) 2 q) (hi : i < ls.length) (k : px_G Γ G Q w nc ns q (ls.set i (some (.int x))) st π) : px_G Γ G Q w nc ns pc ls (.int x :: st) π := by
  obtain ⟨hd, rfl⟩ := hd
  exact fun H lsA locs hL hM hl => lv_istore X.1 X.2.1 hd hL.has (by rw [← hL.2.2.1]; exact hi) rfl (fun ls' h => px_storeG hi rfl k hL hM hl h)
theorem pg_istore_ng (X : px_X Γ G cc own) {i : Fin 4} {x : Int32} (hd : px_D cc pc (.istore_n i) 1 q) (hi : (i : Nat) < ls.length) (k : px_G Γ G Q w nc ns q (ls.set (i : Nat) (some (.int x))) st π) : px_G Γ G Q w nc ns pc ls (.int x :: st) π := by
  obtain ⟨hd, rfl⟩ := hd
  exact fun H lsA locs hL hM hl => lv_istore_n X.1 X.2.1 hd rfl hL.has (by rw [← hL.2.2.1]; exact hi) rfl (fun ls' h => px_storeG hi rfl k hL hM hl h)
theorem pg_istore0 (X : px_X Γ G cc own) {l0 : Option Value} {r : List (Option Value)} {x : Int32} (hd : px_D cc pc (.istore_n 0) 1 q) (k : px_G Γ G Q w nc ns q (some (.int x) :: r) st π) : px_G Γ G Q w nc ns pc (l0 :: r) (.int x :: st) π := pg_istore_ng X hd (by first | (simp; done) | (have h := (3 : Fin 4).isLt; simp only [List.length_cons]; omega)) k
theorem pg_istore1 (X : px_X Γ G cc own) {l0 l1 : Option Value} {r : List (Option Value)} {x : Int32} (hd : px_D cc pc (.istore_n 1) 1 q) (k : px_G Γ G Q w nc ns q (l0 :: some (.int x) :: r) st π) : px_G Γ G Q w nc ns pc (l0 :: l1 :: r) (.int x :: st) π := pg_istore_ng X hd (by first | (simp; done) | (have h := (3 : Fin 4).isLt; simp only [List.length_cons]; omega)) k
theorem pg_istore2 (X : px_X Γ G cc own) {l0 l1 l2 : Option Value} {r : List (Option Value)} {x : Int32} (hd : px_D cc pc (.istore_n 2) 1 q) (k : px_G Γ G Q w nc ns q (l0 :: l1 :: some (.int x) :: r) st π) : px_G Γ G Q w nc ns pc (l0 :: l1 :: l2 :: r) (.int x :: st) π := pg_istore_ng X hd (by first | (simp; done) | (have h := (3 : Fin 4).isLt; simp only [List.length_cons]; omega)) k
theorem pg_istore3 (X : px_X Γ G cc own) {l0 l1 l2 l3 : Option Value} {r : List (Option Value)} {x : Int32} (hd : px_D cc pc (.istore_n 3) 1 q) (k : px_G Γ G Q w nc ns q (l0 :: l1 :: l2 :: some (.int x) :: r) st π) : px_G Γ G Q w nc ns pc (l0 :: l1 :: l2 :: l3 :: r) (.int x :: st) π := pg_istore_ng X hd (by first | (simp; done) | (have h := (3 : Fin 4).isLt; simp only [List.length_cons]; omega)) k
theorem pg_istore4 (X : px_X Γ G cc own) {l0 l1 l2 l3 l4 : Option Value} {r : List (Option Value)} {x : Int32} (hd : px_D cc pc (.istore 4) 2 q) (k : px_G Γ G Q w nc ns q (l0 :: l1 :: l2 :: l3 :: some (.int x) :: r) st π) : px_G Γ G Q w nc ns pc (l0 :: l1 :: l2 :: l3 :: l4 :: r) (.int x :: st) π := pg_istore_g X hd (by first | (simp; done) | (have h := (3 : Fin 4).isLt; simp only [List.length_cons]; omega)) k
theorem pg_istore5 (X : px_X Γ G cc own) {l0 l1 l2 l3 l4 l5 : Option Value} {r : List (Option Value)} {x : Int32} (hd : px_D cc pc (.istore 5) 2 q) (k : px_G Γ G Q w nc ns q (l0 :: l1 :: l2 :: l3 :: l4 :: some (.int x) :: r) st π) : px_G Γ G Q w nc ns pc (l0 :: l1 :: l2 :: l3 :: l4 :: l5 :: r) (.int x :: st) π := pg_istore_g X hd (by first | (simp; done) | (have h := (3 : Fin 4).isLt; simp only [List.length_cons]; omega)) k
theorem pg_istore6 (X : px_X Γ G cc own) {l0 l1 l2 l3 l4 l5 l6 : Option Value} {r : List (Option Value)} {x : Int32} (hd : px_D cc pc (.istore 6) 2 q) (k : px_G Γ G Q w nc ns q (l0 :: l1 :: l2 :: l3 :: l4 :: l5 :: some (.int x) :: r) st π) : px_G Γ G Q w nc ns pc (l0 :: l1 :: l2 :: l3 :: l4 :: l5 :: l6 :: r) (.int x :: st) π := pg_istore_g X hd (by first | (simp; done) | (have h := (3 : Fin 4).isLt; simp only [List.length_cons]; omega)) k
theorem pg_istore7 (X : px_X Γ G cc own) {l0 l1 l2 l3 l4 l5 l6 l7 : Option Value} {r : List (Option Value)} {x : Int32} (hd : px_D cc pc (.istore 7) 2 q) (k : px_G Γ G Q w nc ns q (l0 :: l1 :: l2 :: l3 :: l4 :: l5 :: l6 :: some (.int x) :: r) st π) : px_G Γ G Q w nc ns pc (l0 :: l1 :: l2 :: l3 :: l4 :: l5 :: l6 :: l7 :: r) (.int x :: st) π := pg_istore_g X hd (by first | (simp; done) | (have h := (3 : Fin 4).isLt; simp only [List.length_cons]; omega)) k
theorem pg_istore8 (X : px_X Γ G cc own) {l0 l1 l2 l3 l4 l5 l6 l7 l8 : Option Value} {r : List (Option Value)} {x : Int32} (hd : px_D cc pc (.istore 8) 2 q) (k : px_G Γ G Q w nc ns q (l0 :: l1 :: l2 :: l3 :: l4 :: l5 :: l6 :: l7 :: some (.int x) :: r) st π) : px_G Γ G Q w nc ns pc (l0 :: l1 :: l2 :: l3 :: l4 :: l5 :: l6 :: l7 :: l8 :: r) (.int x :: st) π := pg_istore_g X hd (by first | (simp; done) | (have h := (3 : Fin 4).isLt; simp only [List.length_cons]; omega)) k
theorem pg_istore9 (X : px_X Γ G cc own) {l0 l1 l2 l3 l4 l5 l6 l7 l8 l9 : Option Value} {r : List (Option Value)} {x : Int32} (hd : px_D cc pc (.istore 9) 2 q) (k : px_G Γ G Q w nc ns q (l0 :: l1 :: l2 :: l3 :: l4 :: l5 :: l6 :: l7 :: l8 :: some (.int x) :: r) st π) : px_G Γ G Q w nc ns pc (l0 :: l1 :: l2 :: l3 :: l4 :: l5 :: l6 :: l7 :: l8 :: l9 :: r) (.int x :: st) π := pg_istore_g X hd (by first | (simp; done) | (have h := (3 : Fin 4).isLt; simp only [List.length_cons]; omega)) k
theorem pg_istore10 (X : px_X Γ G cc own) {l0 l1 l2 l3 l4 l5 l6 l7 l8 l9 l10 : Option Value} {r : List (Option Value)} {x : Int32} (hd : px_D cc pc (.istore 10) 2 q) (k : px_G Γ G Q w nc ns q (l0 :: l1 :: l2 :: l3 :: l4 :: l5 :: l6 :: l7 :: l8 :: l9 :: some (.int x) :: r) st π) : px_G Γ G Q w nc ns pc (l0 :: l1 :: l2 :: l3 :: l4 :: l5 :: l6 :: l7 :: l8 :: l9 :: l10 :: r) (.int x :: st) π := pg_istore_g X hd (by first | (simp; done) | (have h := (3 : Fin 4).isLt; simp only [List.length_cons]; omega)) k
theorem pg_istore11 (X : px_X Γ G cc own) {l0 l1 l2 l3 l4 l5 l6 l7 l8 l9 l10 l11 : Option Value} {r : List (Option Value)} {x : Int32} (hd : px_D cc pc (.istore 11) 2 q) (k : px_G Γ G Q w nc ns q (l0 :: l1 :: l2 :: l3 :: l4 :: l5 :: l6 :: l7 :: l8 :: l9 :: l10 :: some (.int x) :: r) st π) : px_G Γ G Q w nc ns pc (l0 :: l1 :: l2 :: l3 :: l4 :: l5 :: l6 :: l7 :: l8 :: l9 :: l10 :: l11 :: r) (.int x :: st) π := pg_istore_g X hd (by first | (simp; done) | (have h := (3 : Fin 4).isLt; simp only [List.length_cons]; omega)) k
theorem pg_istore12 (X : px_X Γ G cc own) {l0 l1 l2 l3 l4 l5 l6 l7 l8 l9 l10 l11 l12 : Option Value} {r : List (Option Value)} {x : Int32} (hd : px_D cc pc (.istore 12) 2 q) (k : px_G Γ G Q w nc ns q (l0 :: l1 :: l2 :: l3 :: l4 :: l5 :: l6 :: l7 :: l8 :: l9 :: l10 :: l11 :: some (.int x) :: r) st π) : px_G Γ G Q w nc ns pc (l0 :: l1 :: l2 :: l3 :: l4 :: l5 :: l6 :: l7 :: l8 :: l9 :: l10 :: l11 :: l12 :: r) (.int x :: st) π := pg_istore_g X hd (by first | (simp; done) | (have h := (3 : Fin 4).isLt; simp only [List.length_cons]; omega)) k
theorem pg_istore13 (X : px_X Γ G cc own) {l0 l1 l2 l3 l4 l5 l6 l7 l8 l9 l10 l11 l12 l13 : Option Value} {r : List (Option Value)} {x : Int32} (hd : px_D cc pc (.istore 13) 2 q) (k : px_G Γ G Q w nc ns q (l0 :: l1 :: l2 :: l3 :: l4 :: l5 :: l6 :: l7 :: l8 :: l9 :: l10 :: l11 :: l12 :: some (.int x) :: r) st π) : px_G Γ G Q w nc ns pc (l0 :: l1 :: l2 :: l3 :: l4 :: l5 :: l6 :: l7 :: l8 :: l9 :: l10 :: l11 :: l12 :: l13 :: r) (.int x :: st) π := pg_istore_g X hd (by first | (simp; done) | (have h := (3 : Fin 4).isLt; simp only [List.length_cons]; omega)) k
theorem pg_istore14 (X : px_X Γ G cc own) {l0 l1 l2 l3 l4 l5 l6 l7 l8 l9 l10 l11 l12 l13 l14 : Option Value} {r : List (Option Value)} {x : Int32} (hd : px_D cc pc (.istore 14) 2 q) (k : px_G Γ G Q w nc ns q (l0 :: l1 :: l2 :: l3 :: l4 :: l5 :: l6 :: l7 :: l8 :: l9 :: l10 :: l11 :: l12 :: l13 :: some (.int x) :: r) st π) : px_G Γ G Q w nc ns pc (l0 :: l1 :: l2 :: l3 :: l4 :: l5 :: l6 :: l7 :: l8 :: l9 :: l10 :: l11 :: l12 :: l13 :: l14 :: r) (.int x :: st) π := pg_istore_g X hd (by first | (simp; done) | (have h := (3 : Fin 4).isLt; simp only [List.length_cons]; omega)) k
theorem pg_istore15 (X : px_X Γ G cc own) {l0 l1 l2 l3 l4 l5 l6 l7 l8 l9 l10 l11 l12 l13 l14 l15 : Option Value} {r : List (Option Value)} {x : Int32} (hd : px_D cc pc (.istore 15) 2 q) (k : px_G Γ G Q w nc ns q (l0 :: l1 :: l2 :: l3 :: l4 :: l5 :: l6 :: l7 :: l8 :: l9 :: l10 :: l11 :: l12 :: l13 :: l14 :: some (.int x) :: r) st π) : px_G Γ G Q w nc ns pc (l0 :: l1 :: l2 :: l3 :: l4 :: l5 :: l6 :: l7 :: l8 :: l9 :: l10 :: l11 :: l12 :: l13 :: l14 :: l15 :: r) (.int x :: st) π := pg_istore_g X hd (by first | (simp; done) | (have h := (3 : Fin 4).isLt; simp only [List.length_cons]; omega)) k
theorem pg_istore16 (X : px_X Γ G cc own) {l0 l1 l2 l3 l4 l5 l6 l7 l8 l9 l10 l11 l12 l13 l14 l15 l16 : Option Value} {r : List (Option Value)} {x : Int32} (hd : px_D cc pc (.istore 16) 2 q) (k : px_G Γ G Q w nc ns q (l0 :: l1 :: l2 :: l3 :: l4 :: l5 :: l6 :: l7 :: l8 :: l9 :: l10 :: l11 :: l12 :: l13 :: l14 :: l15 :: some (.int x) :: r) st π) : px_G Γ G Q w nc ns pc (l0 :: l1 :: l2 :: l3 :: l4 :: l5 :: l6 :: l7 :: l8 :: l9 :: l10 :: l11 :: l12 :: l13 :: l14 :: l15 :: l16 :: r) (.int x :: st) π := pg_istore_g X hd (by first | (simp; done) | (have h := (3 : Fin 4).isLt; simp only [List.length_cons]; omega)) k
theorem pg_istore17 (X : px_X Γ G cc own) {l0 l1 l2 l3 l4 l5 l6 l7 l8 l9 l10 l11 l12 l13 l14 l15 l16 l17 : Option Value} {r : List (Option Value)} {x : Int32} (hd : px_D cc pc (.istore 17) 2 q) (k : px_G Γ G Q w nc ns q (l0 :: l1 :: l2 :: l3 :: l4 :: l5 :: l6 :: l7 :: l8 :: l9 :: l10 :: l11 :: l12 :: l13 :: l14 :: l15 :: l16 :: some (.int x) :: r) st π) : px_G Γ G Q w nc ns pc (l0 :: l1 :: l2 :: l3 :: l4 :: l5 :: l6 :: l7 :: l8 :: l9 :: l10 :: l11 :: l12 :: l13 :: l14 :: l15 :: l16 :: l17 :: r) (.int x :: st) π := pg_istore_g X hd (by first | (simp; done) | (have h := (3 : Fin 4).isLt; simp only [List.length_cons]; omega)) k
theorem pg_istore18 (X : px_X Γ G cc own) {l0 l1 l2 l3 l4 l5 l6 l7 l8 l9 l10 l11 l12 l13 l14 l15 l16 l17 l18 : Option Value} {r : List (Option Value)} {x : Int32} (hd : px_D cc pc (.istore 18) 2 q) (k : px_G Γ G Q w nc ns q (l0 :: l1 :: l2 :: l3 :: l4 :: l5 :: l6 :: l7 :: l8 :: l9 :: l10 :: l11 :: l12 :: l13 :: l14 :: l15 :: l16 :: l17 :: some (.int x) :: r) st π) : px_G Γ G Q w nc ns pc (l0 :: l1 :: l2 :: l3 :: l4 :: l5 :: l6 :: l7 :: l8 :: l9 :: l10 :: l11 :: l12 :: l13 :: l14 :: l15 :: l16 :: l17 :: l18 :: r) (.int x :: st) π := pg_istore_g X hd (by first | (simp; done) | (have h := (3 : Fin 4).isLt; simp only [List.length_cons]; omega)) k
theorem pg_istore19 (X : px_X Γ G cc own) {l0 l1 l2 l3 l4 l5 l6 l7 l8 l9 l10 l11 l12 l13 l14 l15 l16 l17 l18 l19 : Option Value} {r : List (Option Value)} {x : Int32} (hd : px_D cc pc (.istore 19) 2 q) (k : px_G Γ G Q w nc ns q (l0 :: l1 :: l2 :: l3 :: l4 :: l5 :: l6 :: l7 :: l8 :: l9 :: l10 :: l11 :: l12 :: l13 :: l14 :: l15 :: l16 :: l17 :: l18 :: some (.int x) :: r) st π) : px_G Γ G Q w nc ns pc (l0 :: l1 :: l2 :: l3 :: l4 :: l5 :: l6 :: l7 :: l8 :: l9 :: l10 :: l11 :: l12 :: l13 :: l14 :: l15 :: l16 :: l17 :: l18 :: l19 :: r) (.int x :: st) π := pg_istore_g X hd (by first | (simp; done) | (have h := (3 : Fin 4).isLt; simp only [List.length_cons]; omega)) k
theorem pg_astore_g (X : px_X Γ G cc own) {i : Nat} {x : Nat} (hd : px_D cc pc (.astore i) 2 q) (hi : i < ls.length) (k : px_G Γ G Q w nc ns q (ls.set i (some (.ref x))) st π) : px_G Γ G Q w nc ns pc ls (.ref x :: st) π := by
  obtain ⟨hd, rfl⟩ := hd
  exact fun H lsA locs hL hM hl => lv_astore X.1 X.2.1 hd hL.has (by rw [← hL.2.2.1]; exact hi) rfl (fun ls' h => px_storeG hi rfl k hL hM hl h)
theorem pg_astore_ng (X : px_X Γ G cc own) {i : Fin 4} {x : Nat} (hd : px_D cc pc (.astore_n i) 1 q) (hi : (i : Nat) < ls.length) (k : px_G Γ G Q w nc ns q (ls.set (i : Nat) (some (.ref x))) st π) : px_G Γ G Q w nc ns pc ls (.ref x :: st) π := by
  obtain ⟨hd, rfl⟩ := hd
  exact fun H lsA locs hL hM hl => lv_astore_n X.1 X.2.1 hd rfl hL.has (by rw [← hL.2.2.1]; exact hi) rfl (fun ls' h => px_storeG hi rfl k hL hM hl h)
theorem pg_astore0 (X : px_X Γ G cc own) {l0 : Option Value} {r : List (Option Value)} {x : Nat} (hd : px_D cc pc (.astore_n 0) 1 q) (k : px_G Γ G Q w nc ns q (some (.ref x) :: r) st π) : px_G Γ G Q w nc ns pc (l0 :: r) (.ref x :: st) π := pg_astore_ng X hd (by first | (simp; done) | (have h := (3 : Fin 4).isLt; simp only [List.length_cons]; omega)) k
theorem pg_astore1 (X : px_X Γ G cc own) {l0 l1 : Option Value} {r : List (Option Value)} {x : Nat} (hd : px_D cc pc (.astore_n 1) 1 q) (k : px_G Γ G Q w nc ns q (l0 :: some (.ref x) :: r) st π) : px_G Γ G Q w nc ns pc (l0 :: l1 :: r) (.ref x :: st) π := pg_astore_ng X hd (by first | (simp; done) | (have h := (3 : Fin 4).isLt; simp only [List.length_cons]; omega)) k
theorem pg_astore2 (X : px_X Γ G cc own) {l0 l1 l2 : Option Value} {r : List (Option Value)} {x : Nat} (hd : px_D cc pc (.astore_n 2) 1 q) (k : px_G Γ G Q w nc ns q (l0 :: l1 :: some (.ref x) :: r) st π) : px_G Γ G Q w nc ns pc (l0 :: l1 :: l2 :: r) (.ref x :: st) π := pg_astore_ng X hd (by first | (simp; done) | (have h := (3 : Fin 4).isLt; simp only [List.length_cons]; omega)) k
theorem pg_astore3 (X : px_X Γ G cc own) {l0 l1 l2 l3 : Option Value} {r : List (Option Value)} {x : Nat} (hd : px_D cc pc (.astore_n 3) 1 q) (k : px_G Γ G Q w nc ns q (l0 :: l1 :: l2 :: some (.ref x) :: r) st π) : px_G Γ G Q w nc ns pc (l0 :: l1 :: l2 :: l3 :: r) (.ref x :: st) π := pg_astore_ng X hd (by first | (simp; done) | (have h := (3 : Fin 4).isLt; simp only [List.length_cons]; omega)) k
theorem pg_astore4 (X : px_X Γ G cc own) {l0 l1 l2 l3 l4 : Option Value} {r : List (Option Value)} {x : Nat} (hd : px_D cc pc (.astore 4) 2 q) (k : px_G Γ G Q w nc ns q (l0 :: l1 :: l2 :: l3 :: some (.ref x) :: r) st π) : px_G Γ G Q w nc ns pc (l0 :: l1 :: l2 :: l3 :: l4 :: r) (.ref x :: st) π := pg_astore_g X hd (by first | (simp; done) | (have h := (3 : Fin 4).isLt; simp only [List.length_cons]; omega)) k
theorem pg_astore5 (X : px_X Γ G cc own) {l0 l1 l2 l3 l4 l5 : Option Value} {r : List (Option Value)} {x : Nat} (hd : px_D cc pc (.astore 5) 2 q) (k : px_G Γ G Q w nc ns q (l0 :: l1 :: l2 :: l3 :: l4 :: some (.ref x) :: r) st π) : px_G Γ G Q w nc ns pc (l0 :: l1 :: l2 :: l3 :: l4 :: l5 :: r) (.ref x :: st) π := pg_astore_g X hd (by first | (simp; done) | (have h := (3 : Fin 4).isLt; simp only [List.length_cons]; omega)) k
theorem pg_astore6 (X : px_X Γ G cc own) {l0 l1 l2 l3 l4 l5 l6 : Option Value} {r : List (Option Value)} {x : Nat} (hd : px_D cc pc (.astore 6) 2 q) (k : px_G Γ G Q w nc ns q (l0 :: l1 :: l2 :: l3 :: l4 :: l5 :: some (.ref x) :: r) st π) : px_G Γ G Q w nc ns pc (l0 :: l1 :: l2 :: l3 :: l4 :: l5 :: l6 :: r) (.ref x :: st) π := pg_astore_g X hd (by first | (simp; done) | (have h := (3 : Fin 4).isLt; simp only [List.length_cons]; omega)) k
theorem pg_astore7 (X : px_X Γ G cc own) {l0 l1 l2 l3 l4 l5 l6 l7 : Option Value} {r : List (Option Value)} {x : Nat} (hd : px_D cc pc (.astore 7) 2 q) (k : px_G Γ G Q w nc ns q (l0 :: l1 :: l2 :: l3 :: l4 :: l5 :: l6 :: some (.ref x) :: r) st π) : px_G Γ G Q w nc ns pc (l0 :: l1 :: l2 :: l3 :: l4 :: l5 :: l6 :: l7 :: r) (.ref x :: st) π := pg_astore_g X hd (by first | (simp; done) | (have h := (3 : Fin 4).isLt; simp only [List.length_cons]; omega)) k
theorem pg_astore8 (X : px_X Γ G cc own) {l0 l1 l2 l3 l4 l5 l6 l7 l8 : Option Value} {r : List (Option Value)} {x : Nat} (hd : px_D cc pc (.astore 8) 2 q) (k : px_G Γ G Q w nc ns q (l0 :: l1 :: l2 :: l3 :: l4 :: l5 :: l6 :: l7 :: some (.ref x) :: r) st π) : px_G Γ G Q w nc ns pc (l0 :: l1 :: l2 :: l3 :: l4 :: l5 :: l6 :: l7 :: l8 :: r) (.ref x :: st) π := pg_astore_g X hd (by first | (simp; done) | (have h := (3 : Fin 4).isLt; simp only [List.length_cons]; omega)) k
theorem pg_astore9 (X : px_X Γ G cc own) {l0 l1 l2 l3 l4 l5 l6 l7 l8 l9 : Option Value} {r : List (Option Value)} {x : Nat} (hd : px_D cc pc (.astore 9) 2 q) (k : px_G Γ G Q w nc ns q (l0 :: l1 :: l2 :: l3 :: l4 :: l5 :: l6 :: l7 :: l8 :: some (.ref x) :: r) st π) : px_G Γ G Q w nc ns pc (l0 :: l1 :: l2 :: l3 :: l4 :: l5 :: l6 :: l7 :: l8 :: l9 :: r) (.ref x :: st) π := pg_astore_g X hd (by first | (simp; done) | (have h := (3 : Fin 4).isLt; simp only [List.length_cons]; omega)) k
theorem pg_astore10 (X : px_X Γ G cc own) {l0 l1 l2 l3 l4 l5 l6 l7 l8 l9 l10 : Option Value} {r : List (Option Value)} {x : Nat} (hd : px_D cc pc (.astore 10) 2 q) (k : px_G Γ G Q w nc ns q (l0 :: l1 :: l2 :: l3 :: l4 :: l5 :: l6 :: l7 :: l8 :: l9 :: some (.ref x) :: r) st π) : px_G Γ G Q w nc ns pc (l0 :: l1 :: l2 :: l3 :: l4 :: l5 :: l6 :: l7 :: l8 :: l9 :: l10 :: r) (.ref x :: st) π := pg_astore_g X hd (by first | (simp; done) | (have h := (3 : Fin 4).isLt; simp only [List.length_cons]; omega)) k
theorem pg_astore11 (X : px_X Γ G cc own) {l0 l1 l2 l3 l4 l5 l6 l7 l8 l9 l10 l11 : Option Value} {r : List (Option Value)} {x : Nat} (hd : px_D cc pc (.astore 11) 2 q) (k : px_G Γ G Q w nc ns q (l0 :: l1 :: l2 :: l3 :: l4 :: l5 :: l6 :: l7 :: l8 :: l9 :: l10 :: some (.ref x) :: r) st π) : px_G Γ G Q w nc ns pc (l0 :: l1 :: l2 :: l3 :: l4 :: l5 :: l6 :: l7 :: l8 :: l9 :: l10 :: l11 :: r) (.ref x :: st) π := pg_astore_g X hd (by first | (simp; done) | (have h := (3 : Fin 4).isLt; simp only [List.length_cons]; omega)) k
theorem pg_astore12 (X : px_X Γ G cc own) {l0 l1 l2 l3 l4 l5 l6 l7 l8 l9 l10 l11 l12 : Option Value} {r : List (Option Value)} {x : Nat} (hd : px_D cc pc (.astore 12) 2 q) (k : px_G Γ G Q w nc ns q (l0 :: l1 :: l2 :: l3 :: l4 :: l5 :: l6 :: l7 :: l8 :: l9 :: l10 :: l11 :: some (.ref x) :: r) st π) : px_G Γ G Q w nc ns pc (l0 :: l1 :: l2 :: l3 :: l4 :: l5 :: l6 :: l7 :: l8 :: l9 :: l10 :: l11 :: l12 :: r) (.ref x :: st) π := pg_astore_g X hd (by first | (simp; done) | (have h := (3 : Fin 4).isLt; simp only [List.length_cons]; omega)) k
theorem pg_astore13 (X : px_X Γ G cc own) {l0 l1 l2 l3 l4 l5 l6 l7 l8 l9 l10 l11 l12 l13 : Option Value} {r : List (Option Value)} {x : Nat} (hd : px_D cc pc (.astore 13) 2 q) (k : px_G Γ G Q w nc ns q (l0 :: l1 :: l2 :: l3 :: l4 :: l5 :: l6 :: l7 :: l8 :: l9 :: l10 :: l11 :: l12 :: some (.ref x) :: r) st π) : px_G Γ G Q w nc ns pc (l0 :: l1 :: l2 :: l3 :: l4 :: l5 :: l6 :: l7 :: l8 :: l9 :: l10 :: l11 :: l12 :: l13 :: r) (.ref x :: st) π := pg_astore_g X hd (by first | (simp; done) | (have h := (3 : Fin 4).isLt; simp only [List.length_cons]; omega)) k
theorem pg_astore14 (X : px_X Γ G cc own) {l0 l1 l2 l3 l4 l5 l6 l7 l8 l9 l10 l11 l12 l13 l14 : Option Value} {r : List (Option Value)} {x : Nat} (hd : px_D cc pc (.astore 14) 2 q) (k : px_G Γ G Q w nc ns q (l0 :: l1 :: l2 :: l3 :: l4 :: l5 :: l6 :: l7 :: l8 :: l9 :: l10 :: l11 :: l12 :: l13 :: some (.ref x) :: r) st π) : px_G Γ G Q w nc ns pc (l0 :: l1 :: l2 :: l3 :: l4 :: l5 :: l6 :: l7 :: l8 :: l9 :: l10 :: l11 :: l12 :: l13 :: l14 :: r) (.ref x :: st) π := pg_astore_g X hd (by first | (simp; done) | (have h := (3 : Fin 4).isLt; simp only [List.length_cons]; omega)) k
theorem pg_astore15 (X : px_X Γ G cc own) {l0 l1 l2 l3 l4 l5 l6 l7 l8 l9 l10 l11 l12 l13 l14 l15 : Option Value} {r : List (Option Value)} {x : Nat} (hd : px_D cc pc (.astore 15) 2 q) (k : px_G Γ G Q w nc ns q (l0 :: l1 :: l2 :: l3 :: l4 :: l5 :: l6 :: l7 :: l8 :: l9 :: l10 :: l11 :: l12 :: l13 :: l14 :: some (.ref x) :: r) st π) : px_G Γ G Q w nc ns pc (l0 :: l1 :: l2 :: l3 :: l4 :: l5 :: l6 :: l7 :: l8 :: l9 :: l10 :: l11 :: l12 :: l13 :: l14 :: l15 :: r) (.ref x :: st) π := pg_astore_g X hd (by first | (simp; done) | (have h := (3 : Fin 4).isLt; simp only [List.length_cons]; omega)) k
theorem pg_astore16 (X : px_X Γ G cc own) {l0 l1 l2 l3 l4 l5 l6 l7 l8 l9 l10 l11 l12 l13 l14 l15 l16 : Option Value} {r : List (Option Value)} {x : Nat} (hd : px_D cc pc (.astore 16) 2 q) (k : px_G Γ G Q w nc ns q (l0 :: l1 :: l2 :: l3 :: l4 :: l5 :: l6 :: l7 :: l8 :: l9 :: l10 :: l11 :: l12 :: l13 :: l14 :: l15 :: some (.ref x) :: r) st π) : px_G Γ G Q w nc ns pc (l0 :: l1 :: l2 :: l3 :: l4 :: l5 :: l6 :: l7 :: l8 :: l9 :: l10 :: l11 :: l12 :: l13 :: l14 :: l15 :: l16 :: r) (.ref x :: st) π := pg_astore_g X hd (by first | (simp; done) | (have h := (3 : Fin 4).isLt; simp only [List.length_cons]; omega)) k
theorem pg_astore17 (X : px_X Γ G cc own) {l0 l1 l2 l3 l4 l5 l6 l7 l8 l9 l10 l11 l12 l13 l14 l15 l16 l17 : Option Value} {r : List (Option Value)} {x : Nat} (hd : px_D cc pc (.astore 17) 2 q) (k : px_G Γ G Q w nc ns q (l0 :: l1 :: l2 :: l3 :: l4 :: l5 :: l6 :: l7 :: l8 :: l9 :: l10 :: l11 :: l12 :: l13 :: l14 :: l15 :: l16 :: some (.ref x) :: r) st π) : px_G Γ G Q w nc ns pc (l0 :: l1 :: l2 :: l3 :: l4 :: l5 :: l6 :: l7 :: l8 :: l9 :: l10 :: l11 :: l12 :: l13 :: l14 :: l15 :: l16 :: l17 :: r) (.ref x :: st) π := pg_astore_g X hd (by first | (simp; done) | (have h := (3 : Fin 4).isLt; simp only [List.length_cons]; omega)) k
theorem pg_astore18 (X : px_X Γ G cc own) {l0 l1 l2 l3 l4 l5 l6 l7 l8 l9 l10 l11 l12 l13 l14 l15 l16 l17 l18 : Option Value} {r : List (Option Value)} {x : Nat} (hd : px_D cc pc (.astore 18) 2 q) (k : px_G Γ G Q w nc ns q (l0 :: l1 :: l2 :: l3 :: l4 :: l5 :: l6 :: l7 :: l8 :: l9 :: l10 :: l11 :: l12 :: l13 :: l14 :: l15 :: l16 :: l17 :: some (.ref x) :: r) st π) : px_G Γ G Q w nc ns pc (l0 :: l1 :: l2 :: l3 :: l4 :: l5 :: l6 :: l7 :: l8 :: l9 :: l10 :: l11 :: l12 :: l13 :: l14 :: l15 :: l16 :: l17 :: l18 :: r) (.ref x :: st) π := pg_astore_g X hd (by first | (simp; done) | (have h := (3 : Fin 4).isLt; simp only [List.length_cons]; omega)) k
theorem pg_astore19 (X : px_X Γ G cc own) {l0 l1 l2 l3 l4 l5 l6 l7 l8 l9 l10 l11 l12 l13 l14 l15 l16 l17 l18 l19 : Option Value} {r : List (Option Value)} {x : Nat} (hd : px_D cc pc (.astore 19) 2 q) (k : px_G Γ G Q w nc ns q (l0 :: l1 :: l2 :: l3 :: l4 :: l5 :: l6 :: l7 :: l8 :: l9 :: l10 :: l11 :: l12 :: l13 :: l14 :: l15 :: l16 :: l17 :: l18 :: some (.ref x) :: r) st π) : px_G Γ G Q w nc ns pc (l0 :: l1 :: l2 :: l3 :: l4 :: l5 :: l6 :: l7 :: l8 :: l9 :: l10 :: l11 :: l12 :: l13 :: l14 :: l15 :: l16 :: l17 :: l18 :: l19 :: r) (.ref x :: st) π := pg_astore_g X hd (by first | (simp; done) | (have h := (3 : Fin 4).isLt; simp only [List.length_cons]; omega)) k
theorem pg_iinc_g (X : px_X Γ G cc own) {i : Nat} {n : Int} {x : Int32} (hd : px_D cc pc (.iinc i n) 3 q) (hr : ls[i]? = some (some (.int x))) (k : px_G Γ G Q w nc ns q (ls.set i (some (.int (x + Int32.ofInt n)))) st π) : px_G Γ G Q w nc ns pc ls st π := by
  obtain ⟨hd, rfl⟩ := hd
  have hi : i < ls.length := (List.getElem?_eq_some_iff.mp hr).1
  intro H lsA locs hL hM hl
  obtain ⟨k0, hk0⟩ := List.getElem?_of_mem (px_lv_mem (q := (i, .int x)).mpr hr)
  exact lv_iinc X.1 X.2.1 hd hL.has hk0 rfl (by rw [← hL.2.2.1]; exact hi) rfl (fun ls' h => px_storeG hi rfl k hL hM hl h)
theorem pg_iinc0 (X : px_X Γ G cc own) {r : List (Option Value)} {n : Int} {x : Int32} (hd : px_D cc pc (.iinc 0 n) 3 q) (k : px_G Γ G Q w nc ns q (some (.int (x + Int32.ofInt n)) :: r) st π) : px_G Γ G Q w nc ns pc (some (.int x) :: r) st π := pg_iinc_g X hd rfl k
theorem pg_iinc1 (X : px_X Γ G cc own) {l0 : Option Value} {r : List (Option Value)} {n : Int} {x : Int32} (hd : px_D cc pc (.iinc 1 n) 3 q) (k : px_G Γ G Q w nc ns q (l0 :: some (.int (x + Int32.ofInt n)) :: r) st π) : px_G Γ G Q w nc ns pc (l0 :: some (.int x) :: r) st π := pg_iinc_g X hd rfl k
theorem pg_iinc2 (X : px_X Γ G cc own) {l0 l1 : Option Value} {r : List (Option Value)} {n : Int} {x : Int32} (hd : px_D cc pc (.iinc 2 n) 3 q) (k : px_G Γ G Q w nc ns q (l0 :: l1 :: some (.int (x + Int32.ofInt n)) :: r) st π) : px_G Γ G Q w nc ns pc (l0 :: l1 :: some (.int x) :: r) st π := pg_iinc_g X hd rfl k
theorem pg_iinc3 (X : px_X Γ G cc own) {l0 l1 l2 : Option Value} {r : List (Option Value)} {n : Int} {x : Int32} (hd : px_D cc pc (.iinc 3 n) 3 q) (k : px_G Γ G Q w nc ns q (l0 :: l1 :: l2 :: some (.int (x + Int32.ofInt n)) :: r) st π) : px_G Γ G Q w nc ns pc (l0 :: l1 :: l2 :: some (.int x) :: r) st π := pg_iinc_g X hd rfl k
theorem pg_iinc4 (X : px_X Γ G cc own) {l0 l1 l2 l3 : Option Value} {r : List (Option Value)} {n : Int} {x : Int32} (hd : px_D cc pc (.iinc 4 n) 3 q) (k : px_G Γ G Q w nc ns q (l0 :: l1 :: l2 :: l3 :: some (.int (x + Int32.ofInt n)) :: r) st π) : px_G Γ G Q w nc ns pc (l0 :: l1 :: l2 :: l3 :: some (.int x) :: r) st π := pg_iinc_g X hd rfl k
theorem pg_iinc5 (X : px_X Γ G cc own) {l0 l1 l2 l3 l4 : Option Value} {r : List (Option Value)} {n : Int} {x : Int32} (hd : px_D cc pc (.iinc 5 n) 3 q) (k : px_G Γ G Q w nc ns q (l0 :: l1 :: l2 :: l3 :: l4 :: some (.int (x + Int32.ofInt n)) :: r) st π) : px_G Γ G Q w nc ns pc (l0 :: l1 :: l2 :: l3 :: l4 :: some (.int x) :: r) st π := pg_iinc_g X hd rfl k
theorem pg_iinc6 (X : px_X Γ G cc own) {l0 l1 l2 l3 l4 l5 : Option Value} {r : List (Option Value)} {n : Int} {x : Int32} (hd : px_D cc pc (.iinc 6 n) 3 q) (k : px_G Γ G Q w nc ns q (l0 :: l1 :: l2 :: l3 :: l4 :: l5 :: some (.int (x + Int32.ofInt n)) :: r) st π) : px_G Γ G Q w nc ns pc (l0 :: l1 :: l2 :: l3 :: l4 :: l5 :: some (.int x) :: r) st π := pg_iinc_g X hd rfl k
theorem pg_iinc7 (X : px_X Γ G cc own) {l0 l1 l2 l3 l4 l5 l6 : Option Value} {r : List (Option Value)} {n : Int} {x : Int32} (hd : px_D cc pc (.iinc 7 n) 3 q) (k : px_G Γ G Q w nc ns q (l0 :: l1 :: l2 :: l3 :: l4 :: l5 :: l6 :: some (.int (x + Int32.ofInt n)) :: r) st π) : px_G Γ G Q w nc ns pc (l0 :: l1 :: l2 :: l3 :: l4 :: l5 :: l6 :: some (.int x) :: r) st π := pg_iinc_g X hd rfl k
theorem pg_iinc8 (X : px_X Γ G cc own) {l0 l1 l2 l3 l4 l5 l6 l7 : Option Value} {r : List (Option Value)} {n : Int} {x : Int32} (hd : px_D cc pc (.iinc 8 n) 3 q) (k : px_G Γ G Q w nc ns q (l0 :: l1 :: l2 :: l3 :: l4 :: l5 :: l6 :: l7 :: some (.int (x + Int32.ofInt n)) :: r) st π) : px_G Γ G Q w nc ns pc (l0 :: l1 :: l2 :: l3 :: l4 :: l5 :: l6 :: l7 :: some (.int x) :: r) st π := pg_iinc_g X hd rfl k
theorem pg_iinc9 (X : px_X Γ G cc own) {l0 l1 l2 l3 l4 l5 l6 l7 l8 : Option Value} {r : List (Option Value)} {n : Int} {x : Int32} (hd : px_D cc pc (.iinc 9 n) 3 q) (k : px_G Γ G Q w nc ns q (l0 :: l1 :: l2 :: l3 :: l4 :: l5 :: l6 :: l7 :: l8 :: some (.int (x + Int32.ofInt n)) :: r) st π) : px_G Γ G Q w nc ns pc (l0 :: l1 :: l2 :: l3 :: l4 :: l5 :: l6 :: l7 :: l8 :: some (.int x) :: r) st π := pg_iinc_g X hd rfl k
theorem pg_iinc10 (X : px_X Γ G cc own) {l0 l1 l2 l3 l4 l5 l6 l7 l8 l9 : Option Value} {r : List (Option Value)} {n : Int} {x : Int32} (hd : px_D cc pc (.iinc 10 n) 3 q) (k : px_G Γ G Q w nc ns q (l0 :: l1 :: l2 :: l3 :: l4 :: l5 :: l6 :: l7 :: l8 :: l9 :: some (.int (x + Int32.ofInt n)) :: r) st π) : px_G Γ G Q w nc ns pc (l0 :: l1 :: l2 :: l3 :: l4 :: l5 :: l6 :: l7 :: l8 :: l9 :: some (.int x) :: r) st π := pg_iinc_g X hd rfl k
theorem pg_iinc11 (X : px_X Γ G cc own) {l0 l1 l2 l3 l4 l5 l6 l7 l8 l9 l10 : Option Value} {r : List (Option Value)} {n : Int} {x : Int32} (hd : px_D cc pc (.iinc 11 n) 3 q) (k : px_G Γ G Q w nc ns q (l0 :: l1 :: l2 :: l3 :: l4 :: l5 :: l6 :: l7 :: l8 :: l9 :: l10 :: some (.int (x + Int32.ofInt n)) :: r) st π) : px_G Γ G Q w nc ns pc (l0 :: l1 :: l2 :: l3 :: l4 :: l5 :: l6 :: l7 :: l8 :: l9 :: l10 :: some (.int x) :: r) st π := pg_iinc_g X hd rfl k
theorem pg_iinc12 (X : px_X Γ G cc own) {l0 l1 l2 l3 l4 l5 l6 l7 l8 l9 l10 l11 : Option Value} {r : List (Option Value)} {n : Int} {x : Int32} (hd : px_D cc pc (.iinc 12 n) 3 q) (k : px_G Γ G Q w nc ns q (l0 :: l1 :: l2 :: l3 :: l4 :: l5 :: l6 :: l7 :: l8 :: l9 :: l10 :: l11 :: some (.int (x + Int32.ofInt n)) :: r) st π) : px_G Γ G Q w nc ns pc (l0 :: l1 :: l2 :: l3 :: l4 :: l5 :: l6 :: l7 :: l8 :: l9 :: l10 :: l11 :: some (.int x) :: r) st π := pg_iinc_g X hd rfl k
theorem pg_iinc13 (X : px_X Γ G cc own) {l0 l1 l2 l3 l4 l5 l6 l7 l8 l9 l10 l11 l12 : Option Value} {r : List (Option Value)} {n : Int} {x : Int32} (hd : px_D cc pc (.iinc 13 n) 3 q) (k : px_G Γ G Q w nc ns q (l0 :: l1 :: l2 :: l3 :: l4 :: l5 :: l6 :: l7 :: l8 :: l9 :: l10 :: l11 :: l12 :: some (.int (x + Int32.ofInt n)) :: r) st π) : px_G Γ G Q w nc ns pc (l0 :: l1 :: l2 :: l3 :: l4 :: l5 :: l6 :: l7 :: l8 :: l9 :: l10 :: l11 :: l12 :: some (.int x) :: r) st π := pg_iinc_g X hd rfl k
theorem pg_iinc14 (X : px_X Γ G cc own) {l0 l1 l2 l3 l4 l5 l6 l7 l8 l9 l10 l11 l12 l13 : Option Value} {r : List (Option Value)} {n : Int} {x : Int32} (hd : px_D cc pc (.iinc 14 n) 3 q) (k : px_G Γ G Q w nc ns q (l0 :: l1 :: l2 :: l3 :: l4 :: l5 :: l6 :: l7 :: l8 :: l9 :: l10 :: l11 :: l12 :: l13 :: some (.int (x + Int32.ofInt n)) :: r) st π) : px_G Γ G Q w nc ns pc (l0 :: l1 :: l2 :: l3 :: l4 :: l5 :: l6 :: l7 :: l8 :: l9 :: l10 :: l11 :: l12 :: l13 :: some (.int x) :: r) st π := pg_iinc_g X hd rfl k
theorem pg_iinc15 (X : px_X Γ G cc own) {l0 l1 l2 l3 l4 l5 l6 l7 l8 l9 l10 l11 l12 l13 l14 : Option Value} {r : List (Option Value)} {n : Int} {x : Int32} (hd : px_D cc pc (.iinc 15 n) 3 q) (k : px_G Γ G Q w nc ns q (l0 :: l1 :: l2 :: l3 :: l4 :: l5 :: l6 :: l7 :: l8 :: l9 :: l10 :: l11 :: l12 :: l13 :: l14 :: some (.int (x + Int32.ofInt n)) :: r) st π) : px_G Γ G Q w nc ns pc (l0 :: l1 :: l2 :: l3 :: l4 :: l5 :: l6 :: l7 :: l8 :: l9 :: l10 :: l11 :: l12 :: l13 :: l14 :: some (.int x) :: r) st π := pg_iinc_g X hd rfl k
theorem pg_iinc16 (X : px_X Γ G cc own) {l0 l1 l2 l3 l4 l5 l6 l7 l8 l9 l10 l11 l12 l13 l14 l15 : Option Value} {r : List (Option Value)} {n : Int} {x : Int32} (hd : px_D cc pc (.iinc 16 n) 3 q) (k : px_G Γ G Q w nc ns q (l0 :: l1 :: l2 :: l3 :: l4 :: l5 :: l6 :: l7 :: l8 :: l9 :: l10 :: l11 :: l12 :: l13 :: l14 :: l15 :: some (.int (x + Int32.ofInt n)) :: r) st π) : px_G Γ G Q w nc ns pc (l0 :: l1 :: l2 :: l3 :: l4 :: l5 :: l6 :: l7 :: l8 :: l9 :: l10 :: l11 :: l12 :: l13 :: l14 :: l15 :: some (.int x) :: r) st π := pg_iinc_g X hd rfl k
theorem pg_iinc17 (X : px_X Γ G cc own) {l0 l1 l2 l3 l4 l5 l6 l7 l8 l9 l10 l11 l12 l13 l14 l15 l16 : Option Value} {r : List (Option Value)} {n : Int} {x : Int32} (hd : px_D cc pc (.iinc 17 n) 3 q) (k : px_G Γ G Q w nc ns q (l0 :: l1 :: l2 :: l3 :: l4 :: l5 :: l6 :: l7 :: l8 :: l9 :: l10 :: l11 :: l12 :: l13 :: l14 :: l15 :: l16 :: some (.int (x + Int32.ofInt n)) :: r) st π) : px_G Γ G Q w nc ns pc (l0 :: l1 :: l2 :: l3 :: l4 :: l5 :: l6 :: l7 :: l8 :: l9 :: l10 :: l11 :: l12 :: l13 :: l14 :: l15 :: l16 :: some (.int x) :: r) st π := pg_iinc_g X hd rfl k
theorem pg_iinc18 (X : px_X Γ G cc own) {l0 l1 l2 l3 l4 l5 l6 l7 l8 l9 l10 l11 l12 l13 l14 l15 l16 l17 : Option Value} {r : List (Option Value)} {n : Int} {x : Int32} (hd : px_D cc pc (.iinc 18 n) 3 q) (k : px_G Γ G Q w nc ns q (l0 :: l1 :: l2 :: l3 :: l4 :: l5 :: l6 :: l7 :: l8 :: l9 :: l10 :: l11 :: l12 :: l13 :: l14 :: l15 :: l16 :: l17 :: some (.int (x + Int32.ofInt n)) :: r) st π) : px_G Γ G Q w nc ns pc (l0 :: l1 :: l2 :: l3 :: l4 :: l5 :: l6 :: l7 :: l8 :: l9 :: l10 :: l11 :: l12 :: l13 :: l14 :: l15 :: l16 :: l17 :: some (.int x) :: r) st π := pg_iinc_g X hd rfl k
theorem pg_iinc19 (X : px_X Γ G cc own) {l0 l1 l2 l3 l4 l5 l6 l7 l8 l9 l10 l11 l12 l13 l14 l15 l16 l17 l18 : Option Value} {r : List (Option Value)} {n : Int} {x : Int32} (hd : px_D cc pc (.iinc 19 n) 3 q) (k : px_G Γ G Q w nc ns q (l0 :: l1 :: l2 :: l3 :: l4 :: l5 :: l6 :: l7 :: l8 :: l9 :: l10 :: l11 :: l12 :: l13 :: l14 :: l15 :: l16 :: l17 :: l18 :: some (.int (x + Int32.ofInt n)) :: r) st π) : px_G Γ G Q w nc ns pc (l0 :: l1 :: l2 :: l3 :: l4 :: l5 :: l6 :: l7 :: l8 :: l9 :: l10 :: l11 :: l12 :: l13 :: l14 :: l15 :: l16 :: l17 :: l18 :: some (.int x) :: r) st π := pg_iinc_g X hd rfl k
theorem pg_if_eq (X : px_X Γ G cc own) {x : Int32} {off : Int} {tgt : Nat} (hd : px_J cc pc (.ifCond .eq off) 3 q off tgt) (kt : x = 0 → px_G Γ G Q w nc ns tgt ls st π) (kf : ¬ (x = 0) → px_G Γ G Q w nc ns q ls st π) : px_G Γ G Q w nc ns pc ls (.int x :: st) π := by
  obtain ⟨hd, rfl, ht⟩ := hd
  exact fun H lsA locs hL hM hl => lv_if_eq X.1 X.2.1 hd ht (fun h => kt h H lsA locs hL hM hl) (fun h => kf h H lsA locs hL hM hl)
theorem pg_icmp_eq (X : px_X Γ G cc own) {x y : Int32} {off : Int} {tgt : Nat} (hd : px_J cc pc (.if_icmp .eq off) 3 q off tgt) (kt : x = y → px_G Γ G Q w nc ns tgt ls st π) (kf : ¬ (x = y) → px_G Γ G Q w nc ns q ls st π) : px_G Γ G Q w nc ns pc ls (.int y :: .int x :: st) π := by
  obtain ⟨hd, rfl, ht⟩ := hd
  exact fun H lsA locs hL hM hl => lv_icmp_eq X.1 X.2.1 hd ht (fun h => kt h H lsA locs hL hM hl) (fun h => kf h H lsA locs hL hM hl)
theorem pg_if_ne (X : px_X Γ G cc own) {x : Int32} {off : Int} {tgt : Nat} (hd : px_J cc pc (.ifCond .ne off) 3 q off tgt) (kt : ¬ x = 0 → px_G Γ G Q w nc ns tgt ls st π) (kf : x = 0 → px_G Γ G Q w nc ns q ls st π) : px_G Γ G Q w nc ns pc ls (.int x :: st) π := by
  obtain ⟨hd, rfl, ht⟩ := hd
  exact fun H lsA locs hL hM hl => lv_if_ne X.1 X.2.1 hd ht (fun h => kt h H lsA locs hL hM hl) (fun h => kf h H lsA locs hL hM hl)
theorem pg_icmp_ne (X : px_X Γ G cc own) {x y : Int32} {off : Int} {tgt : Nat} (hd : px_J cc pc (.if_icmp .ne off) 3 q off tgt) (kt : ¬ x = y → px_G Γ G Q w nc ns tgt ls st π) (kf : x = y → px_G Γ G Q w nc ns q ls st π) : px_G Γ G Q w nc ns pc ls (.int y :: .int x :: st) π := by
  obtain ⟨hd, rfl, ht⟩ := hd
  exact fun H lsA locs hL hM hl => lv_icmp_ne X.1 X.2.1 hd ht (fun h => kt h H lsA locs hL hM hl) (fun h => kf h H lsA locs hL hM hl)
theorem pg_if_lt (X : px_X Γ G cc own) {x : Int32} {off : Int} {tgt : Nat} (hd : px_J cc pc (.ifCond .lt off) 3 q off tgt) (kt : x < 0 → px_G Γ G Q w nc ns tgt ls st π) (kf : ¬ (x < 0) → px_G Γ G Q w nc ns q ls st π) : px_G Γ G Q w nc ns pc ls (.int x :: st) π := by
  obtain ⟨hd, rfl, ht⟩ := hd
  exact fun H lsA locs hL hM hl => lv_if_lt X.1 X.2.1 hd ht (fun h => kt h H lsA locs hL hM hl) (fun h => kf h H lsA locs hL hM hl)
theorem pg_icmp_lt (X : px_X Γ G cc own) {x y : Int32} {off : Int} {tgt : Nat} (hd : px_J cc pc (.if_icmp .lt off) 3 q off tgt) (kt : x < y → px_G Γ G Q w nc ns tgt ls st π) (kf : ¬ (x < y) → px_G Γ G Q w nc ns q ls st π) : px_G Γ G Q w nc ns pc ls (.int y :: .int x :: st) π := by
  obtain ⟨hd, rfl, ht⟩ := hd
  exact fun H lsA locs hL hM hl => lv_icmp_lt X.1 X.2.1 hd ht (fun h => kt h H lsA locs hL hM hl) (fun h => kf h H lsA locs hL hM hl)
theorem pg_if_ge (X : px_X Γ G cc own) {x : Int32} {off : Int} {tgt : Nat} (hd : px_J cc pc (.ifCond .ge off) 3 q off tgt) (kt : 0 ≤ x → px_G Γ G Q w nc ns tgt ls st π) (kf : ¬ (0 ≤ x) → px_G Γ G Q w nc ns q ls st π) : px_G Γ G Q w nc ns pc ls (.int x :: st) π := by
  obtain ⟨hd, rfl, ht⟩ := hd
  exact fun H lsA locs hL hM hl => lv_if_ge X.1 X.2.1 hd ht (fun h => kt h H lsA locs hL hM hl) (fun h => kf h H lsA locs hL hM hl)
theorem pg_icmp_ge (X : px_X Γ G cc own) {x y : Int32} {off : Int} {tgt : Nat} (hd : px_J cc pc (.if_icmp .ge off) 3 q off tgt) (kt : y ≤ x → px_G Γ G Q w nc ns tgt ls st π) (kf : ¬ (y ≤ x) → px_G Γ G Q w nc ns q ls st π) : px_G Γ G Q w nc ns pc ls (.int y :: .int x :: st) π := by
  obtain ⟨hd, rfl, ht⟩ := hd
  exact fun H lsA locs hL hM hl => lv_icmp_ge X.1 X.2.1 hd ht (fun h => kt h H lsA locs hL hM hl) (fun h => kf h H lsA locs hL hM hl)
theorem pg_if_gt (X : px_X Γ G cc own) {x : Int32} {off : Int} {tgt : Nat} (hd : px_J cc pc (.ifCond .gt off) 3 q off tgt) (kt : 0 < x → px_G Γ G Q w nc ns tgt ls st π) (kf : ¬ (0 < x) → px_G Γ G Q w nc ns q ls st π) : px_G Γ G Q w nc ns pc ls (.int x :: st) π := by
  obtain ⟨hd, rfl, ht⟩ := hd
  exact fun H lsA locs hL hM hl => lv_if_gt X.1 X.2.1 hd ht (fun h => kt h H lsA locs hL hM hl) (fun h => kf h H lsA locs hL hM hl)
theorem pg_icmp_gt (X : px_X Γ G cc own) {x y : Int32} {off : Int} {tgt : Nat} (hd : px_J cc pc (.if_icmp .gt off) 3 q off tgt) (kt : y < x → px_G Γ G Q w nc ns tgt ls st π) (kf : ¬ (y < x) → px_G Γ G Q w nc ns q ls st π) : px_G Γ G Q w nc ns pc ls (.int y :: .int x :: st) π := by
  obtain ⟨hd, rfl, ht⟩ := hd
  exact fun H lsA locs hL hM hl => lv_icmp_gt X.1 X.2.1 hd ht (fun h => kt h H lsA locs hL hM hl) (fun h => kf h H lsA locs hL hM hl)
theorem pg_if_le (X : px_X Γ G cc own) {x : Int32} {off : Int} {tgt : Nat} (hd : px_J cc pc (.ifCond .le off) 3 q off tgt) (kt : x ≤ 0 → px_G Γ G Q w nc ns tgt ls st π) (kf : ¬ (x ≤ 0) → px_G Γ G Q w nc ns q ls st π) : px_G Γ G Q w nc ns pc ls (.int x :: st) π := by
  obtain ⟨hd, rfl, ht⟩ := hd
  exact fun H lsA locs hL hM hl => lv_if_le X.1 X.2.1 hd ht (fun h => kt h H lsA locs hL hM hl) (fun h => kf h H lsA locs hL hM hl)
theorem pg_icmp_le (X : px_X Γ G cc own) {x y : Int32} {off : Int} {tgt : Nat} (hd : px_J cc pc (.if_icmp .le off) 3 q off tgt) (kt : x ≤ y → px_G Γ G Q w nc ns tgt ls st π) (kf : ¬ (x ≤ y) → px_G Γ G Q w nc ns q ls st π) : px_G Γ G Q w nc ns pc ls (.int y :: .int x :: st) π := by
  obtain ⟨hd, rfl, ht⟩ := hd
  exact fun H lsA locs hL hM hl => lv_icmp_le X.1 X.2.1 hd ht (fun h => kt h H lsA locs hL hM hl) (fun h => kf h H lsA locs hL hM hl)
theorem pg_goto (X : px_X Γ G cc own) {off : Int} {tgt : Nat} (hd : px_J cc pc (.goto off) 3 q off tgt) (k : px_G Γ G Q w nc ns tgt ls st π) : px_G Γ G Q w nc ns pc ls st π := by
  obtain ⟨hd, rfl, ht⟩ := hd
  exact fun H lsA locs hL hM hl => lv_goto X.1 X.2.1 hd ht (k H lsA locs hL hM hl)
theorem pg_widen {k n : Nat} (h1 : nc ≤ k) (h2 : ns ≤ n) (kk : px_G Γ G Q w k n pc ls st π) : px_G Γ G Q w nc ns pc ls st π := fun H lsA locs hL hM hl => W.widen h1 h2 (kk H lsA locs hL hM hl)
theorem pg_w (kk : px_G Γ G Q true nc ns pc ls st π) : px_G Γ G Q w nc ns pc ls st π := fun H lsA locs hL hM hl => kk H lsA locs hL hM (fun q hq => ⟨rfl, (hl q hq).2⟩)
end PGR
end
section
/-! HEAP RULES: fields, arrays, new cells -/
def px_FW (Ts : List Cond) (cl : List vw_C) (own : String) (index ci k : Nat) : Prop := ∃ (C : String) (T : u_T) (N : Nat), cl[ci]? = some (C, T, N) ∧ k < N ∧ (T k).1 = C ∧ (∀ w ∈ u_ws C T N, w ∈ Ts) ∧
  (Cond.fieldLink own index C (T k).2.1 (T k).2.2.1 ∈ Ts ∨ ∃ host, Cond.fieldLinkNest own index C (T k).2.1 (T k).2.2.1 host ∈ Ts)
def px_CT (cl : List vw_C) (ci : Nat) (ty : Nat → FieldType) : Prop := ∃ (C : String) (T : u_T) (N : Nat), cl[ci]? = some (C, T, N) ∧ (∀ k, k < N → parseFieldDescriptor (T k).2.2.1 = some (ty k)) ∧ ∀ a, a < N → ∀ b, b < N → a ≠ b → (T a).2.1 ≠ (T b).2.1
def px_nf (cl : List vw_C) (ci k : Nat) (fin : Bool) : Prop := ∃ (C : String) (T : u_T) (N : Nat), cl[ci]? = some (C, T, N) ∧ (T k).2.2.2 = fin
section PGH
variable {Γ : px_Cm} {G : px_Cg} {Q : State → Prop} {cc : ByteArray} {own : String} {w : Bool} {nc ns pc q : Nat} {ls : List (Option Value)} {st : List Value} {π : px_H}
theorem pg_getf (X : px_X Γ G cc own) {index ci k a : Nat} {fs : List Value} {v : Value} (hF : px_FW G.Ts G.cl own index ci k) (hd : px_D cc pc (.getfield index) 3 q) (hr : px_rd G.ρ π a = some (.inr (ci, fs))) (hv : fs[k]? = some v) (kk : px_G Γ G Q w nc ns q ls (v :: st) π) : px_G Γ G Q w nc ns pc ls (.ref a :: st) π := by
  obtain ⟨hd, rfl⟩ := hd
  obtain ⟨C, T, N, hc, hk, hTC, hin, hlink⟩ := hF
  intro H lsA locs hL hM hl
  obtain ⟨r, h1, h2, cell, q1, q2, q3, q4⟩ := X.rd hM hr
  have hr' : r = (C, T, N) := Option.some.inj (h1.symm.trans hc)
  subst hr'
  obtain ⟨hS, hfc, kC, hkC, hkind⟩ := X.K.1 ci _ hc
  obtain ⟨cf, kf, fi, f, hi, hsl⟩ := hS k hk
  dsimp only at hi hfc
  have hts : ∀ w ∈ u_ws C T N, w.before Γ.args Γ.s = true := fun w hw => X.word (hin w hw)
  have hfa := u_facts hfc hkC (u_lays hts (fun w h => h) hk) hi
  rw [hTC] at hi
  have hslot : cell.slots[f.slot]? = some v := by
    rw [hsl, q4 k hk]
    simp [vp_V, hv]
  rcases hlink with hlink | ⟨host, hlink⟩
  · exact W.getf X.1 X.2.1 X.2.2.1 (X.word hlink) hi hfa.1 q1 (by rw [q3]; exact fun h => by cases h) hslot rfl rfl hd (kk H lsA locs hL hM hl)
  · exact va_Wgetf X.1 X.2.1 X.2.2.1 (X.word hlink) hi hfa.1 q1 (by rw [q3]; exact fun h => by cases h) hslot rfl rfl hd (kk H lsA locs hL hM hl)
theorem pg_putf (X : px_X Γ G cc own) {index ci k a : Nat} {fs : List Value} {v : Value} {ty0 : Nat → FieldType} (hF : px_FW G.Ts G.cl own index ci k) (hT : px_CT G.cl ci ty0) (hfin : px_nf G.cl ci k false) (hn : narrow (ty0 k) v = v) (hfit : fits (ty0 k) v = true) (hd : px_D cc pc (.putfield index) 3 q) (hr : π.2 a = some (.inr (ci, fs))) (kk : px_G Γ G Q true nc ns q ls st (px_wr π a (.inr (ci, fs.set k v)))) : px_G Γ G Q true nc ns pc ls (v :: .ref a :: st) π := by
  obtain ⟨hd, rfl⟩ := hd
  obtain ⟨C, T, N, hc, hk, hTC, hin, hlink⟩ := hF
  obtain ⟨C1, T1, N1, hc1, hty, hnm⟩ := hT
  cases Option.some.inj (hc.symm.trans hc1)
  obtain ⟨C2, T2, N2, hc2, hf2⟩ := hfin
  cases Option.some.inj (hc.symm.trans hc2)
  intro H lsA locs hL hM hl
  obtain ⟨r, h1, h2, cell, q1, q2, q3, q4⟩ := (hM.2.2.2 a _ hr).2
  have hza := (hM.2.2.2 a _ hr).1
  have hr' : r = (C, T, N) := Option.some.inj (h1.symm.trans hc)
  subst hr'
  dsimp only at h2 q2 q4
  have hts : ∀ w ∈ u_ws C T N, w.before Γ.args Γ.s = true := fun w hw => X.word (hin w hw)
  have hap := va_apart (own := own) hts (fun w h => h) ty0 hty hnm X.K hc
  obtain ⟨hS, hfc, kC, hkC, hkind⟩ := X.K.1 ci _ hc
  obtain ⟨cf, kf, fi, f, hi, hsl⟩ := hS k hk
  dsimp only at hi hfc
  have hst := (u_facts hfc hkC (u_lays hts (fun w h => h) hk) hi).1
  have hlay := hts _ (u_in_lay hk)
  unfold u_lay at hlay
  rw [if_neg (by rw [hf2]; decide)] at hlay
  have h6 := u_store hfc hkC hkind hlay hi (hty k hk) hn hfit
  rw [hTC] at hi
  have go : ∀ H' : Heap, H'[a]? = some (cell.setSlot f.slot v) → H'.size = H.size → (∀ q, q ≠ a → H'[q]? = H[q]?) → W Γ.p Γ.l Γ.e Γ.R Γ.s Γ.m Γ.args Γ.below Γ.meth Γ.c H' (locs ++ [⟨a, f.slot⟩]) nc ns Q (F0 Γ.m (pc + 3) lsA st) := by
    intro H' e1 e2 e3
    rw [hsl] at e1
    refine kk H' lsA _ hL (hM.wr hr ⟨_, hc, by rw [List.length_set]; exact h2, t_OB.to (V := updV (vp_V fs) k v) ⟨_, e1, q2, q3, t_set q4 hap hk v⟩ (fun j _ => vp_updV_set (by rw [h2]; exact hk) v j)⟩ e2 e3) ?_
    intro x hx
    rcases List.mem_append.mp hx with h | h
    · exact hl x h
    · rw [List.mem_singleton.mp h]
      exact ⟨rfl, hza⟩
  rcases hlink with hlink | ⟨host, hlink⟩
  · exact W.putK X.1 X.2.1 (f := f) ⟨X.2.2.1, X.word hlink, ⟨_, _, _, hi⟩, hst⟩ (by rw [q2]; exact h6) q1 q3 (by rw [hsl]; exact k2_hasslot (q4 k hk)) rfl rfl hd go
  · exact va_WputK X.1 X.2.1 (f := f) X.2.2.1 (X.word hlink) hi hst (by rw [q2]; exact h6) q1 q3 (by rw [hsl]; exact k2_hasslot (q4 k hk)) rfl rfl hd go
/-- a final field in a constructor of its own class -/
theorem pg_putF (X : px_X Γ G cc own) {index ci k a : Nat} {fs : List Value} {v : Value} {ty0 : Nat → FieldType} (hF : px_FW G.Ts G.cl own index ci k) (hT : px_CT G.cl ci ty0) (hfin : px_nf G.cl ci k true) (hin2 : Γ.meth.name = "<init>") (hoc : ∀ x, G.cl[ci]? = some x → x.1 = own) (hn : narrow (ty0 k) v = v) (hfit : fits (ty0 k) v = true) (hd : px_D cc pc (.putfield index) 3 q) (hr : π.2 a = some (.inr (ci, fs))) (kk : px_G Γ G Q true nc ns q ls st (px_wr π a (.inr (ci, fs.set k v)))) (hnn : Cond.fieldLink own index own (((G.cl[ci]?.getD ("", fun _ => ("", "", "", false), 0)).2.1 k).2.1) (((G.cl[ci]?.getD ("", fun _ => ("", "", "", false), 0)).2.1 k).2.2.1) ∈ G.Ts) : px_G Γ G Q true nc ns pc ls (v :: .ref a :: st) π := by
  obtain ⟨hd, rfl⟩ := hd
  obtain ⟨C, T, N, hc, hk, hTC, hin, -⟩ := hF
  obtain ⟨C1, T1, N1, hc1, hty, hnm⟩ := hT
  cases Option.some.inj (hc.symm.trans hc1)
  obtain ⟨C2, T2, N2, hc2, hf2⟩ := hfin
  cases Option.some.inj (hc.symm.trans hc2)
  have hCo : C = own := hoc _ hc
  subst hCo
  rw [hc] at hnn
  dsimp only [Option.getD_some] at hnn
  intro H lsA locs hL hM hl
  obtain ⟨r, h1, h2, cell, q1, q2, q3, q4⟩ := (hM.2.2.2 a _ hr).2
  have hza := (hM.2.2.2 a _ hr).1
  have hr' : r = (C, T, N) := Option.some.inj (h1.symm.trans hc)
  subst hr'
  dsimp only at h2 q2 q4
  have hts : ∀ w ∈ u_ws C T N, w.before Γ.args Γ.s = true := fun w hw => X.word (hin w hw)
  have hap := va_apart (own := C) hts (fun w h => h) ty0 hty hnm X.K hc
  obtain ⟨hS, hfc, kC, hkC, hkind⟩ := X.K.1 ci _ hc
  obtain ⟨cf, kf, fi, f, hi, hsl⟩ := hS k hk
  dsimp only at hi hfc
  have hst := (u_facts hfc hkC (u_lays hts (fun w h => h) hk) hi).1
  have hlay := hts _ (u_in_lay hk)
  unfold u_lay at hlay
  rw [if_pos hf2] at hlay
  have h6 := u_fits hfc hkC hkind (Or.inr hlay) hi (hty k hk) hn hfit
  have hcf : Γ.m.cls = cf := by
    obtain ⟨_, _, c', _, _, _, -, -, hf', -, -, -, hown2, -⟩ := Cond.laysFinal_spec hlay
    have e1 : c' = cf := by have := hi.symm.trans hf'; simp at this; exact this.1.symm
    rw [hTC] at hown2
    rw [← e1]
    exact Option.some.inj (X.2.2.1.symm.trans hown2)
  rw [hTC] at hi
  refine W.putFinK X.1 X.2.1 X.2.2.1 (X.word hnn) hi hst hcf hin2 (by rw [q2]; exact h6) q1 q3 (by rw [hsl]; exact k2_hasslot (q4 k hk)) rfl rfl hd fun H' e1 e2 e3 => ?_
  rw [hsl] at e1
  refine kk H' lsA _ hL (hM.wr hr ⟨_, hc, by rw [List.length_set]; exact h2, t_OB.to (V := updV (vp_V fs) k v) ⟨_, e1, q2, q3, t_set q4 hap hk v⟩ (fun j _ => vp_updV_set (by rw [h2]; exact hk) v j)⟩ e2 e3) ?_
  intro x hx
  rcases List.mem_append.mp hx with h | h
  · exact hl x h
  · rw [List.mem_singleton.mp h]
    exact ⟨rfl, hza⟩
theorem px_lt_in {i : Int32} {n : Nat} (h : vp_in i n) : i.toNatClampNeg < n := Nat.not_le.mp fun z => h (Or.inr z)
theorem pg_alen (X : px_X Γ G cc own) {a n : Nat} {ty : FieldType} {f : px_V} (hd : px_D cc pc .arraylength 1 q) (hr : px_rd G.ρ π a = some (.inl (ty, n, f))) (kk : px_G Γ G Q w nc ns q ls (.int (nI n) :: st) π) : px_G Γ G Q w nc ns pc ls (.ref a :: st) π := by
  obtain ⟨hd, rfl⟩ := hd
  intro H lsA locs hL hM hl
  obtain ⟨cell, h1, h2, h3, h4, h5, h6⟩ := X.rd hM hr
  exact W.alen X.1 X.2.1 h1 h2 (by rw [h5]; rfl) rfl rfl hd (kk H lsA locs hL hM hl)
theorem pg_iald (X : px_X Γ G cc own) {a n : Nat} {f : Nat → Int32} {i : Int32} (hd : px_D cc pc .iaload 1 q) (hr : px_rd G.ρ π a = some (.inl (.int, n, .inl f))) (hin : vp_in i n) (kk : px_G Γ G Q w nc ns q ls (.int (f i.toNatClampNeg) :: st) π) : px_G Γ G Q w nc ns pc ls (.int i :: .ref a :: st) π := by
  obtain ⟨hd, rfl⟩ := hd
  intro H lsA locs hL hM hl
  obtain ⟨cell, h1, h2, h3, h4, h5, h6⟩ := X.rd hM hr
  exact W.iald X.1 X.2.1 h1 h2 h4 (by rw [h5]; exact hin) (h6 _ (px_lt_in hin)) rfl rfl hd (kk H lsA locs hL hM hl)
theorem pg_zald (X : px_X Γ G cc own) {a n : Nat} {f : Nat → Int32} {i : Int32} (hd : px_D cc pc .baload 1 q) (hr : px_rd G.ρ π a = some (.inl (.boolean, n, .inl f))) (hin : vp_in i n) (kk : px_G Γ G Q w nc ns q ls (.int (f i.toNatClampNeg) :: st) π) : px_G Γ G Q w nc ns pc ls (.int i :: .ref a :: st) π := by
  obtain ⟨hd, rfl⟩ := hd
  intro H lsA locs hL hM hl
  obtain ⟨cell, h1, h2, h3, h4, h5, h6⟩ := X.rd hM hr
  exact W.zald X.1 X.2.1 h1 h2 h4 (by rw [h5]; exact hin) (h6 _ (px_lt_in hin)) rfl rfl hd (kk H lsA locs hL hM hl)
theorem pg_aald (X : px_X Γ G cc own) {a n : Nat} {ty : FieldType} {f : Nat → Option Nat} {i : Int32} (hd : px_D cc pc .aaload 1 q) (hr : px_rd G.ρ π a = some (.inl (ty, n, .inr (.inl f)))) (hty : ty.isReference = true) (hin : vp_in i n) (kk : px_G Γ G Q w nc ns q ls (va_rf (f i.toNatClampNeg) :: st) π) : px_G Γ G Q w nc ns pc ls (.int i :: .ref a :: st) π := by
  obtain ⟨hd, rfl⟩ := hd
  intro H lsA locs hL hM hl
  obtain ⟨cell, h1, h2, h3, h4, h5, h6⟩ := X.rd hM hr
  exact W.aald X.1 X.2.1 h1 h2 hty h4 (by rw [h5]; exact hin) (h6 _ (px_lt_in hin)) rfl rfl hd (kk H lsA locs hL hM hl)
theorem px_at_ast {D : va_G} {cl : List vw_C} {s : State} {a n j : Nat} {ty : FieldType} {c1 c2 : px_V} {cell : Cell} {v : Value} {H' : Heap} (h2 : s.isArrayOf cell ty) (h3 : va_RA s cell.cls ty) (h4 : cell.vm ≠ .unknown) (h5 : cell.slots.size = n) (h6 : ∀ j : Nat, j < n → cell.slots[j]? = some (px_con c1 j)) (e1 : H'[a]? = some (cell.setSlot j v)) (hj : j < n) (hv : px_con c2 j = v) (ho : ∀ i, i ≠ j → px_con c2 i = px_con c1 i) : px_at D cl s a (.inl (ty, n, c2)) H' := by
  refine ⟨cell.setSlot j v, e1, h2, h3, h4, by rw [k2_slotsz]; exact h5, fun i hi => ?_⟩
  by_cases hij : i = j
  · subst hij
    show (cell.slots.setIfInBounds i v)[i]? = _
    rw [Array.getElem?_setIfInBounds_self_of_lt (by rw [h5]; exact hi)]
    exact congrArg some hv.symm
  · show (cell.slots.setIfInBounds j v)[i]? = _
    rw [Array.getElem?_setIfInBounds_ne (fun h => hij h.symm), h6 i hi]
    exact congrArg some (ho i hij).symm
theorem pg_iast (X : px_X Γ G cc own) {a n : Nat} {f : Nat → Int32} {i x : Int32} (hd : px_D cc pc .iastore 1 q) (hr : π.2 a = some (.inl (.int, n, .inl f))) (hin : vp_in i n) (kk : px_G Γ G Q true nc ns q ls st (px_wr π a (.inl (.int, n, .inl (upd f i.toNatClampNeg x))))) : px_G Γ G Q true nc ns pc ls (.int x :: .int i :: .ref a :: st) π := by
  obtain ⟨hd, rfl⟩ := hd
  intro H lsA locs hL hM hl
  obtain ⟨hza, cell, h1, h2, h3, h4, h5, h6⟩ := hM.2.2.2 a _ hr
  refine W.iast X.1 X.2.1 h1 (State.isArrayOf_alike X.al h2) h4 (by rw [h5]; exact hin) rfl rfl hd fun H' e1 e2 e3 => ?_
  refine kk H' lsA _ hL (hM.wr hr (px_at_ast h2 h3 h4 h5 h6 e1 (px_lt_in hin) (by simp [px_con, upd]) (fun j hj => by simp [px_con, upd, hj])) e2 e3) ?_
  intro x hx
  rcases List.mem_append.mp hx with h | h
  · exact hl x h
  · rw [List.mem_singleton.mp h]
    exact ⟨rfl, hza⟩
theorem pg_zast (X : px_X Γ G cc own) {a n : Nat} {f : Nat → Int32} {i x : Int32} (hd : px_D cc pc .bastore 1 q) (hr : π.2 a = some (.inl (.boolean, n, .inl f))) (hin : vp_in i n) (hx : narrow .boolean (.int x) = .int x) (kk : px_G Γ G Q true nc ns q ls st (px_wr π a (.inl (.boolean, n, .inl (upd f i.toNatClampNeg x))))) : px_G Γ G Q true nc ns pc ls (.int x :: .int i :: .ref a :: st) π := by
  obtain ⟨hd, rfl⟩ := hd
  intro H lsA locs hL hM hl
  obtain ⟨hza, cell, h1, h2, h3, h4, h5, h6⟩ := hM.2.2.2 a _ hr
  refine W.zast X.1 X.2.1 h1 (State.isArrayOf_alike X.al h2) h4 (by rw [h5]; exact hin) rfl rfl hd fun H' e1 e2 e3 => ?_
  rw [hx] at e1
  refine kk H' lsA _ hL (hM.wr hr (px_at_ast h2 h3 h4 h5 h6 e1 (px_lt_in hin) (by simp [px_con, upd]) (fun j hj => by simp [px_con, upd, hj])) e2 e3) ?_
  intro x hx
  rcases List.mem_append.mp hx with h | h
  · exact hl x h
  · rw [List.mem_singleton.mp h]
    exact ⟨rfl, hza⟩
theorem pg_aast (X : px_X Γ G cc own) {a n v ci : Nat} {fs : List Value} {r : vw_C} {f : Nat → Option Nat} {i : Int32} (hd : px_D cc pc .aastore 1 q) (hr : π.2 a = some (.inl (.object r.1, n, .inr (.inl f)))) (hin : vp_in i n) (hv : px_rd G.ρ π v = some (.inr (ci, fs))) (hc : G.cl[ci]? = some r) (kk : px_G Γ G Q true nc ns q ls st (px_wr π a (.inl (.object r.1, n, .inr (.inl (va_up f i.toNatClampNeg (some v))))))) : px_G Γ G Q true nc ns pc ls (.ref v :: .int i :: .ref a :: st) π := by
  obtain ⟨hd, rfl⟩ := hd
  intro H lsA locs hL hM hl
  obtain ⟨hza, cell, h1, h2, h3, h4, h5, h6⟩ := hM.2.2.2 a _ hr
  obtain ⟨r', hr', -, cellV, g1, g2, g3, -⟩ := X.rd hM hv
  have hcls := (X.K.1 ci r hc).2
  obtain ⟨kA, comp, k1, k2, k3, -⟩ := (va_RA.moved X.al h3 : va_RA Γ.s cell.cls (.object r.1))
  have hcomp : comp = G.D.1 ci := Option.some.inj (k3.symm.trans hcls.1)
  subst hcomp
  obtain ⟨kC, hkC, -⟩ := hcls.2
  refine W.aast X.1 X.2.1 h1 h2.1 h4 k1 k2 rfl hkC ⟨fun z => hin (Or.inl z), by rw [h5]; exact px_lt_in hin⟩ g1 (fun q h => by rw [g3] at h; cases h) (by rw [g2]; exact hkC) (by rw [g2]; exact va_assign hcls) rfl rfl hd fun H' e1 e2 e3 => ?_
  refine kk H' lsA _ hL (hM.wr hr (px_at_ast h2 h3 h4 h5 h6 e1 (px_lt_in hin) (by simp [px_con, va_up, va_rf]) (fun j hj => by simp [px_con, va_up, hj])) e2 e3) ?_
  intro x hx
  rcases List.mem_append.mp hx with h | h
  · exact hl x h
  · rw [List.mem_singleton.mp h]
    exact ⟨rfl, hza⟩
theorem pg_newa (X : px_X Γ G cc own) {atype : ArrayType} {ty : FieldType} (hty : newarray.typeOf atype = ty) (hty2 : ty = .int ∨ ty = .boolean) (hw : Cond.arrayClass ty ∈ G.Ts) {n : Int32} {N : Nat} (hd : px_D cc pc (.newarray atype) 2 q) (hn : ¬ n < 0) (hN : n.toNatClampNeg = N) (hb : N ≤ 65536) (hcells : nc + 1 ≤ Γ.R.cells) (hslots : ns + N ≤ Γ.R.slots) (kk : px_G Γ G Q w (nc + 1) (ns + N) q ls (.ref π.1 :: st) (px_nw π (.inl (ty, N, .inl (fun _ => 0))))) : px_G Γ G Q w nc ns pc ls (.int n :: st) π := by
  obtain ⟨hd, rfl⟩ := hd
  subst hty
  intro H lsA locs hL hM hl
  have hdv : defaultValue (newarray.typeOf atype) = .int 0 := by rcases hty2 with h | h <;> rw [h] <;> rfl
  have hcb : N * componentBytes (newarray.typeOf atype) ≤ 536870912 := by
    rcases hty2 with h | h <;> rw [h]
    · show N * 4 ≤ _
      omega
    · show N * 1 ≤ _
      omega
  refine va_newaK X.1 X.2.1 (X.word hw) rfl hd rfl hn hN hcb hcells hslots rfl fun H1 cA e1 z1 o1 hAr hNm => ?_
  have hM' := hM.nw (e' := .inl (newarray.typeOf atype, N, .inl (fun _ => 0))) (H' := H1) ?_ z1 o1
  · have hp := kk H1 lsA locs hL hM' hl
    rw [hM.1] at hp
    exact hp
  · refine ⟨_, e1, State.isArrayOf_alike X.al.symm (hAr N _), ?_, (fun h => by cases h), arrV_size _ _ _, fun j hj => ?_⟩
    · have h9 : va_RA Γ.s cA (newarray.typeOf atype) := by
        rcases hty2 with h | h <;> rw [h] at hNm ⊢ <;> exact hNm
      exact h9.moved X.al.symm
    · rw [arrV_read _ _ hj, hdv]
      rfl
theorem pg_lald (X : px_X Γ G cc own) {a n : Nat} {f : Nat → Int64} {i : Int32} (hd : px_D cc pc .laload 1 q) (hr : px_rd G.ρ π a = some (.inl (.long, n, .inr (.inr f)))) (hin : vp_in i n) (kk : px_G Γ G Q w nc ns q ls (.long (f i.toNatClampNeg) :: st) π) : px_G Γ G Q w nc ns pc ls (.int i :: .ref a :: st) π := by
  obtain ⟨hd, rfl⟩ := hd
  intro H lsA locs hL hM hl
  obtain ⟨cell, h1, h2, h3, h4, h5, h6⟩ := X.rd hM hr
  exact W.lald X.1 X.2.1 h1 h2 h4 (by rw [h5]; exact hin) (h6 _ (px_lt_in hin)) rfl rfl hd (kk H lsA locs hL hM hl)
theorem pg_last (X : px_X Γ G cc own) {a n : Nat} {f : Nat → Int64} {i : Int32} {x : Int64} (hd : px_D cc pc .lastore 1 q) (hr : π.2 a = some (.inl (.long, n, .inr (.inr f)))) (hin : vp_in i n) (kk : px_G Γ G Q true nc ns q ls st (px_wr π a (.inl (.long, n, .inr (.inr (vp_updL f i.toNatClampNeg x)))))) : px_G Γ G Q true nc ns pc ls (.long x :: .int i :: .ref a :: st) π := by
  obtain ⟨hd, rfl⟩ := hd
  intro H lsA locs hL hM hl
  obtain ⟨hza, cell, h1, h2, h3, h4, h5, h6⟩ := hM.2.2.2 a _ hr
  refine W.last X.1 X.2.1 h1 (State.isArrayOf_alike X.al h2) h4 (by rw [h5]; exact hin) rfl rfl hd fun H' e1 e2 e3 => ?_
  refine kk H' lsA _ hL (hM.wr hr (px_at_ast h2 h3 h4 h5 h6 e1 (px_lt_in hin) (by simp [px_con, vp_updL]) (fun j hj => by simp [px_con, vp_updL, hj])) e2 e3) ?_
  intro x hx
  rcases List.mem_append.mp hx with h | h
  · exact hl x h
  · rw [List.mem_singleton.mp h]
    exact ⟨rfl, hza⟩
theorem pg_newl (X : px_X Γ G cc own) (hw : Cond.arrayClass .long ∈ G.Ts) {n : Int32} {N : Nat} (hd : px_D cc pc (.newarray .long) 2 q) (hn : ¬ n < 0) (hN : n.toNatClampNeg = N) (hb : N ≤ 65536) (hcells : nc + 1 ≤ Γ.R.cells) (hslots : ns + N ≤ Γ.R.slots) (kk : px_G Γ G Q w (nc + 1) (ns + N) q ls (.ref π.1 :: st) (px_nw π (.inl (.long, N, .inr (.inr (fun _ => 0)))))) : px_G Γ G Q w nc ns pc ls (.int n :: st) π := by
  obtain ⟨hd, rfl⟩ := hd
  intro H lsA locs hL hM hl
  refine va_newaK (atype := .long) X.1 X.2.1 (X.word hw) rfl hd rfl hn hN (by show N * 8 ≤ _; omega) hcells hslots rfl fun H1 cA e1 z1 o1 hAr hNm => ?_
  have hM' := hM.nw (e' := .inl (.long, N, .inr (.inr (fun _ => 0)))) (H' := H1) ?_ z1 o1
  · have hp := kk H1 lsA locs hL hM' hl
    rw [hM.1] at hp
    exact hp
  · refine ⟨_, e1, State.isArrayOf_alike X.al.symm (hAr N _), ?_, (fun h => by cases h), arrV_size _ _ _, fun j hj => ?_⟩
    · have h9 : va_RA Γ.s cA .long := hNm
      exact h9.moved X.al.symm
    · rw [arrV_read _ _ hj]
      rfl
theorem pg_anew (X : px_X Γ G cc own) {index : Nat} {C : String} (hw : Cond.classLink own index C ∈ G.Ts) (hw2 : (Cond.arrayOver (.object C)).before Γ.args Γ.s = true) {n : Int32} {N : Nat} (hd : px_D cc pc (.anewarray index) 3 q) (hn : ¬ n < 0) (hN : n.toNatClampNeg = N) (hb : N ≤ 65536) (hcells : nc + 1 ≤ Γ.R.cells) (hslots : ns + N ≤ Γ.R.slots) (kk : px_G Γ G Q w (nc + 1) (ns + N) q ls (.ref π.1 :: st) (px_nw π (.inl (.object C, N, .inr (.inl (fun _ => none)))))) : px_G Γ G Q w nc ns pc ls (.int n :: st) π := by
  obtain ⟨hd, rfl⟩ := hd
  subst hN
  intro H lsA locs hL hM hl
  refine W.anew X.1 X.2.1 X.2.2.1 (X.word hw) hw2 rfl hd rfl hn (by omega) hcells hslots fun cA kA comp c1 c2 c3 c4 => ?_
  have hM' := hM.nw (e' := .inl (.object C, n.toNatClampNeg, .inr (.inl (fun _ => none)))) (H' := H.push { cls := cA, slots := Array.replicate n.toNatClampNeg .null, vm := .none }) ?_ (by simp) (fun q hq => by rw [Array.getElem?_push, if_neg (Nat.ne_of_lt hq)])
  · have hp := kk _ lsA locs hL hM' hl
    rw [hM.1] at hp
    exact hp
  · refine ⟨{ cls := cA, slots := Array.replicate n.toNatClampNeg .null, vm := .none }, by simp, State.isArrayOf_alike X.al.symm ⟨(fun k h => by cases h), kA, c2, comp, c3⟩, (va_RA.moved (u := Γ.s) X.al.symm ⟨kA, comp, c2, c3, c4, c1⟩), (fun h => by cases h), by simp, fun j hj => ?_⟩
    show (Array.replicate n.toNatClampNeg Value.null)[j]? = _
    rw [Array.getElem?_replicate, if_pos hj]
    rfl
theorem pg_new (X : px_X Γ G cc own) {index ci : Nat} {C : String} {T : u_T} {N : Nat} {ty0 : Nat → FieldType} {fs : List Value} (hc : G.cl[ci]? = some (C, T, N)) (hin : ∀ w ∈ u_ws C T N, w ∈ G.Ts) (hty : ∀ k, k < N → parseFieldDescriptor (T k).2.2.1 = some (ty0 k)) (hw : Cond.classLink own index C ∈ G.Ts) (hw2 : Cond.instantiable C N ∈ G.Ts) (hw3 : Cond.initialized C ∈ G.Ts) (hd : px_D cc pc (.new index) 3 q) (hlen : fs.length = N) (hfs : ∀ j, j < N → defaultValue (ty0 j) = vp_V fs j) (hcells : nc + 1 ≤ Γ.R.cells) (hslots : ns + N ≤ Γ.R.slots) (kk : px_G Γ G Q w (nc + 1) (ns + N) q ls (.ref π.1 :: st) (px_nw π (.inr (ci, fs)))) : px_G Γ G Q w nc ns pc ls st π := by
  obtain ⟨hd, rfl⟩ := hd
  intro H lsA locs hL hM hl
  have hKn := X.K.1 ci _ hc
  have hts : ∀ w ∈ u_ws C T N, w.before Γ.args Γ.s = true := fun w hw => X.word (hin w hw)
  refine W.newcK X.1 X.2.1 X.2.2.1 (X.word hw) (X.word hw2) (X.word hw3) rfl hd hcells hslots hKn.2.1 rfl fun H1 kC hkC e1 z1 o1 => ?_
  have hM' := hM.nw (e' := .inr (ci, fs)) (H' := H1) ⟨_, hc, hlen, (u_born ty0 hts (fun w h => h) hKn hkC e1 hty).to hfs⟩ z1 o1
  have hp := kk H1 lsA locs hL hM' hl
  rw [hM.1] at hp
  exact hp
end PGH
end
section
/-! CONTRACTS AND CALLS: a method may return or throw -/
def px_FX (first t : State) (L : List Loc) (k n : Nat) : Prop := first.WarmedH t.vm ∧ first.sameButNew ({ t with vm := first.vm } : State) L k n
def px_Met (l : Launch) (y : MethodName) (ws : List Cond) (rm : Room) (Pc : Array Value → State → Prop) (Qc : Array Value → State → Outcome → State → Prop) (mc ms : Nat) (free : Addr → Prop) : Prop :=
  MetFree l y (headSpec ws rm) Pc (fun _ _ _ _ _ => True) (fun a st o t => Qc a st o t ∧ ∃ L, px_FX st t L mc ms ∧ ∀ q ∈ L, free q.base)
def px_MQ (below : List Frame) (Qc : Array Value → State → Outcome → State → Prop) (a : Array Value) (s : State) (mc ms : Nat) (free : Addr → Prop) : State → Prop := fun t =>
  ∃ o, t.status = .running ∧ Ended t below o ∧ Qc a s o t ∧ ∃ L, px_FX s t L mc ms ∧ ∀ q ∈ L, free q.base
theorem px_MQ.of {below : List Frame} {Qc : Array Value → State → Outcome → State → Prop} {a : Array Value} {s : State} {mc ms : Nat} {free : Addr → Prop} {t : State} (h : MQ below Qc a s mc ms free t) : px_MQ below Qc a s mc ms free t := by
  obtain ⟨o, h1, h2, h3, L, ⟨-, h4, h5⟩, h6⟩ := h
  exact ⟨o, h1, h2, h3, L, ⟨h4, h5⟩, h6⟩
theorem px_Wm {p : Program} {l : Launch} {e : Env} {R : Room} {s : State} {m : MethodId} {args : Array Value} {below : List Frame} {meth : Method} {c : Code} {H : Heap} {locs : List Loc} {cells slots : Nat} {Q Q' : State → Prop} {g : JFrame} (h : ∀ t, Q t → Q' t) (k : W p l e R s m args below meth c H locs cells slots Q g) : W p l e R s m args below meth c H locs cells slots Q' g := by
  intro T hT X
  obtain ⟨t, a, b⟩ := k T hT X
  exact ⟨t, a, h t b⟩
theorem px_Met.ofW {l : Launch} {y : MethodName} {rm : Room} {Pc : Array Value → State → Prop} {Qc : Array Value → State → Outcome → State → Prop} {mc ms : Nat} {free : Addr → Prop} {cc : ByteArray} {maxL : Nat} {ret : Option FieldType}
    (hy : plainName y.cls = true)
    (body : ∀ p e s m args below meth c s₁, BodyLoose p l y (headSpec [Cond.code y cc maxL ret] rm) cc maxL ret e s m args below meth c s₁ → c.maxLocals = maxL → Pc args s →
      W p l e rm s m args below meth c s.heap [] 0 0 (px_MQ below Qc args s mc ms free) (entryFrame m args maxL)) : px_Met l y [Cond.code y cc maxL ret] rm Pc Qc mc ms free := by
  refine MetFree.of_bodyS (code := cc) (maxLocals := maxL) (ret := ret) hy ?_ ?_
  · intro args s m h hn
    obtain ⟨meth, c, h1, h2, h3, h4, h5, h6, -, -⟩ := Cond.code_spec hn (atoms_spec (ws := [Cond.code y cc maxL ret]) h _ List.mem_cons_self)
    exact ⟨meth, c, h1, h2, h3, h4, h5, h6⟩
  · intro p e s m args below meth c s₁ B hml hP _
    have hh0 : s₁.heap = s.heap := by rw [B.state]; rfl
    obtain ⟨t, a1, o, b1, b2, b3⟩ := body p e s m args below meth c s₁ B hml hP s₁ hh0 (Stand.of_body B)
    exact ⟨t, o, a1, b1, b2, ⟨b3.1, b3.2⟩⟩
/-- how a call ended: a value or none; or an exception of the class called k -/
def px_O (o : Outcome) (t : State) (r : Option Value ⊕ String) : Prop := match r with
  | .inl v => o = .returned v
  | .inr k => ∃ (x : Addr) (cell : Cell), o = .threw x ∧ t.heap[x]? = some cell ∧ cell.vm = .none ∧ t.vm.findClass k = some cell.cls
def px_Qc (G : px_Cg) (K : Option Value ⊕ String → px_H → Prop) : Array Value → State → Outcome → State → Prop := fun _ _ o t => ∃ (r : Option Value ⊕ String) (π' : px_H), px_O o t r ∧ K r π' ∧ px_W G.S0 G.D G.cl G.z0 π' t
/-- THE CONTRACT of a method y at the pure heap π: its ends are those that K names -/
def px_P (l : Launch) (G : px_Cg) (y : MethodName) (cc : ByteArray) (maxL : Nat) (ret : Option FieldType) (rm : Room) (w : Bool) (av : List Value) (π : px_H) (K : Option Value ⊕ String → px_H → Prop) : Prop :=
  px_Met l y [Cond.code y cc maxL ret] rm (va_Pc av (fun U => px_W G.S0 G.D G.cl G.z0 π U)) (px_Qc G K) rm.cells rm.slots (px_fr G w)
def px_Q (Γ : px_Cm) (G : px_Cg) (w : Bool) (K : Option Value ⊕ String → px_H → Prop) : State → Prop := px_MQ Γ.below (px_Qc G K) Γ.args Γ.s Γ.R.cells Γ.R.slots (px_fr G w)
def px_Y (Γ : px_Cm) (ret : Option FieldType) : Prop := Γ.meth.sig.returnType = ret ∧ Γ.meth.locks = false ∧ ∀ x ∈ Γ.c.exceptionTable.toList, False
theorem px_args1 {vs : List Value} (h : ∀ v ∈ vs, v.category = 1) : ∀ (k i : Nat) (v : Value), vs[i]? = some v → (k + i, v) ∈ lv_args k vs := by
  induction vs with
  | nil => intro k i v hi; simp at hi
  | cons a r ih =>
    intro k i v hi
    have ha : a.category = 1 := h a List.mem_cons_self
    cases i with
    | zero =>
      simp at hi
      subst hi
      simp [lv_args]
    | succ j =>
      have h2 := ih (fun v hv => h v (List.mem_cons_of_mem _ hv)) (k + 1) j v (by simpa using hi)
      rw [lv_args, if_neg (by omega)]
      refine List.mem_cons_of_mem _ ?_
      rw [show k + (j + 1) = k + 1 + j by omega]
      exact h2
theorem px_sl1 {vs : List Value} (h : ∀ v ∈ vs, v.category = 1) : (lg_sl vs).length = vs.length := by
  induction vs with
  | nil => rfl
  | cons a r ih =>
    have ha : a.category = 1 := h a List.mem_cons_self
    have h2 := ih (fun v hv => h v (List.mem_cons_of_mem _ hv))
    unfold lg_sl at h2 ⊢
    rw [List.flatMap_cons, if_neg (by omega), List.length_append, h2]
    simp
    omega
/-- a contract out of a walk from its entry -/
theorem px_P.intro {l : Launch} {G : px_Cg} {y : MethodName} {cc : ByteArray} {maxL : Nat} {ret : Option FieldType} {rm : Room} {w : Bool} {av : List Value} {π : px_H} {K : Option Value ⊕ String → px_H → Prop} {ls : List (Option Value)}
    (hy : plainName y.cls = true) (hZ : px_Z G.S0 G.D G.cl G.z0 G.ρ G.Ts) (hcat : ∀ v ∈ av, v.category = 1) (hlen : av.length ≤ maxL) (hls : ls = av.map some ++ List.replicate (maxL - av.length) none)
    (body : ∀ Γ : px_Cm, Γ.l = l → Γ.R = rm → px_X Γ G cc y.cls → px_Y Γ ret → Γ.meth.name = y.name → Γ.s.heap.size = π.1 → px_G Γ G (px_Q Γ G w K) false 0 0 0 ls [] π) : px_P l G y cc maxL ret rm w av π K := by
  refine px_Met.ofW hy ?_
  intro p e s m args below meth c s₁ B hml hv
  obtain ⟨rfl, hW, hM⟩ := hv
  have hcode : (Cond.code y cc maxL ret).before av.toArray s = true := atoms_spec (ws := [Cond.code y cc maxL ret]) B.pre _ List.mem_cons_self
  have hno := B.noHandlers hcode
  have h := body (p, l, e, rm, s, m, av.toArray, below, meth, c) rfl rfl ⟨B.exec, B.bytes, findClass_of_methodNamed B.named, hW, hZ⟩ ⟨B.returns, B.notSynchronized, fun x hx => by
    have h0 : c.exceptionTable.size = 0 := by simpa [Array.isEmpty] using hno
    have h1 : c.exceptionTable.toList.length = 0 := by rw [Array.length_toList]; exact h0
    rw [List.length_eq_zero_iff.mp h1] at hx
    cases hx⟩ (name_of_methodNamed B.named B.method).1 hM.1.symm
  have hl := lv_entry av (n := maxL) (by rw [px_sl1 hcat]; exact hlen)
  rw [lg_entry_eq]
  refine h s.heap _ [] ⟨by rw [hml]; exact hl.1, hl.2.1, by rw [hls, hml]; simp; omega, fun i v hi => ?_⟩ hM (fun q hq => by cases hq)
  have hi2 : av[i]? = some v := by
    rw [hls] at hi
    by_cases hlt : i < av.length
    · rw [List.getElem?_append_left (by simpa using hlt), List.getElem?_map] at hi
      cases hq : av[i]? with
      | none => rw [hq] at hi; cases hi
      | some w =>
        rw [hq] at hi
        simp at hi
        rw [hi]
    · rw [List.getElem?_append_right (by simpa using Nat.not_lt.mp hlt), List.getElem?_replicate] at hi
      split at hi <;> cases hi
  refine ⟨hcat v (List.mem_of_getElem? hi2), ?_⟩
  have h3 := hl.2.2 _ (px_args1 hcat 0 i v hi2)
  simpa using h3
section PGC
variable {p : Program} {l : Launch} {e : Env} {R : Room} {s : State} {m : MethodId} {args : Array Value} {below : List Frame} {meth : Method} {c : Code} {U : State} {Ls : List Loc} {c0 s0 : Nat}
/-- the call of a method that is met: back behind it, or with an exception over the caller's frame -/
theorem px_back {y : MethodName} {ws : List Cond} {rm : Room} {Pc : Array Value → State → Prop} {Qc : Array Value → State → Outcome → State → Prop} {mc ms : Nat} {free : Addr → Prop} {bytes : ByteArray} {maxL : Nat} {ret : Option FieldType} {Wd len : Nat} {ig : Instr}
    (hM : px_Met l y ws rm Pc Qc mc ms free) (hrc : rm.cells = mc) (hrs : rm.slots = ms) (X : Stand p l e R s m args below meth c U Ls c0 s0) {g : JFrame} (hg : g.method = m) (hsize : g.locals.size = c.maxLocals) (hdg : decode c.code g.pc = .ok (ig, len))
    (hWd : 2 * g.monitorRoom + (g.stack.map fun v => v.category).sum ≤ Wd) (hframes : rm.frames + 1 ≤ R.frames) (hlocals : Wd + (maxL + 11) + rm.locals ≤ R.locals) {mk : MethodId} (hn : U.methodNamed? y = some mk) {a : Array Value} (hws : (allAtoms ws).before a U = true)
    (hcode : (Cond.code y bytes maxL ret).before a U = true) (hini : (Cond.initialized y.cls).before a U = true) (hcc : c0 + mc ≤ R.cells) (hcs : s0 + ms ≤ R.slots) (hP : Pc a (U.calling g mk a)) :
    ∃ (o : Outcome) (t B : State) (L : List Loc), Stand p l e R s m args below meth c B (Ls ++ L) (c0 + mc) (s0 + ms) ∧ B.heap = t.heap ∧ B.vm = t.vm ∧ (∀ q ∈ L, free q.base) ∧ Qc a (U.calling g mk a) o t ∧
      Steps p.tables e below (doInvoke e (U.setTop g) [] mk a).1 (match o with | .returned v => B.setTop { g with pc := g.pc + len, stack := v.toList ++ g.stack } | .threw x => (B.setTop g).pushFrame (.throwing x)) := by
  obtain ⟨methY, cY, hmY, hcY, -, hlY, -, -, -, -⟩ := Cond.code_spec hn hcode
  obtain ⟨kY, hkY, -⟩ := className_of_methodNamed hn
  have hinitY : kY.init = .initialized := Cond.initialized_spec (findClass_of_methodNamed hn) hkY hini
  have h : At U g.method c below := by rw [hg]; exact X.here
  have happ : (headSpec ws rm).appliesLoose y e.platform (U.calling g mk a) = true :=
    Spec.appliesLoose_calling (g := g) h hdg hn hkY hinitY
      (X.room_calling (g := g) (R' := rm) hsize hmY hcY hframes (by rw [hlY]; omega) (by rw [hrc]; exact hcc) (by rw [hrs]; exact hcs)) hws
  obtain ⟨mid, hmid⟩ := h.above
  have hfr : (U.setTop g).frames = (.java g :: mid) ++ below := by rw [State.frames_setTop' g h.top, hmid]; rfl
  obtain ⟨o, s₂, hsteps, -, hend, hq⟩ := Steps.callFree hM p X.admits X.cas X.clock (acts := []) hfr happ hP trivial
  have hq' : Qc a (U.calling g mk a) o s₂ ∧ ∃ L, px_FX (U.calling g mk a) s₂ L mc ms ∧ ∀ q ∈ L, free q.base := hq
  rw [State.frames_setTop' g h.top] at hend
  obtain ⟨hq1, L, ⟨hW₂, e2, q2, q3, q4, q5, q6⟩, hL⟩ := hq'
  have e3 : s₂ = ({ (U.calling g mk a).setFrames s₂.frames with heap := s₂.heap, slotsUsed := s₂.slotsUsed } : State).setVm s₂.vm := by
    have : s₂ = ({ s₂ with vm := (U.calling g mk a).vm } : State).setVm s₂.vm := rfl
    rw [e2] at this
    exact this
  have hW' : U.WarmedH s₂.vm := hW₂
  obtain ⟨g₀, hg0⟩ := Option.isSome_iff_exists.mp h.top
  obtain ⟨r, hr⟩ := State.topJava?_eq_some.mp hg0
  have hr' : (({ U with heap := s₂.heap, slotsUsed := s₂.slotsUsed } : State).setVm s₂.vm).frames = .java g₀ :: r := hr
  have hsame : U.sameButNew ({ U with heap := s₂.heap, slotsUsed := s₂.slotsUsed } : State) L mc ms := by
    refine ⟨?_, q2, q3, q4, q5, q6⟩
    obtain ⟨t, ht, -⟩ := State.frames_cons hr
    show ({ U with heap := s₂.heap, slotsUsed := s₂.slotsUsed } : State) = { U.setFrames U.frames with heap := s₂.heap, slotsUsed := s₂.slotsUsed }
    rw [State.setFrames_self ht]
  refine ⟨o, s₂, (({ U with heap := s₂.heap, slotsUsed := s₂.slotsUsed } : State).setVm s₂.vm), L,
    ⟨X.admits, X.cas, X.clock, X.frames, X.room, X.hears, X.method, X.code, (X.here.setHeapUsed s₂.heap s₂.slotsUsed).setVm hW'.alike, X.tail, State.WarmedH.trans X.warmed hW', X.limits, X.bytes, X.same.trans (hsame.setVm s.vm)⟩, rfl, rfl, hL, hq1, ?_⟩
  cases o with
  | returned v =>
    obtain ⟨c₂, i₂, len₂, hc₂, hd₂, hf₂⟩ := hend
    have hcc : c₂ = c := by
      have h1 : s₂.code? g.method = U.code? g.method := by
        rw [State.code?_eq, State.code?_eq, hW'.alike.method?]
      exact Option.some.inj (hc₂.symm.trans (h1.trans h.code))
    subst hcc
    have hlen : len₂ = len := by rw [hdg] at hd₂; cases hd₂; rfl
    subst hlen
    have hs₂ : s₂ = (({ U with heap := s₂.heap, slotsUsed := s₂.slotsUsed } : State).setVm s₂.vm).setTop { g with pc := g.pc + len₂, stack := v.toList ++ g.stack } := by
      refine e3.trans ?_
      rw [hf₂, State.calling_eq h.top, State.setFrames_setFrames, State.setTop_of_frames _ hr', hr]
      rfl
    show Steps p.tables e below _ ((({ U with heap := s₂.heap, slotsUsed := s₂.slotsUsed } : State).setVm s₂.vm).setTop { g with pc := g.pc + len₂, stack := v.toList ++ g.stack })
    rw [← hs₂]
    exact hsteps
  | threw x =>
    have hf₂ : s₂.frames = .throwing x :: (.java g :: U.frames.tail) := hend
    have hs₂ : s₂ = ((({ U with heap := s₂.heap, slotsUsed := s₂.slotsUsed } : State).setVm s₂.vm).setTop g).pushFrame (.throwing x) := by
      refine e3.trans ?_
      rw [State.pushFrame, State.frames_setTop _ hr', State.setTop_of_frames _ hr', State.setFrames_setFrames, hf₂, State.calling_eq h.top, State.setFrames_setFrames, hr]
      rfl
    show Steps p.tables e below _ (((({ U with heap := s₂.heap, slotsUsed := s₂.slotsUsed } : State).setVm s₂.vm).setTop g).pushFrame (.throwing x))
    rw [← hs₂]
    exact hsteps
end PGC
end
section
/-! INVOKE AND RETURN over px_G -/
/-- what the machine gives at a call: the outcome o, and how it goes on -/
def px_Run (Γ : px_Cm) (H : Heap) (locs : List Loc) (nc ns mc ms : Nat) (g : JFrame) (rest : List Value) (Qa : Outcome → State → Prop) (free : Addr → Prop) : Prop :=
  ∀ T : State, T.heap = H → Stand Γ.p Γ.l Γ.e Γ.R Γ.s Γ.m Γ.args Γ.below Γ.meth Γ.c T locs nc ns → ∃ (o : Outcome) (t T' : State) (L : List Loc), Stand Γ.p Γ.l Γ.e Γ.R Γ.s Γ.m Γ.args Γ.below Γ.meth Γ.c T' (locs ++ L) (nc + mc) (ns + ms) ∧ (∀ q ∈ L, free q.base) ∧ T'.heap = t.heap ∧ T'.vm = t.vm ∧ Qa o t ∧
    ∀ target, Steps Γ.p.tables Γ.e Γ.below (match o with | .returned v => T'.setTop { g with pc := g.pc + 3, stack := v.toList ++ rest } | .threw x => (T'.setTop { g with stack := rest }).pushFrame (.throwing x)) target → Steps Γ.p.tables Γ.e Γ.below (T.setTop g) target
section PGI
variable {Γ : px_Cm} {G : px_Cg} {K : Option Value ⊕ String → px_H → Prop} {Q : State → Prop} {cc : ByteArray} {own : String} {w w1 w2 : Bool} {nc ns pc q : Nat} {ls : List (Option Value)} {st : List Value} {π : px_H}
/-- the words of a call of y at pool place index -/
def px_CW (Ts : List Cond) (own : String) (index : Nat) (y : MethodName) (cc : ByteArray) (maxL : Nat) (ret : Option FieldType) (n : Nat) : Prop :=
  (Cond.methodLink own index y ∈ Ts ∨ ∃ host, Cond.methodLinkNest own index y host ∈ Ts) ∧ Cond.code y cc maxL ret ∈ Ts ∧ Cond.initialized y.cls ∈ Ts ∧ (y.cls ≠ "java/lang/invoke/MethodHandle" ∧ y.cls ≠ "java/lang/invoke/VarHandle") ∧ (parseMethodDescriptor y.desc).map (fun d => d.parameters.length) = some n
def px_fit (R rm : Room) (maxL : Nat) : Prop := rm.frames + 1 ≤ R.frames ∧ 8 + (maxL + 11) + rm.locals ≤ R.locals
theorem px_pre (X : px_X Γ G cc own) {H : Heap} (hM : px_M G.S0 G.D G.cl G.z0 π H) {av : List Value} {U : State} (hU : U.heap = H) (hW : Γ.s.WarmedH U.vm) (g : JFrame) (mk : MethodId) : va_Pc av (fun U => px_W G.S0 G.D G.cl G.z0 π U) av.toArray (U.calling g mk av.toArray) := by
  refine ⟨rfl, State.WarmedH.trans X.2.2.2.1 hW, ?_⟩
  show px_M G.S0 G.D G.cl G.z0 π U.heap
  rw [hU]
  exact hM
theorem px_runV (X : px_X Γ G cc own) {y : MethodName} {bytes : ByteArray} {maxL n index : Nat} {ret : Option FieldType} {rm : Room} {b : Nat} {As rest : List Value} {K' : Option Value ⊕ String → px_H → Prop} {H : Heap} {locs : List Loc} {g : JFrame}
    (hP : px_P Γ.l G y bytes maxL ret rm w2 (.ref b :: As) π K') (hM : px_M G.S0 G.D G.cl G.z0 π H) (cw : px_CW G.Ts own index y bytes maxL ret n) (hin : Cond.instanceMethod y ∈ G.Ts) (hse : (Cond.selects y.cls y y).before Γ.args Γ.s = true) (hfit : px_fit Γ.R rm maxL)
    (hob : ∃ cellB : Cell, H[b]? = some cellB ∧ cellB.vm.isStatics = false ∧ Γ.s.vm.findClass y.cls = some cellB.cls)
    (hg : g.method = Γ.m) (hn : As.length = n) (hsize : g.locals.size = Γ.c.maxLocals) (hstack : g.stack = As.reverse ++ .ref b :: rest) (hWd : 2 * g.monitorRoom + (rest.map fun v => v.category).sum ≤ 8) (hdg : decode cc g.pc = .ok (.invokevirtual index, 3)) (hf : nc + rm.cells ≤ Γ.R.cells ∧ ns + rm.slots ≤ Γ.R.slots) :
    px_Run Γ H locs nc ns rm.cells rm.slots g rest (fun o t => px_Qc G K' #[] Γ.s o t) (px_fr G w2) := by
  obtain ⟨hlink, hcode, hini, hy, hlen⟩ := cw
  obtain ⟨cellB, hcell, hobj, hcls⟩ := hob
  have hlen : ∀ sig, parseMethodDescriptor y.desc = some sig → As.length = sig.parameters.length := fun sig h => by
    rw [h] at hlen
    simp at hlen
    rw [hn, hlen]
  intro T hT S
  obtain ⟨mk, methM, hnamed, hmethM, hstM, habM⟩ := Cond.instanceMethod_spec (X.word hin)
  obtain ⟨methM', cM, hmethM', -, -, -, -, -, -, hsigM⟩ := Cond.code_spec hnamed (X.word hcode)
  cases hmethM.symm.trans hmethM'
  obtain ⟨c2, r2, m2, q1, q2, q3, q4, kP, hkP, hkPi⟩ := Cond.selects_spec hse
  cases hcls.symm.trans q1
  cases (State.methodFound?_of_named hnamed hy).symm.trans q2
  cases hnamed.symm.trans q3
  have hselP : selectMethod Γ.e.platform Γ.s.vm cellB.cls mk = .method mk := by rw [Launch.admits_selectMethod S.admits]; exact q4
  have hb := X.2.1
  have hdg' : decode Γ.c.code g.pc = .ok (.invokevirtual index, 3) := by rw [hb]; exact hdg
  have main : ∀ vm₁, Stand Γ.p Γ.l Γ.e Γ.R Γ.s Γ.m Γ.args Γ.below Γ.meth Γ.c (T.setVm vm₁) locs nc ns → (∀ target, (∀ acts, Steps Γ.p.tables Γ.e Γ.below (doInvoke Γ.e ((T.setVm vm₁).setTop { g with stack := rest }) acts mk (Value.ref b :: As).toArray).1 target) → Steps Γ.p.tables Γ.e Γ.below (T.setTop g) target) →
      ∃ (o : Outcome) (t T' : State) (L : List Loc), Stand Γ.p Γ.l Γ.e Γ.R Γ.s Γ.m Γ.args Γ.below Γ.meth Γ.c T' (locs ++ L) (nc + rm.cells) (ns + rm.slots) ∧ (∀ q ∈ L, px_fr G w2 q.base) ∧ T'.heap = t.heap ∧ T'.vm = t.vm ∧ px_Qc G K' #[] Γ.s o t ∧
        ∀ target, Steps Γ.p.tables Γ.e Γ.below (match o with | .returned v => T'.setTop { g with pc := g.pc + 3, stack := v.toList ++ rest } | .threw x => (T'.setTop { g with stack := rest }).pushFrame (.throwing x)) target → Steps Γ.p.tables Γ.e Γ.below (T.setTop g) target := by
    intro vm₁ X₁ hstep₁
    have hWd' : 2 * ({ g with stack := rest } : JFrame).monitorRoom + (({ g with stack := rest } : JFrame).stack.map fun v => v.category).sum ≤ 8 := hWd
    have hw2 : G.S0.WarmedH (T.setVm vm₁).vm := State.WarmedH.trans X.2.2.2.1 X₁.warmed
    obtain ⟨o, t, B, L, X', e1, e2, hL, hq, hsteps⟩ := px_back (bytes := bytes) (maxL := maxL) (ret := ret) (len := 3) (ig := .invokevirtual index) hP rfl rfl X₁ (g := { g with stack := rest }) hg hsize hdg' hWd' hfit.1 hfit.2 (X₁.named hnamed) (a := (Value.ref b :: As).toArray)
      (atoms_intro fun w hw => by rw [List.mem_singleton.mp hw]; exact px_word X.2.2.2.2 hw2 _ hcode) (px_word X.2.2.2.2 hw2 _ hcode) (px_word X.2.2.2.2 hw2 _ hini) hf.1 hf.2 (px_pre X hM (av := .ref b :: As) (U := T.setVm vm₁) hT X₁.warmed _ _)
    refine ⟨o, t, B, L, X', hL, e1, e2, hq, fun target h => hstep₁ _ fun acts => ?_⟩
    rw [doInvoke_state]
    refine hsteps.trans ?_
    cases o <;> exact h
  rcases hlink with hlink | ⟨host, hlink⟩
  · obtain ⟨vm₁, X₁, hstep₁⟩ := S.invokevirtual X.1 X.2.2.1 (X.word hlink) hnamed hmethM hstM hkP hkPi hy (a := b) (cell := cellB) (by rw [hT]; exact hcell)
      (fun z h => by rw [h] at hobj; cases hobj) hselP hmethM habM hkP hkPi (g := g) hg (argsL := As) (rest := rest) (hlen _ hsigM) hstack hdg'
    exact main vm₁ X₁ hstep₁
  · obtain ⟨vm₁, X₁, hstep₁⟩ := S.invokevirtualNest X.1 X.2.2.1 (X.word hlink) hnamed hmethM hstM hkP hkPi hy (a := b) (cell := cellB) (by rw [hT]; exact hcell)
      (fun z h => by rw [h] at hobj; cases hobj) hselP hmethM habM hkP hkPi (g := g) hg (argsL := As) (rest := rest) (hlen _ hsigM) hstack hdg'
    exact main vm₁ X₁ hstep₁
theorem px_runS (X : px_X Γ G cc own) {y : MethodName} {bytes : ByteArray} {maxL n index : Nat} {ret : Option FieldType} {rm : Room} {As rest : List Value} {K' : Option Value ⊕ String → px_H → Prop} {H : Heap} {locs : List Loc} {g : JFrame}
    (hP : px_P Γ.l G y bytes maxL ret rm w2 As π K') (hM : px_M G.S0 G.D G.cl G.z0 π H) (cw : px_CW G.Ts own index y bytes maxL ret n) (hst : Cond.static y ∈ G.Ts) (hfit : px_fit Γ.R rm maxL)
    (hg : g.method = Γ.m) (hn : As.length = n) (hsize : g.locals.size = Γ.c.maxLocals) (hstack : g.stack = As.reverse ++ rest) (hWd : 2 * g.monitorRoom + (rest.map fun v => v.category).sum ≤ 8) (hdg : decode cc g.pc = .ok (.invokestatic index, 3)) (hf : nc + rm.cells ≤ Γ.R.cells ∧ ns + rm.slots ≤ Γ.R.slots) :
    px_Run Γ H locs nc ns rm.cells rm.slots g rest (fun o t => px_Qc G K' #[] Γ.s o t) (px_fr G w2) := by
  obtain ⟨hlink, hcode, hini, hy, hlen⟩ := cw
  have hlen : ∀ sig, parseMethodDescriptor y.desc = some sig → As.length = sig.parameters.length := fun sig h => by
    rw [h] at hlen
    simp at hlen
    rw [hn, hlen]
  intro T hT S
  obtain ⟨mk, hnamed⟩ := Cond.code_named (X.word hcode)
  obtain ⟨methM, cM, hmethM, -, -, -, -, -, -, hsigM⟩ := Cond.code_spec hnamed (X.word hcode)
  have hstatic : methM.isStatic = true := Cond.static_spec hnamed hmethM (X.word hst)
  obtain ⟨kP, hkP, -⟩ := className_of_methodNamed hnamed
  have hinitP : kP.init = .initialized := Cond.initialized_spec (findClass_of_methodNamed hnamed) hkP (X.word hini)
  have hb := X.2.1
  have hdg' : decode Γ.c.code g.pc = .ok (.invokestatic index, 3) := by rw [hb]; exact hdg
  have main : ∀ vm₁, Stand Γ.p Γ.l Γ.e Γ.R Γ.s Γ.m Γ.args Γ.below Γ.meth Γ.c (T.setVm vm₁) locs nc ns → (∀ target, (∀ acts, Steps Γ.p.tables Γ.e Γ.below (doInvoke Γ.e ((T.setVm vm₁).setTop { g with stack := rest }) acts mk As.toArray).1 target) → Steps Γ.p.tables Γ.e Γ.below (T.setTop g) target) →
      ∃ (o : Outcome) (t T' : State) (L : List Loc), Stand Γ.p Γ.l Γ.e Γ.R Γ.s Γ.m Γ.args Γ.below Γ.meth Γ.c T' (locs ++ L) (nc + rm.cells) (ns + rm.slots) ∧ (∀ q ∈ L, px_fr G w2 q.base) ∧ T'.heap = t.heap ∧ T'.vm = t.vm ∧ px_Qc G K' #[] Γ.s o t ∧
        ∀ target, Steps Γ.p.tables Γ.e Γ.below (match o with | .returned v => T'.setTop { g with pc := g.pc + 3, stack := v.toList ++ rest } | .threw x => (T'.setTop { g with stack := rest }).pushFrame (.throwing x)) target → Steps Γ.p.tables Γ.e Γ.below (T.setTop g) target := by
    intro vm₁ X₁ hstep₁
    have hWd' : 2 * ({ g with stack := rest } : JFrame).monitorRoom + (({ g with stack := rest } : JFrame).stack.map fun v => v.category).sum ≤ 8 := hWd
    have hw2 : G.S0.WarmedH (T.setVm vm₁).vm := State.WarmedH.trans X.2.2.2.1 X₁.warmed
    obtain ⟨o, t, B, L, X', e1, e2, hL, hq, hsteps⟩ := px_back (bytes := bytes) (maxL := maxL) (ret := ret) (len := 3) (ig := .invokestatic index) hP rfl rfl X₁ (g := { g with stack := rest }) hg hsize hdg' hWd' hfit.1 hfit.2 (X₁.named hnamed) (a := As.toArray)
      (atoms_intro fun w hw => by rw [List.mem_singleton.mp hw]; exact px_word X.2.2.2.2 hw2 _ hcode) (px_word X.2.2.2.2 hw2 _ hcode) (px_word X.2.2.2.2 hw2 _ hini) hf.1 hf.2 (px_pre X hM (av := As) (U := T.setVm vm₁) hT X₁.warmed _ _)
    refine ⟨o, t, B, L, X', hL, e1, e2, hq, fun target h => hstep₁ _ fun acts => ?_⟩
    rw [doInvoke_state]
    refine hsteps.trans ?_
    cases o <;> exact h
  rcases hlink with hlink | ⟨host, hlink⟩
  · obtain ⟨vm₁, X₁, hstep₁⟩ := S.invokestatic X.1 X.2.2.1 (X.word hlink) hnamed hmethM hstatic hkP hinitP hy (g := g) hg (argsL := As) (rest := rest) (hlen _ hsigM) hstack hdg'
    exact main vm₁ X₁ hstep₁
  · obtain ⟨vm₁, X₁, hstep₁⟩ := S.invokestaticNest X.1 X.2.2.1 (X.word hlink) hnamed hmethM hstatic hkP hinitP hy (g := g) hg (argsL := As) (rest := rest) (hlen _ hsigM) hstack hdg'
    exact main vm₁ X₁ hstep₁
theorem px_runI (X : px_X Γ G cc own) {y : MethodName} {bytes : ByteArray} {maxL n index : Nat} {rm : Room} {b : Nat} {As rest : List Value} {K' : Option Value ⊕ String → px_H → Prop} {H : Heap} {locs : List Loc} {g : JFrame}
    (hP : px_P Γ.l G y bytes maxL none rm w2 (.ref b :: As) π K') (hM : px_M G.S0 G.D G.cl G.z0 π H) (cw : px_CW G.Ts own index y bytes maxL none n) (hy1 : y.name = "<init>") (hin : Cond.instanceMethod y ∈ G.Ts) (hfit : px_fit Γ.R rm maxL)
    (hg : g.method = Γ.m) (hn : As.length = n) (hsize : g.locals.size = Γ.c.maxLocals) (hstack : g.stack = As.reverse ++ .ref b :: rest) (hWd : 2 * g.monitorRoom + (rest.map fun v => v.category).sum ≤ 8) (hdg : decode cc g.pc = .ok (.invokespecial index, 3)) (hf : nc + rm.cells ≤ Γ.R.cells ∧ ns + rm.slots ≤ Γ.R.slots) :
    px_Run Γ H locs nc ns rm.cells rm.slots g rest (fun o t => px_Qc G K' #[] Γ.s o t) (px_fr G w2) := by
  obtain ⟨hlink, hcode, hini, hy, hlen⟩ := cw
  have hlen : ∀ sig, parseMethodDescriptor y.desc = some sig → As.length = sig.parameters.length := fun sig h => by
    rw [h] at hlen
    simp at hlen
    rw [hn, hlen]
  intro T hT S
  have hb := X.2.1
  have hdg' : decode Γ.c.code g.pc = .ok (.invokespecial index, 3) := by rw [hb]; exact hdg
  have hpl : Γ.e.platform.magicAccessors = ({} : Platform).magicAccessors := by rw [S.admits.platform]
  have main : ∀ vm₁ mk, Γ.s.methodNamed? y = some mk → Stand Γ.p Γ.l Γ.e Γ.R Γ.s Γ.m Γ.args Γ.below Γ.meth Γ.c (T.setVm vm₁) locs nc ns → (∀ target, (∀ acts, Steps Γ.p.tables Γ.e Γ.below (doInvoke Γ.e ((T.setVm vm₁).setTop { g with stack := rest }) acts mk (Value.ref b :: As).toArray).1 target) → Steps Γ.p.tables Γ.e Γ.below (T.setTop g) target) →
      ∃ (o : Outcome) (t T' : State) (L : List Loc), Stand Γ.p Γ.l Γ.e Γ.R Γ.s Γ.m Γ.args Γ.below Γ.meth Γ.c T' (locs ++ L) (nc + rm.cells) (ns + rm.slots) ∧ (∀ q ∈ L, px_fr G w2 q.base) ∧ T'.heap = t.heap ∧ T'.vm = t.vm ∧ px_Qc G K' #[] Γ.s o t ∧
        ∀ target, Steps Γ.p.tables Γ.e Γ.below (match o with | .returned v => T'.setTop { g with pc := g.pc + 3, stack := v.toList ++ rest } | .threw x => (T'.setTop { g with stack := rest }).pushFrame (.throwing x)) target → Steps Γ.p.tables Γ.e Γ.below (T.setTop g) target := by
    intro vm₁ mk hnamed X₁ hstep₁
    have hWd' : 2 * ({ g with stack := rest } : JFrame).monitorRoom + (({ g with stack := rest } : JFrame).stack.map fun v => v.category).sum ≤ 8 := hWd
    have hw2 : G.S0.WarmedH (T.setVm vm₁).vm := State.WarmedH.trans X.2.2.2.1 X₁.warmed
    obtain ⟨o, t, B, L, X', e1, e2, hL, hq, hsteps⟩ := px_back (bytes := bytes) (maxL := maxL) (ret := none) (len := 3) (ig := .invokespecial index) hP rfl rfl X₁ (g := { g with stack := rest }) hg hsize hdg' hWd' hfit.1 hfit.2 (X₁.named hnamed) (a := (Value.ref b :: As).toArray)
      (atoms_intro fun w hw => by rw [List.mem_singleton.mp hw]; exact px_word X.2.2.2.2 hw2 _ hcode) (px_word X.2.2.2.2 hw2 _ hcode) (px_word X.2.2.2.2 hw2 _ hini) hf.1 hf.2 (px_pre X hM (av := .ref b :: As) (U := T.setVm vm₁) hT X₁.warmed _ _)
    refine ⟨o, t, B, L, X', hL, e1, e2, hq, fun target h => hstep₁ _ fun acts => ?_⟩
    rw [doInvoke_state]
    refine hsteps.trans ?_
    cases o <;> exact h
  have hhere : At T g.method Γ.c Γ.below := by rw [hg]; exact S.here
  have hown : Γ.s.vm.findClass own = some g.method.cls := by rw [hg]; exact X.2.2.1
  rcases hlink with hlink | ⟨host, hlink⟩
  · obtain ⟨mk, methM, cM, kP, vm₁, hnamed, hmethM, hcodeM, -, hlocalsM, -, hkP, -, hW₁, hstep₁⟩ := Steps.initColdArgs (e := Γ.e) hhere X.1 S.warmed hpl hown hy1 hy (X.word hlink) (X.word hin) (X.word hcode) (f := g) rfl hlen hstack hdg'
    exact main vm₁ mk hnamed (S.noted hW₁) hstep₁
  · obtain ⟨mk, methM, cM, kP, vm₁, hnamed, hmethM, hcodeM, -, hlocalsM, -, hkP, -, hW₁, hstep₁⟩ := Steps.initColdArgsNest (e := Γ.e) hhere X.1 S.warmed hpl hown hy1 hy (X.word hlink) (X.word hin) (X.word hcode) (f := g) rfl hlen hstack hdg'
    exact main vm₁ mk hnamed (S.noted hW₁) hstep₁
/-- behind a call, in a method without handlers: each end of the callee goes on, or out -/
theorem px_after (X : px_X Γ G cc own) {ret : Option FieldType} (Y : px_Y Γ ret) {mc ms : Nat} {K' : Option Value ⊕ String → px_H → Prop} {H : Heap} {lsA : Array Slot} {locs : List Loc} {st0 : List Value} (hL : px_L Γ.c.maxLocals ls lsA) (hw : w2 = true → w1 = true) (hw1 : w1 = true → w = true) (hl : ∀ q ∈ locs, px_fr G w1 q.base) (h1 : nc + mc ≤ Γ.R.cells) (h2 : ns + ms ≤ Γ.R.slots)
    (hr : px_Run Γ H locs nc ns mc ms (F0 Γ.m pc lsA st0) st (fun o t => px_Qc G K' #[] Γ.s o t) (px_fr G w2))
    (kr : ∀ v π', K' (.inl v) π' → px_G Γ G (px_Q Γ G w K) w1 (nc + mc) (ns + ms) (pc + 3) ls (v.toList ++ st) π') (kt : ∀ k π', K' (.inr k) π' → K (.inr k) π') : W Γ.p Γ.l Γ.e Γ.R Γ.s Γ.m Γ.args Γ.below Γ.meth Γ.c H locs nc ns (px_Q Γ G w K) (F0 Γ.m pc lsA st0) := by
  intro T hT S
  obtain ⟨o, t, T', L, S', hLf, e1, e2, ⟨r, π', hO, hK, hW, hM⟩, hgo⟩ := hr T hT S
  have hl' : ∀ q ∈ locs ++ L, px_fr G w1 q.base := fun q hq => by
    rcases List.mem_append.mp hq with h | h
    · exact hl q h
    · exact ⟨hw (hLf q h).1, (hLf q h).2⟩
  cases r with
  | inl v =>
    have ho : o = .returned v := hO
    subst ho
    obtain ⟨t2, a1, b1⟩ := kr v π' hK T'.heap lsA (locs ++ L) hL (by rw [e1]; exact hM) hl' T' rfl S'
    exact ⟨t2, hgo t2 a1, b1⟩
  | inr k =>
    obtain ⟨x, cell, rfl, hx1, hx2, hx3⟩ := hO
    have S2 := stand_widen S' h1 h2
    obtain ⟨hwalk, hrun, hend, hwarm, hsame⟩ := S2.leaveThrown x (g := { F0 Γ.m pc lsA st0 with stack := st }) rfl rfl rfl (fun y hy => absurd hy (fun h => Y.2.2 y h)) Y.2.1
    refine ⟨T'.setFrames (.throwing x :: Γ.below), hgo _ hwalk, .threw x, hrun, hend, ⟨.inr k, π', ⟨x, cell, rfl, ?_, hx2, ?_⟩, kt k π' hK, ?_, ?_⟩, locs ++ L, ⟨hwarm, hsame⟩, fun q hq => ⟨hw1 (hl' q hq).1, (hl' q hq).2⟩⟩
    · show T'.heap[x]? = some cell
      rw [e1]
      exact hx1
    · show T'.vm.findClass k = some cell.cls
      rw [e2]
      exact hx3
    · show G.S0.WarmedH T'.vm
      rw [e2]
      exact hW
    · show px_M G.S0 G.D G.cl G.z0 π' T'.heap
      rw [e1]
      exact hM
theorem pg_callV (X : px_X Γ G cc own) {ret0 : Option FieldType} (Y : px_Y Γ ret0) {y : MethodName} {bytes : ByteArray} {maxL n index ci : Nat} {ret : Option FieldType} {rm : Room} {b : Nat} {As st0 : List Value} {fs : List Value} {K' : Option Value ⊕ String → px_H → Prop}
    (hd : px_D cc pc (.invokevirtual index) 3 q) (cw : px_CW G.Ts own index y bytes maxL ret n) (hin : Cond.instanceMethod y ∈ G.Ts) (hse : Cond.selects y.cls y y ∈ G.Ts) (hob : px_rd G.ρ π b = some (.inr (ci, fs))) (hci : ∀ r, G.cl[ci]? = some r → r.1 = y.cls) (hn : As.length = n) (hst0 : st0 = As.reverse ++ .ref b :: st) (hWd : (st.map fun v => v.category).sum ≤ 8)
    (hP : px_P Γ.l G y bytes maxL ret rm w2 (.ref b :: As) π K') (hfit : px_fit Γ.R rm maxL) (hw : w2 = true → w1 = true) (hw1 : w1 = true → w = true) (h1 : nc + rm.cells ≤ Γ.R.cells) (h2 : ns + rm.slots ≤ Γ.R.slots)
    (kr : ∀ v π', K' (.inl v) π' → px_G Γ G (px_Q Γ G w K) w1 (nc + rm.cells) (ns + rm.slots) q ls (v.toList ++ st) π') (kt : ∀ k π', K' (.inr k) π' → K (.inr k) π') : px_G Γ G (px_Q Γ G w K) w1 nc ns pc ls st0 π := by
  obtain ⟨hd, rfl⟩ := hd
  intro H lsA locs hL hM hl
  refine px_after X Y hL hw hw1 hl h1 h2 (px_runV X hP hM cw hin (X.word hse) hfit ?_ rfl hn hL.1 hst0 (lv_room hWd) hd ⟨h1, h2⟩) kr kt
  obtain ⟨r, g1, -, cell, g2, g3, g4, -⟩ := X.rd hM hob
  refine ⟨cell, g2, by rw [g4]; rfl, ?_⟩
  rw [g3, ← hci r g1]
  exact (X.K.1 ci r g1).2.1
theorem pg_callS (X : px_X Γ G cc own) {ret0 : Option FieldType} (Y : px_Y Γ ret0) {y : MethodName} {bytes : ByteArray} {maxL n index : Nat} {ret : Option FieldType} {rm : Room} {As st0 : List Value} {K' : Option Value ⊕ String → px_H → Prop}
    (hd : px_D cc pc (.invokestatic index) 3 q) (cw : px_CW G.Ts own index y bytes maxL ret n) (hst : Cond.static y ∈ G.Ts) (hn : As.length = n) (hst0 : st0 = As.reverse ++ st) (hWd : (st.map fun v => v.category).sum ≤ 8)
    (hP : px_P Γ.l G y bytes maxL ret rm w2 As π K') (hfit : px_fit Γ.R rm maxL) (hw : w2 = true → w1 = true) (hw1 : w1 = true → w = true) (h1 : nc + rm.cells ≤ Γ.R.cells) (h2 : ns + rm.slots ≤ Γ.R.slots)
    (kr : ∀ v π', K' (.inl v) π' → px_G Γ G (px_Q Γ G w K) w1 (nc + rm.cells) (ns + rm.slots) q ls (v.toList ++ st) π') (kt : ∀ k π', K' (.inr k) π' → K (.inr k) π') : px_G Γ G (px_Q Γ G w K) w1 nc ns pc ls st0 π := by
  obtain ⟨hd, rfl⟩ := hd
  intro H lsA locs hL hM hl
  exact px_after X Y hL hw hw1 hl h1 h2 (px_runS X hP hM cw hst hfit rfl hn hL.1 hst0 (lv_room hWd) hd ⟨h1, h2⟩) kr kt
theorem pg_callI (X : px_X Γ G cc own) {ret0 : Option FieldType} (Y : px_Y Γ ret0) {y : MethodName} {bytes : ByteArray} {maxL n index : Nat} {rm : Room} {b : Nat} {As st0 : List Value} {K' : Option Value ⊕ String → px_H → Prop}
    (hd : px_D cc pc (.invokespecial index) 3 q) (cw : px_CW G.Ts own index y bytes maxL none n) (hy1 : y.name = "<init>") (hin : Cond.instanceMethod y ∈ G.Ts) (hn : As.length = n) (hst0 : st0 = As.reverse ++ .ref b :: st) (hWd : (st.map fun v => v.category).sum ≤ 8)
    (hP : px_P Γ.l G y bytes maxL none rm w2 (.ref b :: As) π K') (hfit : px_fit Γ.R rm maxL) (hw : w2 = true → w1 = true) (hw1 : w1 = true → w = true) (h1 : nc + rm.cells ≤ Γ.R.cells) (h2 : ns + rm.slots ≤ Γ.R.slots)
    (kr : ∀ v π', K' (.inl v) π' → px_G Γ G (px_Q Γ G w K) w1 (nc + rm.cells) (ns + rm.slots) q ls (v.toList ++ st) π') (kt : ∀ k π', K' (.inr k) π' → K (.inr k) π') : px_G Γ G (px_Q Γ G w K) w1 nc ns pc ls st0 π := by
  obtain ⟨hd, rfl⟩ := hd
  intro H lsA locs hL hM hl
  exact px_after X Y hL hw hw1 hl h1 h2 (px_runI X hP hM cw hy1 hin hfit rfl hn hL.1 hst0 (lv_room hWd) hd ⟨h1, h2⟩) kr kt
/-- returns -/
theorem pg_iret (X : px_X Γ G cc own) {ty : FieldType} (Y : px_Y Γ (some ty)) {v : Int32} (hd : px_D cc pc .ireturn 1 q) (hn : narrow ty (.int v) = .int v) (hw1 : w1 = true → w = true) (h1 : nc ≤ Γ.R.cells) (h2 : ns ≤ Γ.R.slots) (hK : K (.inl (some (.int v))) π) : px_G Γ G (px_Q Γ G w K) w1 nc ns pc ls [.int v] π := by
  intro H lsA locs hL hM hl
  exact px_Wm (fun t h => px_MQ.of h) (W.widen h1 h2 (W.zret X.1 X.2.1 Y.1 hn (Qc := px_Qc G K) (free := px_fr G w) (fun t ht hW => ⟨.inl (some (.int v)), π, rfl, hK, State.WarmedH.trans X.2.2.2.1 hW, by rw [ht]; exact hM⟩) (fun q hq => ⟨hw1 (hl q hq).1, (hl q hq).2⟩) hd.1 Y.2.1))
theorem pg_vret (X : px_X Γ G cc own) (Y : px_Y Γ none) (hd : px_D cc pc .return_ 1 q) (hw1 : w1 = true → w = true) (h1 : nc ≤ Γ.R.cells) (h2 : ns ≤ Γ.R.slots) (hK : K (.inl none) π) : px_G Γ G (px_Q Γ G w K) w1 nc ns pc ls [] π := by
  intro H lsA locs hL hM hl
  exact px_Wm (fun t h => px_MQ.of h) (W.widen h1 h2 (W.vret X.1 X.2.1 Y.1 (Qc := px_Qc G K) (free := px_fr G w) (fun t ht hW => ⟨.inl none, π, rfl, hK, State.WarmedH.trans X.2.2.2.1 hW, by rw [ht]; exact hM⟩) (fun q hq => ⟨hw1 (hl q hq).1, (hl q hq).2⟩) hd.1 Y.2.1))
theorem pg_aret (X : px_X Γ G cc own) {rt : FieldType} (Y : px_Y Γ (some rt)) {v : Value} (hrt : (∃ n, rt = .object n) ∨ ∃ t, rt = .array t) (hv : v = .null ∨ ∃ a, v = .ref a) (hd : px_D cc pc .areturn 1 q) (hw1 : w1 = true → w = true) (h1 : nc ≤ Γ.R.cells) (h2 : ns ≤ Γ.R.slots) (hK : K (.inl (some v)) π) : px_G Γ G (px_Q Γ G w K) w1 nc ns pc ls [v] π := by
  intro H lsA locs hL hM hl
  exact px_Wm (fun t h => px_MQ.of h) (W.widen h1 h2 (W.aret X.1 X.2.1 Y.1 hrt hv (Qc := px_Qc G K) (free := px_fr G w) (fun t ht hW => ⟨.inl (some v), π, rfl, hK, State.WarmedH.trans X.2.2.2.1 hW, by rw [ht]; exact hM⟩) (fun q hq => ⟨hw1 (hl q hq).1, (hl q hq).2⟩) hd.1 Y.2.1))
end PGI
end
section
/-! THROW: new E("text"), in a method that has written nothing yet -/
theorem px_same {s t : State} {k n : Nat} (h : s.sameButNew t [] k n) {a : Nat} {c : Cell} (ha : s.heap[a]? = some c) : t.heap[a]? = some c := by
  obtain ⟨c', h1, h2, h3, h4⟩ := h.2.2.2.2.2 a c ha
  have h5 : c'.slots = c.slots := Array.ext_getElem? (fun i => h4 i (by simp))
  rw [h1, h2, h5]
section PGT
variable {Γ : px_Cm} {G : px_Cg} {K : Option Value ⊕ String → px_H → Prop} {cc : ByteArray} {own : String} {w : Bool} {nc ns pc : Nat} {ls : List (Option Value)} {st : List Value} {π : px_H}
theorem pg_throw (X : px_X Γ G cc own) {ret : Option FieldType} (Y : px_Y Γ ret) {inew istr ic qs q0 q1 q2 q3 q4 : Nat} {cls tx : String} {names : List String}
    (d0 : px_D cc pc (.new inew) 3 q0) (d1 : px_D cc q0 .dup 1 q1) (d2 : px_D cc q1 (.ldc istr) 2 q2) (d3 : px_D cc q2 (.invokespecial ic) 3 q3) (d4 : px_D cc q3 .athrow 1 q4)
    (hcl : Cond.classLink own inew cls ∈ G.Ts) (hin : Cond.instantiable cls 6 ∈ G.Ts) (hini : Cond.initialized cls ∈ G.Ts)
    (hA : ∀ a ∈ Jvm.Bundle.ownAtoms own ic cls names, a.before Γ.args Γ.s = true) (hstr : vk_R own istr tx qs Γ.s) (htr : Γ.e.platform.stackTraces = false) (hfc : Jvm.Bundle.fit cls = true) (hfn : ∀ n ∈ names, Jvm.Bundle.fit n = true)
    (hcells : nc + 1 ≤ Γ.R.cells) (hslots : ns + 6 ≤ Γ.R.slots) (hRf : names.length + 3 < Γ.R.frames) (hRl : (st.map fun v => v.category).sum + 1 + (13 * (names.length + 1) + 42) ≤ Γ.R.locals)
    (hz : Γ.s.heap.size = π.1) (hK : ∀ z, π.1 < z → K (.inr cls) (z, π.2)) : px_G Γ G (px_Q Γ G w K) false nc ns pc ls st π := by
  obtain ⟨d0, rfl⟩ := d0
  obtain ⟨d1, rfl⟩ := d1
  obtain ⟨d2, rfl⟩ := d2
  obtain ⟨d3, rfl⟩ := d3
  obtain ⟨d4, -⟩ := d4
  intro H lsA locs hL hM hl
  have hlocs : locs = [] := by
    cases locs with
    | nil => rfl
    | cons a r => exact absurd (hl a List.mem_cons_self).1 (by decide)
  subst hlocs
  obtain ⟨cX, kX, hfoundX, hkX, -⟩ := Cond.instantiable_spec (X.word hin)
  refine W.newcK X.1 X.2.1 X.2.2.1 (X.word hcl) (X.word hin) (X.word hini) rfl d0 hcells hslots hfoundX rfl fun H1 kC hkC e1 z1 o1 => ?_
  cases Option.some.inj (hkX.symm.trans hkC)
  refine lv_dup X.1 X.2.1 d1 rfl ?_
  refine va_ldcS X.1 X.2.1 X.2.2.1 hstr d2 ?_
  intro T hT S
  have S2 := stand_widen S hcells hslots
  obtain ⟨U, hst, hrun, hend, hwarm, hsame, ce, hce, hO⟩ := S2.ctorThrowS X.1 htr X.2.2.1 hfc hfn hA (fun x hx => by cases hx) hfoundX hkX (a := H.size) (by rw [hT]; exact e1) (by rw [hz, hM.1]; exact Nat.le_refl _) (msg := .ref qs) rfl
    (g := F0 Γ.m (pc + 3 + 1 + 2) lsA (.ref qs :: .ref H.size :: .ref H.size :: st)) rfl hL.1 rfl rfl (rest := st) rfl (by rw [X.2.1]; exact d3) (by rw [X.2.1]; exact d4) (fun x hx => absurd hx (fun h => Y.2.2 x h)) hRf
    (by simp only [List.map_cons, List.sum_cons]; show 2 * 0 + (1 + (st.map fun v => v.category).sum) + (13 * (names.length + 1) + 42) ≤ Γ.R.locals; omega) Y.2.1
  have hold : ∀ q : Nat, q < Γ.s.heap.size → U.heap[q]? = H[q]? := by
    intro q hq
    obtain ⟨c, hc⟩ : ∃ c, Γ.s.heap[q]? = some c := ⟨Γ.s.heap[q], by simp [hq]⟩
    have h1 : U.heap[q]? = some c := px_same hsame hc
    have h2 : (T.setVm Γ.s.vm).heap[q]? = some c := px_same S2.same hc
    have h3 : H1[q]? = some c := by rw [← hT]; exact h2
    rw [h1, ← h3, o1 q (by rw [← hM.1, ← hz]; exact hq)]
  have hsz : π.1 < U.heap.size := by
    rw [hM.1]
    exact (Array.getElem?_eq_some_iff.mp hce).1
  refine ⟨U, hst, .threw H.size, hrun, hend, ⟨.inr cls, (U.heap.size, π.2), ⟨H.size, ce, rfl, hce, hO.vm, ?_⟩, hK _ hsz, State.WarmedH.trans X.2.2.2.1 hwarm, rfl, ?_, ?_, ?_⟩, [], ⟨hwarm, hsame⟩, fun q hq => by cases hq⟩
  · rw [hwarm.alike.findClass]
    exact hO.cls
  · have := hM.2.1
    have h9 := hM.1
    omega
  · intro q hq
    rw [hold q (by rw [hz, hM.1]; exact Nat.lt_of_lt_of_le hq hM.2.1)]
    exact hM.2.2.1 q hq
  · intro a e ha
    have h7 := hM.2.2.2 a e ha
    exact ⟨h7.1, h7.2.kept (hold a (by rw [hz, hM.1]; exact h7.2.lt))⟩
end PGT
end
