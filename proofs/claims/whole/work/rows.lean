section
-- ===== PART A: goes FIRST, ahead of the names: the tables' words, and 'selects' of the private methods out of them =====
/-- a private method of a class that the tables say can be made, by its rows of tables_1 -/
def lw_okq (q : MethodName × Nat) : Prop := (q.1.cls ≠ "java/lang/invoke/MethodHandle" ∧ q.1.cls ≠ "java/lang/invoke/VarHandle") ∧ Cond.instantiable q.1.cls q.2 ∈ tables_1 ∧ Cond.privateMethod q.1 ∈ tables_1 ∧ Cond.instanceMethod q.1 ∈ tables_1
theorem lw_p0 : lw_okq (⟨"FifthsOfGuilt$TextReader", "nextToken", "()V"⟩, 9) := ⟨⟨by decide +kernel, by decide +kernel⟩, List.mem_of_getElem? (i := 25) (by decide +kernel), List.mem_of_getElem? (i := 327) (by decide +kernel), List.mem_of_getElem? (i := 328) (by decide +kernel)⟩
theorem lw_p1 : lw_okq (⟨"FifthsOfGuilt$TextReader", "takeLetters", "()V"⟩, 9) := ⟨⟨by decide +kernel, by decide +kernel⟩, List.mem_of_getElem? (i := 25) (by decide +kernel), List.mem_of_getElem? (i := 332) (by decide +kernel), List.mem_of_getElem? (i := 333) (by decide +kernel)⟩
theorem lw_p2 : lw_okq (⟨"FifthsOfGuilt$TextReader", "takeNumber", "()V"⟩, 9) := ⟨⟨by decide +kernel, by decide +kernel⟩, List.mem_of_getElem? (i := 25) (by decide +kernel), List.mem_of_getElem? (i := 336) (by decide +kernel), List.mem_of_getElem? (i := 337) (by decide +kernel)⟩
theorem lw_p3 : lw_okq (⟨"FifthsOfGuilt$TextReader", "readItem", "(LFifthsOfGuilt$CaseFile;)Z"⟩, 9) := ⟨⟨by decide +kernel, by decide +kernel⟩, List.mem_of_getElem? (i := 25) (by decide +kernel), List.mem_of_getElem? (i := 343) (by decide +kernel), List.mem_of_getElem? (i := 344) (by decide +kernel)⟩
theorem lw_p4 : lw_okq (⟨"FifthsOfGuilt$TextReader", "mayBegin", "(ILFifthsOfGuilt$CaseFile;)Z"⟩, 9) := ⟨⟨by decide +kernel, by decide +kernel⟩, List.mem_of_getElem? (i := 25) (by decide +kernel), List.mem_of_getElem? (i := 347) (by decide +kernel), List.mem_of_getElem? (i := 348) (by decide +kernel)⟩
theorem lw_p5 : lw_okq (⟨"FifthsOfGuilt$TextReader", "least", "(II)I"⟩, 9) := ⟨⟨by decide +kernel, by decide +kernel⟩, List.mem_of_getElem? (i := 25) (by decide +kernel), List.mem_of_getElem? (i := 354) (by decide +kernel), List.mem_of_getElem? (i := 355) (by decide +kernel)⟩
theorem lw_p6 : lw_okq (⟨"FifthsOfGuilt$TextReader", "addItem", "(ILFifthsOfGuilt$CaseFile;)V"⟩, 9) := ⟨⟨by decide +kernel, by decide +kernel⟩, List.mem_of_getElem? (i := 25) (by decide +kernel), List.mem_of_getElem? (i := 361) (by decide +kernel), List.mem_of_getElem? (i := 362) (by decide +kernel)⟩
theorem lw_p7 : lw_okq (⟨"FifthsOfGuilt", "isSuspect", "(I)Z"⟩, 13) := ⟨⟨by decide +kernel, by decide +kernel⟩, List.mem_of_getElem? (i := 17) (by decide +kernel), List.mem_of_getElem? (i := 381) (by decide +kernel), List.mem_of_getElem? (i := 382) (by decide +kernel)⟩
theorem lw_p8 : lw_okq (⟨"FifthsOfGuilt", "weighNow", "()V"⟩, 13) := ⟨⟨by decide +kernel, by decide +kernel⟩, List.mem_of_getElem? (i := 17) (by decide +kernel), List.mem_of_getElem? (i := 385) (by decide +kernel), List.mem_of_getElem? (i := 386) (by decide +kernel)⟩
theorem lw_p9 : lw_okq (⟨"FifthsOfGuilt$Scales", "giveOneDayMore", "()V"⟩, 6) := ⟨⟨by decide +kernel, by decide +kernel⟩, List.mem_of_getElem? (i := 62) (by decide +kernel), List.mem_of_getElem? (i := 420) (by decide +kernel), List.mem_of_getElem? (i := 421) (by decide +kernel)⟩
theorem lw_p10 : lw_okq (⟨"FifthsOfGuilt", "isFact", "(I)Z"⟩, 13) := ⟨⟨by decide +kernel, by decide +kernel⟩, List.mem_of_getElem? (i := 17) (by decide +kernel), List.mem_of_getElem? (i := 428) (by decide +kernel), List.mem_of_getElem? (i := 429) (by decide +kernel)⟩
theorem lw_p11 : lw_okq (⟨"FifthsOfGuilt", "isAlibi", "(I)Z"⟩, 13) := ⟨⟨by decide +kernel, by decide +kernel⟩, List.mem_of_getElem? (i := 17) (by decide +kernel), List.mem_of_getElem? (i := 442) (by decide +kernel), List.mem_of_getElem? (i := 443) (by decide +kernel)⟩
theorem lw_p12 : lw_okq (⟨"FifthsOfGuilt", "caseNow", "()I"⟩, 13) := ⟨⟨by decide +kernel, by decide +kernel⟩, List.mem_of_getElem? (i := 17) (by decide +kernel), List.mem_of_getElem? (i := 457) (by decide +kernel), List.mem_of_getElem? (i := 458) (by decide +kernel)⟩
theorem lw_p13 : lw_okq (⟨"FifthsOfGuilt", "cheapest", "(IIIZ)I"⟩, 13) := ⟨⟨by decide +kernel, by decide +kernel⟩, List.mem_of_getElem? (i := 17) (by decide +kernel), List.mem_of_getElem? (i := 500) (by decide +kernel), List.mem_of_getElem? (i := 501) (by decide +kernel)⟩
theorem lw_p14 : lw_okq (⟨"FifthsOfGuilt", "costOrSet", "(II)I"⟩, 13) := ⟨⟨by decide +kernel, by decide +kernel⟩, List.mem_of_getElem? (i := 17) (by decide +kernel), List.mem_of_getElem? (i := 515) (by decide +kernel), List.mem_of_getElem? (i := 516) (by decide +kernel)⟩
theorem lw_p15 : lw_okq (⟨"FifthsOfGuilt", "matchClashers", "()I"⟩, 13) := ⟨⟨by decide +kernel, by decide +kernel⟩, List.mem_of_getElem? (i := 17) (by decide +kernel), List.mem_of_getElem? (i := 531) (by decide +kernel), List.mem_of_getElem? (i := 532) (by decide +kernel)⟩
def lw_privs_1 : List (MethodName × Nat) := [(⟨"FifthsOfGuilt$TextReader", "nextToken", "()V"⟩, 9), (⟨"FifthsOfGuilt$TextReader", "takeLetters", "()V"⟩, 9), (⟨"FifthsOfGuilt$TextReader", "takeNumber", "()V"⟩, 9), (⟨"FifthsOfGuilt$TextReader", "readItem", "(LFifthsOfGuilt$CaseFile;)Z"⟩, 9), (⟨"FifthsOfGuilt$TextReader", "mayBegin", "(ILFifthsOfGuilt$CaseFile;)Z"⟩, 9), (⟨"FifthsOfGuilt$TextReader", "least", "(II)I"⟩, 9), (⟨"FifthsOfGuilt$TextReader", "addItem", "(ILFifthsOfGuilt$CaseFile;)V"⟩, 9), (⟨"FifthsOfGuilt", "isSuspect", "(I)Z"⟩, 13), (⟨"FifthsOfGuilt", "weighNow", "()V"⟩, 13), (⟨"FifthsOfGuilt$Scales", "giveOneDayMore", "()V"⟩, 6), (⟨"FifthsOfGuilt", "isFact", "(I)Z"⟩, 13), (⟨"FifthsOfGuilt", "isAlibi", "(I)Z"⟩, 13), (⟨"FifthsOfGuilt", "caseNow", "()I"⟩, 13), (⟨"FifthsOfGuilt", "cheapest", "(IIIZ)I"⟩, 13), (⟨"FifthsOfGuilt", "costOrSet", "(II)I"⟩, 13), (⟨"FifthsOfGuilt", "matchClashers", "()I"⟩, 13)]
theorem lw_r1 : ∀ q ∈ lw_privs_1, lw_okq q := List.forall_mem_cons.mpr ⟨lw_p0, List.forall_mem_cons.mpr ⟨lw_p1, List.forall_mem_cons.mpr ⟨lw_p2, List.forall_mem_cons.mpr ⟨lw_p3, List.forall_mem_cons.mpr ⟨lw_p4, List.forall_mem_cons.mpr ⟨lw_p5, List.forall_mem_cons.mpr ⟨lw_p6, List.forall_mem_cons.mpr ⟨lw_p7, List.forall_mem_cons.mpr ⟨lw_p8, List.forall_mem_cons.mpr ⟨lw_p9, List.forall_mem_cons.mpr ⟨lw_p10, List.forall_mem_cons.mpr ⟨lw_p11, List.forall_mem_cons.mpr ⟨lw_p12, List.forall_mem_cons.mpr ⟨lw_p13, List.forall_mem_cons.mpr ⟨lw_p14, List.forall_mem_cons.mpr ⟨lw_p15, fun _ h => absurd h List.not_mem_nil⟩⟩⟩⟩⟩⟩⟩⟩⟩⟩⟩⟩⟩⟩⟩⟩
theorem lw_p16 : lw_okq (⟨"FifthsOfGuilt", "fewestFalse", "()I"⟩, 13) := ⟨⟨by decide +kernel, by decide +kernel⟩, List.mem_of_getElem? (i := 17) (by decide +kernel), List.mem_of_getElem? (i := 539) (by decide +kernel), List.mem_of_getElem? (i := 540) (by decide +kernel)⟩
theorem lw_p17 : lw_okq (⟨"FifthsOfGuilt", "leavesNoClash", "(I)Z"⟩, 13) := ⟨⟨by decide +kernel, by decide +kernel⟩, List.mem_of_getElem? (i := 17) (by decide +kernel), List.mem_of_getElem? (i := 544) (by decide +kernel), List.mem_of_getElem? (i := 545) (by decide +kernel)⟩
theorem lw_p18 : lw_okq (⟨"FifthsOfGuilt", "firstGainer", "(I)I"⟩, 13) := ⟨⟨by decide +kernel, by decide +kernel⟩, List.mem_of_getElem? (i := 17) (by decide +kernel), List.mem_of_getElem? (i := 552) (by decide +kernel), List.mem_of_getElem? (i := 553) (by decide +kernel)⟩
theorem lw_p19 : lw_okq (⟨"FifthsOfGuilt", "bandDays", "(II)I"⟩, 13) := ⟨⟨by decide +kernel, by decide +kernel⟩, List.mem_of_getElem? (i := 17) (by decide +kernel), List.mem_of_getElem? (i := 556) (by decide +kernel), List.mem_of_getElem? (i := 557) (by decide +kernel)⟩
theorem lw_p20 : lw_okq (⟨"FifthsOfGuilt", "bandHeld", "(II)I"⟩, 13) := ⟨⟨by decide +kernel, by decide +kernel⟩, List.mem_of_getElem? (i := 17) (by decide +kernel), List.mem_of_getElem? (i := 560) (by decide +kernel), List.mem_of_getElem? (i := 561) (by decide +kernel)⟩
theorem lw_p21 : lw_okq (⟨"FifthsOfGuilt", "cellsNeeded", "(I)I"⟩, 13) := ⟨⟨by decide +kernel, by decide +kernel⟩, List.mem_of_getElem? (i := 17) (by decide +kernel), List.mem_of_getElem? (i := 572) (by decide +kernel), List.mem_of_getElem? (i := 573) (by decide +kernel)⟩
theorem lw_p22 : lw_okq (⟨"FifthsOfGuilt", "wrongTo", "(I)I"⟩, 13) := ⟨⟨by decide +kernel, by decide +kernel⟩, List.mem_of_getElem? (i := 17) (by decide +kernel), List.mem_of_getElem? (i := 584) (by decide +kernel), List.mem_of_getElem? (i := 585) (by decide +kernel)⟩
theorem lw_p23 : lw_okq (⟨"FifthsOfGuilt", "fitsBook", "(I)Z"⟩, 13) := ⟨⟨by decide +kernel, by decide +kernel⟩, List.mem_of_getElem? (i := 17) (by decide +kernel), List.mem_of_getElem? (i := 604) (by decide +kernel), List.mem_of_getElem? (i := 605) (by decide +kernel)⟩
theorem lw_p24 : lw_okq (⟨"FifthsOfGuiltModel", "next", "()V"⟩, 32) := ⟨⟨by decide +kernel, by decide +kernel⟩, List.mem_of_getElem? (i := 668) (by decide +kernel), List.mem_of_getElem? (i := 787) (by decide +kernel), List.mem_of_getElem? (i := 788) (by decide +kernel)⟩
theorem lw_p25 : lw_okq (⟨"FifthsOfGuiltModel", "here", "()I"⟩, 32) := ⟨⟨by decide +kernel, by decide +kernel⟩, List.mem_of_getElem? (i := 668) (by decide +kernel), List.mem_of_getElem? (i := 791) (by decide +kernel), List.mem_of_getElem? (i := 792) (by decide +kernel)⟩
theorem lw_p26 : lw_okq (⟨"FifthsOfGuiltModel", "mayBe", "(I)Z"⟩, 32) := ⟨⟨by decide +kernel, by decide +kernel⟩, List.mem_of_getElem? (i := 668) (by decide +kernel), List.mem_of_getElem? (i := 795) (by decide +kernel), List.mem_of_getElem? (i := 796) (by decide +kernel)⟩
theorem lw_p27 : lw_okq (⟨"FifthsOfGuiltModel", "due", "(Z)I"⟩, 32) := ⟨⟨by decide +kernel, by decide +kernel⟩, List.mem_of_getElem? (i := 668) (by decide +kernel), List.mem_of_getElem? (i := 799) (by decide +kernel), List.mem_of_getElem? (i := 800) (by decide +kernel)⟩
theorem lw_p28 : lw_okq (⟨"FifthsOfGuiltModel", "readRow", "(I)V"⟩, 32) := ⟨⟨by decide +kernel, by decide +kernel⟩, List.mem_of_getElem? (i := 668) (by decide +kernel), List.mem_of_getElem? (i := 803) (by decide +kernel), List.mem_of_getElem? (i := 804) (by decide +kernel)⟩
theorem lw_p29 : lw_okq (⟨"FifthsOfGuiltModel", "number", "(II)I"⟩, 32) := ⟨⟨by decide +kernel, by decide +kernel⟩, List.mem_of_getElem? (i := 668) (by decide +kernel), List.mem_of_getElem? (i := 807) (by decide +kernel), List.mem_of_getElem? (i := 808) (by decide +kernel)⟩
theorem lw_p30 : lw_okq (⟨"FifthsOfGuiltModel", "readFact", "()V"⟩, 32) := ⟨⟨by decide +kernel, by decide +kernel⟩, List.mem_of_getElem? (i := 668) (by decide +kernel), List.mem_of_getElem? (i := 811) (by decide +kernel), List.mem_of_getElem? (i := 812) (by decide +kernel)⟩
theorem lw_p31 : lw_okq (⟨"FifthsOfGuiltModel", "take", "()V"⟩, 32) := ⟨⟨by decide +kernel, by decide +kernel⟩, List.mem_of_getElem? (i := 668) (by decide +kernel), List.mem_of_getElem? (i := 815) (by decide +kernel), List.mem_of_getElem? (i := 816) (by decide +kernel)⟩
def lw_privs_2 : List (MethodName × Nat) := [(⟨"FifthsOfGuilt", "fewestFalse", "()I"⟩, 13), (⟨"FifthsOfGuilt", "leavesNoClash", "(I)Z"⟩, 13), (⟨"FifthsOfGuilt", "firstGainer", "(I)I"⟩, 13), (⟨"FifthsOfGuilt", "bandDays", "(II)I"⟩, 13), (⟨"FifthsOfGuilt", "bandHeld", "(II)I"⟩, 13), (⟨"FifthsOfGuilt", "cellsNeeded", "(I)I"⟩, 13), (⟨"FifthsOfGuilt", "wrongTo", "(I)I"⟩, 13), (⟨"FifthsOfGuilt", "fitsBook", "(I)Z"⟩, 13), (⟨"FifthsOfGuiltModel", "next", "()V"⟩, 32), (⟨"FifthsOfGuiltModel", "here", "()I"⟩, 32), (⟨"FifthsOfGuiltModel", "mayBe", "(I)Z"⟩, 32), (⟨"FifthsOfGuiltModel", "due", "(Z)I"⟩, 32), (⟨"FifthsOfGuiltModel", "readRow", "(I)V"⟩, 32), (⟨"FifthsOfGuiltModel", "number", "(II)I"⟩, 32), (⟨"FifthsOfGuiltModel", "readFact", "()V"⟩, 32), (⟨"FifthsOfGuiltModel", "take", "()V"⟩, 32)]
theorem lw_r2 : ∀ q ∈ lw_privs_2, lw_okq q := List.forall_mem_cons.mpr ⟨lw_p16, List.forall_mem_cons.mpr ⟨lw_p17, List.forall_mem_cons.mpr ⟨lw_p18, List.forall_mem_cons.mpr ⟨lw_p19, List.forall_mem_cons.mpr ⟨lw_p20, List.forall_mem_cons.mpr ⟨lw_p21, List.forall_mem_cons.mpr ⟨lw_p22, List.forall_mem_cons.mpr ⟨lw_p23, List.forall_mem_cons.mpr ⟨lw_p24, List.forall_mem_cons.mpr ⟨lw_p25, List.forall_mem_cons.mpr ⟨lw_p26, List.forall_mem_cons.mpr ⟨lw_p27, List.forall_mem_cons.mpr ⟨lw_p28, List.forall_mem_cons.mpr ⟨lw_p29, List.forall_mem_cons.mpr ⟨lw_p30, List.forall_mem_cons.mpr ⟨lw_p31, fun _ h => absurd h List.not_mem_nil⟩⟩⟩⟩⟩⟩⟩⟩⟩⟩⟩⟩⟩⟩⟩⟩
theorem lw_p32 : lw_okq (⟨"FifthsOfGuiltModel", "isSuspect", "(I)Z"⟩, 32) := ⟨⟨by decide +kernel, by decide +kernel⟩, List.mem_of_getElem? (i := 668) (by decide +kernel), List.mem_of_getElem? (i := 823) (by decide +kernel), List.mem_of_getElem? (i := 824) (by decide +kernel)⟩
theorem lw_p33 : lw_okq (⟨"FifthsOfGuiltModel", "asNow", "()V"⟩, 32) := ⟨⟨by decide +kernel, by decide +kernel⟩, List.mem_of_getElem? (i := 668) (by decide +kernel), List.mem_of_getElem? (i := 827) (by decide +kernel), List.mem_of_getElem? (i := 828) (by decide +kernel)⟩
theorem lw_p34 : lw_okq (⟨"FifthsOfGuiltModel", "hold", "(I)V"⟩, 32) := ⟨⟨by decide +kernel, by decide +kernel⟩, List.mem_of_getElem? (i := 668) (by decide +kernel), List.mem_of_getElem? (i := 831) (by decide +kernel), List.mem_of_getElem? (i := 832) (by decide +kernel)⟩
theorem lw_p35 : lw_okq (⟨"FifthsOfGuiltModel", "heldBy", "(II)I"⟩, 32) := ⟨⟨by decide +kernel, by decide +kernel⟩, List.mem_of_getElem? (i := 668) (by decide +kernel), List.mem_of_getElem? (i := 835) (by decide +kernel), List.mem_of_getElem? (i := 836) (by decide +kernel)⟩
theorem lw_p36 : lw_okq (⟨"FifthsOfGuiltModel", "hoursOf", "(I)I"⟩, 32) := ⟨⟨by decide +kernel, by decide +kernel⟩, List.mem_of_getElem? (i := 668) (by decide +kernel), List.mem_of_getElem? (i := 839) (by decide +kernel), List.mem_of_getElem? (i := 840) (by decide +kernel)⟩
theorem lw_p37 : lw_okq (⟨"FifthsOfGuiltModel", "serve", "()V"⟩, 32) := ⟨⟨by decide +kernel, by decide +kernel⟩, List.mem_of_getElem? (i := 668) (by decide +kernel), List.mem_of_getElem? (i := 843) (by decide +kernel), List.mem_of_getElem? (i := 844) (by decide +kernel)⟩
theorem lw_p38 : lw_okq (⟨"FifthsOfGuiltModel", "isFact", "(I)Z"⟩, 32) := ⟨⟨by decide +kernel, by decide +kernel⟩, List.mem_of_getElem? (i := 668) (by decide +kernel), List.mem_of_getElem? (i := 851) (by decide +kernel), List.mem_of_getElem? (i := 852) (by decide +kernel)⟩
theorem lw_p39 : lw_okq (⟨"FifthsOfGuiltModel", "isAlibi", "(I)Z"⟩, 32) := ⟨⟨by decide +kernel, by decide +kernel⟩, List.mem_of_getElem? (i := 668) (by decide +kernel), List.mem_of_getElem? (i := 864) (by decide +kernel), List.mem_of_getElem? (i := 865) (by decide +kernel)⟩
theorem lw_p40 : lw_okq (⟨"FifthsOfGuiltModel", "know", "()V"⟩, 32) := ⟨⟨by decide +kernel, by decide +kernel⟩, List.mem_of_getElem? (i := 668) (by decide +kernel), List.mem_of_getElem? (i := 872) (by decide +kernel), List.mem_of_getElem? (i := 873) (by decide +kernel)⟩
theorem lw_p41 : lw_okq (⟨"FifthsOfGuiltModel", "theCase", "()I"⟩, 32) := ⟨⟨by decide +kernel, by decide +kernel⟩, List.mem_of_getElem? (i := 668) (by decide +kernel), List.mem_of_getElem? (i := 876) (by decide +kernel), List.mem_of_getElem? (i := 877) (by decide +kernel)⟩
theorem lw_p42 : lw_okq (⟨"FifthsOfGuiltModel", "allServe", "()I"⟩, 32) := ⟨⟨by decide +kernel, by decide +kernel⟩, List.mem_of_getElem? (i := 668) (by decide +kernel), List.mem_of_getElem? (i := 900) (by decide +kernel), List.mem_of_getElem? (i := 901) (by decide +kernel)⟩
theorem lw_p43 : lw_okq (⟨"FifthsOfGuiltModel", "isShare", "(III)Z"⟩, 32) := ⟨⟨by decide +kernel, by decide +kernel⟩, List.mem_of_getElem? (i := 668) (by decide +kernel), List.mem_of_getElem? (i := 908) (by decide +kernel), List.mem_of_getElem? (i := 909) (by decide +kernel)⟩
theorem lw_p44 : lw_okq (⟨"FifthsOfGuiltModel", "cheapest", "(IIIZ)I"⟩, 32) := ⟨⟨by decide +kernel, by decide +kernel⟩, List.mem_of_getElem? (i := 668) (by decide +kernel), List.mem_of_getElem? (i := 912) (by decide +kernel), List.mem_of_getElem? (i := 913) (by decide +kernel)⟩
theorem lw_p45 : lw_okq (⟨"FifthsOfGuiltModel", "costOf", "(I)I"⟩, 32) := ⟨⟨by decide +kernel, by decide +kernel⟩, List.mem_of_getElem? (i := 668) (by decide +kernel), List.mem_of_getElem? (i := 916) (by decide +kernel), List.mem_of_getElem? (i := 917) (by decide +kernel)⟩
theorem lw_p46 : lw_okq (⟨"FifthsOfGuiltModel", "isSo", "(IIIZ)Z"⟩, 32) := ⟨⟨by decide +kernel, by decide +kernel⟩, List.mem_of_getElem? (i := 668) (by decide +kernel), List.mem_of_getElem? (i := 920) (by decide +kernel), List.mem_of_getElem? (i := 921) (by decide +kernel)⟩
theorem lw_p47 : lw_okq (⟨"FifthsOfGuiltModel", "clashes", "(II)Z"⟩, 32) := ⟨⟨by decide +kernel, by decide +kernel⟩, List.mem_of_getElem? (i := 668) (by decide +kernel), List.mem_of_getElem? (i := 936) (by decide +kernel), List.mem_of_getElem? (i := 937) (by decide +kernel)⟩
def lw_privs_3 : List (MethodName × Nat) := [(⟨"FifthsOfGuiltModel", "isSuspect", "(I)Z"⟩, 32), (⟨"FifthsOfGuiltModel", "asNow", "()V"⟩, 32), (⟨"FifthsOfGuiltModel", "hold", "(I)V"⟩, 32), (⟨"FifthsOfGuiltModel", "heldBy", "(II)I"⟩, 32), (⟨"FifthsOfGuiltModel", "hoursOf", "(I)I"⟩, 32), (⟨"FifthsOfGuiltModel", "serve", "()V"⟩, 32), (⟨"FifthsOfGuiltModel", "isFact", "(I)Z"⟩, 32), (⟨"FifthsOfGuiltModel", "isAlibi", "(I)Z"⟩, 32), (⟨"FifthsOfGuiltModel", "know", "()V"⟩, 32), (⟨"FifthsOfGuiltModel", "theCase", "()I"⟩, 32), (⟨"FifthsOfGuiltModel", "allServe", "()I"⟩, 32), (⟨"FifthsOfGuiltModel", "isShare", "(III)Z"⟩, 32), (⟨"FifthsOfGuiltModel", "cheapest", "(IIIZ)I"⟩, 32), (⟨"FifthsOfGuiltModel", "costOf", "(I)I"⟩, 32), (⟨"FifthsOfGuiltModel", "isSo", "(IIIZ)Z"⟩, 32), (⟨"FifthsOfGuiltModel", "clashes", "(II)Z"⟩, 32)]
theorem lw_r3 : ∀ q ∈ lw_privs_3, lw_okq q := List.forall_mem_cons.mpr ⟨lw_p32, List.forall_mem_cons.mpr ⟨lw_p33, List.forall_mem_cons.mpr ⟨lw_p34, List.forall_mem_cons.mpr ⟨lw_p35, List.forall_mem_cons.mpr ⟨lw_p36, List.forall_mem_cons.mpr ⟨lw_p37, List.forall_mem_cons.mpr ⟨lw_p38, List.forall_mem_cons.mpr ⟨lw_p39, List.forall_mem_cons.mpr ⟨lw_p40, List.forall_mem_cons.mpr ⟨lw_p41, List.forall_mem_cons.mpr ⟨lw_p42, List.forall_mem_cons.mpr ⟨lw_p43, List.forall_mem_cons.mpr ⟨lw_p44, List.forall_mem_cons.mpr ⟨lw_p45, List.forall_mem_cons.mpr ⟨lw_p46, List.forall_mem_cons.mpr ⟨lw_p47, fun _ h => absurd h List.not_mem_nil⟩⟩⟩⟩⟩⟩⟩⟩⟩⟩⟩⟩⟩⟩⟩⟩
theorem lw_p48 : lw_okq (⟨"FifthsOfGuiltModel", "hasClash", "(I)Z"⟩, 32) := ⟨⟨by decide +kernel, by decide +kernel⟩, List.mem_of_getElem? (i := 668) (by decide +kernel), List.mem_of_getElem? (i := 943) (by decide +kernel), List.mem_of_getElem? (i := 944) (by decide +kernel)⟩
theorem lw_p49 : lw_okq (⟨"FifthsOfGuiltModel", "firstWhoGains", "(I)I"⟩, 32) := ⟨⟨by decide +kernel, by decide +kernel⟩, List.mem_of_getElem? (i := 668) (by decide +kernel), List.mem_of_getElem? (i := 951) (by decide +kernel), List.mem_of_getElem? (i := 952) (by decide +kernel)⟩
theorem lw_p50 : lw_okq (⟨"FifthsOfGuiltModel", "bandDays", "(II)I"⟩, 32) := ⟨⟨by decide +kernel, by decide +kernel⟩, List.mem_of_getElem? (i := 668) (by decide +kernel), List.mem_of_getElem? (i := 955) (by decide +kernel), List.mem_of_getElem? (i := 956) (by decide +kernel)⟩
theorem lw_p51 : lw_okq (⟨"FifthsOfGuiltModel", "bandHeld", "(II)I"⟩, 32) := ⟨⟨by decide +kernel, by decide +kernel⟩, List.mem_of_getElem? (i := 668) (by decide +kernel), List.mem_of_getElem? (i := 959) (by decide +kernel), List.mem_of_getElem? (i := 960) (by decide +kernel)⟩
theorem lw_p52 : lw_okq (⟨"FifthsOfGuiltModel", "fitsIn", "(I)Z"⟩, 32) := ⟨⟨by decide +kernel, by decide +kernel⟩, List.mem_of_getElem? (i := 668) (by decide +kernel), List.mem_of_getElem? (i := 971) (by decide +kernel), List.mem_of_getElem? (i := 972) (by decide +kernel)⟩
theorem lw_p53 : lw_okq (⟨"FifthsOfGuiltModel", "byOther", "(I)I"⟩, 32) := ⟨⟨by decide +kernel, by decide +kernel⟩, List.mem_of_getElem? (i := 668) (by decide +kernel), List.mem_of_getElem? (i := 983) (by decide +kernel), List.mem_of_getElem? (i := 984) (by decide +kernel)⟩
theorem lw_p54 : lw_okq (⟨"FifthsOfGuiltModel", "copy", "(II)V"⟩, 32) := ⟨⟨by decide +kernel, by decide +kernel⟩, List.mem_of_getElem? (i := 668) (by decide +kernel), List.mem_of_getElem? (i := 1016) (by decide +kernel), List.mem_of_getElem? (i := 1017) (by decide +kernel)⟩
def lw_privs_4 : List (MethodName × Nat) := [(⟨"FifthsOfGuiltModel", "hasClash", "(I)Z"⟩, 32), (⟨"FifthsOfGuiltModel", "firstWhoGains", "(I)I"⟩, 32), (⟨"FifthsOfGuiltModel", "bandDays", "(II)I"⟩, 32), (⟨"FifthsOfGuiltModel", "bandHeld", "(II)I"⟩, 32), (⟨"FifthsOfGuiltModel", "fitsIn", "(I)Z"⟩, 32), (⟨"FifthsOfGuiltModel", "byOther", "(I)I"⟩, 32), (⟨"FifthsOfGuiltModel", "copy", "(II)V"⟩, 32)]
theorem lw_r4 : ∀ q ∈ lw_privs_4, lw_okq q := List.forall_mem_cons.mpr ⟨lw_p48, List.forall_mem_cons.mpr ⟨lw_p49, List.forall_mem_cons.mpr ⟨lw_p50, List.forall_mem_cons.mpr ⟨lw_p51, List.forall_mem_cons.mpr ⟨lw_p52, List.forall_mem_cons.mpr ⟨lw_p53, List.forall_mem_cons.mpr ⟨lw_p54, fun _ h => absurd h List.not_mem_nil⟩⟩⟩⟩⟩⟩⟩
def lw_privs : List (MethodName × Nat) := lw_privs_1 ++ (lw_privs_2 ++ (lw_privs_3 ++ (lw_privs_4)))
def lw_tbl : List Cond := k2_sels lw_privs ++ tables_1
theorem lw_privs_ok : ∀ q ∈ lw_privs, lw_okq q := by
  show ∀ q ∈ lw_privs_1 ++ (lw_privs_2 ++ (lw_privs_3 ++ (lw_privs_4))), lw_okq q
  exact List.forall_mem_append.mpr ⟨lw_r1, List.forall_mem_append.mpr ⟨lw_r2, List.forall_mem_append.mpr ⟨lw_r3, lw_r4⟩⟩⟩
end
section
def RX0 : String := "FifthsOfGuilt$AnySuspect"
def TX0 : u_T := fun k => match k with
  | _ => ("", "", "", false)
def tyX0 : Nat → FieldType := fun k => match k with
  | _ => .int
theorem nmX0 : ∀ a, a < 0 → ∀ b, b < 0 → a ≠ b → (TX0 a).2.1 ≠ (TX0 b).2.1 := by decide +kernel
theorem tyX0_ok : ∀ k, k < 0 → parseFieldDescriptor (TX0 k).2.2.1 = some (tyX0 k) := by decide +kernel
abbrev cX0_init : ByteArray := prog_2_method_1_code
def yX0_init : MethodName := ⟨RX0, "<init>", "()V"⟩
abbrev cX0_markOf : ByteArray := prog_2_method_2_code
def yX0_markOf : MethodName := ⟨RX0, "markOf", "(LFifthsOfGuilt;I)I"⟩
def RX1 : String := "FifthsOfGuilt$CaseFile"
def TX1 : u_T := fun k => match k with
  | 0 => ("FifthsOfGuilt$CaseFile", "suspects", "I", false)
  | 1 => ("FifthsOfGuilt$CaseFile", "facts", "I", false)
  | 2 => ("FifthsOfGuilt$CaseFile", "alibis", "I", false)
  | 3 => ("FifthsOfGuilt$CaseFile", "deedFrom", "I", false)
  | 4 => ("FifthsOfGuilt$CaseFile", "deedTo", "I", false)
  | 5 => ("FifthsOfGuilt$CaseFile", "days", "I", false)
  | 6 => ("FifthsOfGuilt$CaseFile", "grudge", "[I", true)
  | 7 => ("FifthsOfGuilt$CaseFile", "cost", "[I", true)
  | 8 => ("FifthsOfGuilt$CaseFile", "trust", "[I", true)
  | 9 => ("FifthsOfGuilt$CaseFile", "moves", "[I", true)
  | 10 => ("FifthsOfGuilt$CaseFile", "trustedMoves", "[I", true)
  | 11 => ("FifthsOfGuilt$CaseFile", "alibiOf", "[I", true)
  | 12 => ("FifthsOfGuilt$CaseFile", "place", "[I", true)
  | 13 => ("FifthsOfGuilt$CaseFile", "from", "[I", true)
  | _ => ("FifthsOfGuilt$CaseFile", "to", "[I", true)
def tyX1 : Nat → FieldType := fun k => match k with
  | 0 => .int
  | 1 => .int
  | 2 => .int
  | 3 => .int
  | 4 => .int
  | 5 => .int
  | 6 => .array .int
  | 7 => .array .int
  | 8 => .array .int
  | 9 => .array .int
  | 10 => .array .int
  | 11 => .array .int
  | 12 => .array .int
  | 13 => .array .int
  | _ => .array .int
theorem nmX1 : ∀ a, a < 15 → ∀ b, b < 15 → a ≠ b → (TX1 a).2.1 ≠ (TX1 b).2.1 := by decide +kernel
theorem tyX1_ok : ∀ k, k < 15 → parseFieldDescriptor (TX1 k).2.2.1 = some (tyX1 k) := by decide +kernel
abbrev cX1_init : ByteArray := prog_3_method_1_code
def yX1_init : MethodName := ⟨RX1, "<init>", "()V"⟩
abbrev cX1_beginAnew : ByteArray := prog_3_method_2_code
def yX1_beginAnew : MethodName := ⟨RX1, "beginAnew", "()V"⟩
abbrev cX1_addSuspect : ByteArray := prog_3_method_3_code
def yX1_addSuspect : MethodName := ⟨RX1, "addSuspect", "(I)V"⟩
abbrev cX1_addFact : ByteArray := prog_3_method_4_code
def yX1_addFact : MethodName := ⟨RX1, "addFact", "([I)V"⟩
abbrev cX1_addAlibi : ByteArray := prog_3_method_5_code
def yX1_addAlibi : MethodName := ⟨RX1, "addAlibi", "([I)V"⟩
abbrev cX1_costOf : ByteArray := prog_3_method_6_code
def yX1_costOf : MethodName := ⟨RX1, "costOf", "(I)I"⟩
abbrev cX1_doClash : ByteArray := prog_3_method_7_code
def yX1_doClash : MethodName := ⟨RX1, "doClash", "(II)Z"⟩
def RX2 : String := "FifthsOfGuilt$Chief"
def TX2 : u_T := fun k => match k with
  | _ => ("", "", "", false)
def tyX2 : Nat → FieldType := fun k => match k with
  | _ => .int
theorem nmX2 : ∀ a, a < 0 → ∀ b, b < 0 → a ≠ b → (TX2 a).2.1 ≠ (TX2 b).2.1 := by decide +kernel
theorem tyX2_ok : ∀ k, k < 0 → parseFieldDescriptor (TX2 k).2.2.1 = some (tyX2 k) := by decide +kernel
abbrev cX2_init : ByteArray := prog_4_method_1_code
def yX2_init : MethodName := ⟨RX2, "<init>", "()V"⟩
abbrev cX2_markOf : ByteArray := prog_4_method_2_code
def yX2_markOf : MethodName := ⟨RX2, "markOf", "(LFifthsOfGuilt;I)I"⟩
def RX3 : String := "FifthsOfGuilt$Juror"
def TX3 : u_T := fun k => match k with
  | _ => ("", "", "", false)
def tyX3 : Nat → FieldType := fun k => match k with
  | _ => .int
theorem nmX3 : ∀ a, a < 0 → ∀ b, b < 0 → a ≠ b → (TX3 a).2.1 ≠ (TX3 b).2.1 := by decide +kernel
theorem tyX3_ok : ∀ k, k < 0 → parseFieldDescriptor (TX3 k).2.2.1 = some (tyX3 k) := by decide +kernel
abbrev cX3_init : ByteArray := prog_5_method_1_code
def yX3_init : MethodName := ⟨RX3, "<init>", "()V"⟩
abbrev cX3_markOf : ByteArray := prog_5_method_2_code
def yX3_markOf : MethodName := ⟨RX3, "markOf", "(LFifthsOfGuilt;I)I"⟩
def RX4 : String := "FifthsOfGuilt$Saint"
def TX4 : u_T := fun k => match k with
  | _ => ("", "", "", false)
def tyX4 : Nat → FieldType := fun k => match k with
  | _ => .int
theorem nmX4 : ∀ a, a < 0 → ∀ b, b < 0 → a ≠ b → (TX4 a).2.1 ≠ (TX4 b).2.1 := by decide +kernel
theorem tyX4_ok : ∀ k, k < 0 → parseFieldDescriptor (TX4 k).2.2.1 = some (tyX4 k) := by decide +kernel
abbrev cX4_init : ByteArray := prog_6_method_1_code
def yX4_init : MethodName := ⟨RX4, "<init>", "()V"⟩
abbrev cX4_markOf : ByteArray := prog_6_method_2_code
def yX4_markOf : MethodName := ⟨RX4, "markOf", "(LFifthsOfGuilt;I)I"⟩
def RX5 : String := "FifthsOfGuilt$Scales"
def TX5 : u_T := fun k => match k with
  | 0 => ("FifthsOfGuilt$Scales", "held", "[I", true)
  | 1 => ("FifthsOfGuilt$Scales", "serves", "[I", true)
  | 2 => ("FifthsOfGuilt$Scales", "hours", "[I", true)
  | 3 => ("FifthsOfGuilt$Scales", "all", "I", false)
  | 4 => ("FifthsOfGuilt$Scales", "rest", "[I", true)
  | _ => ("FifthsOfGuilt$Scales", "suspects", "I", false)
def tyX5 : Nat → FieldType := fun k => match k with
  | 0 => .array .int
  | 1 => .array .int
  | 2 => .array .int
  | 3 => .int
  | 4 => .array .int
  | _ => .int
theorem nmX5 : ∀ a, a < 6 → ∀ b, b < 6 → a ≠ b → (TX5 a).2.1 ≠ (TX5 b).2.1 := by decide +kernel
theorem tyX5_ok : ∀ k, k < 6 → parseFieldDescriptor (TX5 k).2.2.1 = some (tyX5 k) := by decide +kernel
abbrev cX5_init : ByteArray := prog_7_method_1_code
def yX5_init : MethodName := ⟨RX5, "<init>", "()V"⟩
abbrev cX5_countHours : ByteArray := prog_7_method_2_code
def yX5_countHours : MethodName := ⟨RX5, "countHours", "(LFifthsOfGuilt$CaseFile;I)V"⟩
abbrev cX5_hoursFromTo : ByteArray := prog_7_method_3_code
def yX5_hoursFromTo : MethodName := ⟨RX5, "hoursFromTo", "(II)I"⟩
abbrev cX5_weigh : ByteArray := prog_7_method_4_code
def yX5_weigh : MethodName := ⟨RX5, "weigh", "(LFifthsOfGuilt$CaseFile;I)V"⟩
abbrev cX5_heldBy : ByteArray := prog_7_method_5_code
def yX5_heldBy : MethodName := ⟨RX5, "heldBy", "(LFifthsOfGuilt$CaseFile;II)I"⟩
abbrev cX5_sentence : ByteArray := prog_7_method_6_code
def yX5_sentence : MethodName := ⟨RX5, "sentence", "(I)V"⟩
abbrev cX5_giveOneDayMore : ByteArray := prog_7_method_7_code
def yX5_giveOneDayMore : MethodName := ⟨RX5, "giveOneDayMore", "()V"⟩
abbrev cX5_allServe : ByteArray := prog_7_method_8_code
def yX5_allServe : MethodName := ⟨RX5, "allServe", "()I"⟩
def RX6 : String := "FifthsOfGuilt$Standing"
def TX6 : u_T := fun k => match k with
  | 0 => ("FifthsOfGuilt$Standing", "facts", "I", false)
  | 1 => ("FifthsOfGuilt$Standing", "alibis", "I", false)
  | 2 => ("FifthsOfGuilt$Standing", "days", "I", false)
  | 3 => ("FifthsOfGuilt$Standing", "known", "I", false)
  | _ => ("FifthsOfGuilt$Standing", "before", "[I", true)
def tyX6 : Nat → FieldType := fun k => match k with
  | 0 => .int
  | 1 => .int
  | 2 => .int
  | 3 => .int
  | _ => .array .int
theorem nmX6 : ∀ a, a < 5 → ∀ b, b < 5 → a ≠ b → (TX6 a).2.1 ≠ (TX6 b).2.1 := by decide +kernel
theorem tyX6_ok : ∀ k, k < 5 → parseFieldDescriptor (TX6 k).2.2.1 = some (tyX6 k) := by decide +kernel
abbrev cX6_init : ByteArray := prog_8_method_1_code
def yX6_init : MethodName := ⟨RX6, "<init>", "()V"⟩
abbrev cX6_beginAnew : ByteArray := prog_8_method_2_code
def yX6_beginAnew : MethodName := ⟨RX6, "beginAnew", "(I)V"⟩
abbrev cX6_become : ByteArray := prog_8_method_3_code
def yX6_become : MethodName := ⟨RX6, "become", "(LFifthsOfGuilt$Standing;)V"⟩
abbrev cX6_remember : ByteArray := prog_8_method_4_code
def yX6_remember : MethodName := ⟨RX6, "remember", "()V"⟩
abbrev cX6_stepBack : ByteArray := prog_8_method_5_code
def yX6_stepBack : MethodName := ⟨RX6, "stepBack", "()V"⟩
def RX7 : String := "FifthsOfGuilt$TextReader"
def TX7 : u_T := fun k => match k with
  | 0 => ("FifthsOfGuilt$TextReader", "bytes", "[I", true)
  | 1 => ("FifthsOfGuilt$TextReader", "size", "I", false)
  | 2 => ("FifthsOfGuilt$TextReader", "numbers", "[I", true)
  | 3 => ("FifthsOfGuilt$TextReader", "place", "I", false)
  | 4 => ("FifthsOfGuilt$TextReader", "token", "I", false)
  | 5 => ("FifthsOfGuilt$TextReader", "tokenPlace", "I", false)
  | 6 => ("FifthsOfGuilt$TextReader", "tokenValue", "I", false)
  | 7 => ("FifthsOfGuilt$TextReader", "deedTold", "Z", false)
  | _ => ("FifthsOfGuilt$TextReader", "daysTold", "Z", false)
def tyX7 : Nat → FieldType := fun k => match k with
  | 0 => .array .int
  | 1 => .int
  | 2 => .array .int
  | 3 => .int
  | 4 => .int
  | 5 => .int
  | 6 => .int
  | 7 => .boolean
  | _ => .boolean
theorem nmX7 : ∀ a, a < 9 → ∀ b, b < 9 → a ≠ b → (TX7 a).2.1 ≠ (TX7 b).2.1 := by decide +kernel
theorem tyX7_ok : ∀ k, k < 9 → parseFieldDescriptor (TX7 k).2.2.1 = some (tyX7 k) := by decide +kernel
abbrev cX7_init : ByteArray := prog_9_method_1_code
def yX7_init : MethodName := ⟨RX7, "<init>", "()V"⟩
abbrev cX7_readInto : ByteArray := prog_9_method_2_code
def yX7_readInto : MethodName := ⟨RX7, "readInto", "(LFifthsOfGuilt$CaseFile;)I"⟩
abbrev cX7_readItem : ByteArray := prog_9_method_3_code
def yX7_readItem : MethodName := ⟨RX7, "readItem", "(LFifthsOfGuilt$CaseFile;)Z"⟩
abbrev cX7_mayBegin : ByteArray := prog_9_method_4_code
def yX7_mayBegin : MethodName := ⟨RX7, "mayBegin", "(ILFifthsOfGuilt$CaseFile;)Z"⟩
abbrev cX7_numbersDue : ByteArray := prog_9_method_5_code
def yX7_numbersDue : MethodName := ⟨RX7, "numbersDue", "(ILFifthsOfGuilt$CaseFile;)I"⟩
abbrev cX7_least : ByteArray := prog_9_method_6_code
def yX7_least : MethodName := ⟨RX7, "least", "(II)I"⟩
abbrev cX7_most : ByteArray := prog_9_method_7_code
def yX7_most : MethodName := ⟨RX7, "most", "(IILFifthsOfGuilt$CaseFile;)I"⟩
abbrev cX7_addItem : ByteArray := prog_9_method_8_code
def yX7_addItem : MethodName := ⟨RX7, "addItem", "(ILFifthsOfGuilt$CaseFile;)V"⟩
abbrev cX7_nextToken : ByteArray := prog_9_method_9_code
def yX7_nextToken : MethodName := ⟨RX7, "nextToken", "()V"⟩
abbrev cX7_takeLetters : ByteArray := prog_9_method_10_code
def yX7_takeLetters : MethodName := ⟨RX7, "takeLetters", "()V"⟩
abbrev cX7_takeNumber : ByteArray := prog_9_method_11_code
def yX7_takeNumber : MethodName := ⟨RX7, "takeNumber", "()V"⟩
def RX8 : String := "FifthsOfGuilt$Thief"
def TX8 : u_T := fun k => match k with
  | _ => ("", "", "", false)
def tyX8 : Nat → FieldType := fun k => match k with
  | _ => .int
theorem nmX8 : ∀ a, a < 0 → ∀ b, b < 0 → a ≠ b → (TX8 a).2.1 ≠ (TX8 b).2.1 := by decide +kernel
theorem tyX8_ok : ∀ k, k < 0 → parseFieldDescriptor (TX8 k).2.2.1 = some (tyX8 k) := by decide +kernel
abbrev cX8_init : ByteArray := prog_10_method_1_code
def yX8_init : MethodName := ⟨RX8, "<init>", "()V"⟩
abbrev cX8_markOf : ByteArray := prog_10_method_2_code
def yX8_markOf : MethodName := ⟨RX8, "markOf", "(LFifthsOfGuilt;I)I"⟩
def RX9 : String := "FifthsOfGuilt$Witness"
def TX9 : u_T := fun k => match k with
  | _ => ("", "", "", false)
def tyX9 : Nat → FieldType := fun k => match k with
  | _ => .int
theorem nmX9 : ∀ a, a < 0 → ∀ b, b < 0 → a ≠ b → (TX9 a).2.1 ≠ (TX9 b).2.1 := by decide +kernel
theorem tyX9_ok : ∀ k, k < 0 → parseFieldDescriptor (TX9 k).2.2.1 = some (tyX9 k) := by decide +kernel
abbrev cX9_init : ByteArray := prog_11_method_1_code
def yX9_init : MethodName := ⟨RX9, "<init>", "()V"⟩
abbrev cX9_markOf : ByteArray := prog_11_method_2_code
def yX9_markOf : MethodName := ⟨RX9, "markOf", "(LFifthsOfGuilt;I)I"⟩
def RX10 : String := "FifthsOfGuilt"
def TX10 : u_T := fun k => match k with
  | 0 => ("FifthsOfGuilt", "text", "LFifthsOfGuilt$TextReader;", true)
  | 1 => ("FifthsOfGuilt", "scales", "LFifthsOfGuilt$Scales;", true)
  | 2 => ("FifthsOfGuilt", "present", "LFifthsOfGuilt$Standing;", true)
  | 3 => ("FifthsOfGuilt", "images", "[LFifthsOfGuilt$Standing;", true)
  | 4 => ("FifthsOfGuilt", "kept", "[Z", true)
  | 5 => ("FifthsOfGuilt", "kinds", "[LFifthsOfGuilt$AnySuspect;", true)
  | 6 => ("FifthsOfGuilt", "clashers", "[I", true)
  | 7 => ("FifthsOfGuilt", "lineSuspect", "[I", true)
  | 8 => ("FifthsOfGuilt", "lineDays", "[I", true)
  | 9 => ("FifthsOfGuilt", "lines", "I", false)
  | 10 => ("FifthsOfGuilt", "trace", "J", false)
  | 11 => ("FifthsOfGuilt", "told", "LFifthsOfGuilt$CaseFile;", false)
  | _ => ("FifthsOfGuilt", "draft", "LFifthsOfGuilt$CaseFile;", false)
def tyX10 : Nat → FieldType := fun k => match k with
  | 0 => .object "FifthsOfGuilt$TextReader"
  | 1 => .object "FifthsOfGuilt$Scales"
  | 2 => .object "FifthsOfGuilt$Standing"
  | 3 => .array (.object "FifthsOfGuilt$Standing")
  | 4 => .array .boolean
  | 5 => .array (.object "FifthsOfGuilt$AnySuspect")
  | 6 => .array .int
  | 7 => .array .int
  | 8 => .array .int
  | 9 => .int
  | 10 => .long
  | 11 => .object "FifthsOfGuilt$CaseFile"
  | _ => .object "FifthsOfGuilt$CaseFile"
theorem nmX10 : ∀ a, a < 13 → ∀ b, b < 13 → a ≠ b → (TX10 a).2.1 ≠ (TX10 b).2.1 := by decide +kernel
theorem tyX10_ok : ∀ k, k < 13 → parseFieldDescriptor (TX10 k).2.2.1 = some (tyX10 k) := by decide +kernel
abbrev cX10_init : ByteArray := prog_1_method_1_code
def yX10_init : MethodName := ⟨RX10, "<init>", "()V"⟩
abbrev cX10_type : ByteArray := prog_1_method_2_code
def yX10_type : MethodName := ⟨RX10, "type", "(I)I"⟩
abbrev cX10_clear : ByteArray := prog_1_method_3_code
def yX10_clear : MethodName := ⟨RX10, "clear", "()I"⟩
abbrev cX10_court : ByteArray := prog_1_method_4_code
def yX10_court : MethodName := ⟨RX10, "court", "()I"⟩
abbrev cX10_suspect : ByteArray := prog_1_method_5_code
def yX10_suspect : MethodName := ⟨RX10, "suspect", "(II)I"⟩
abbrev cX10_fact : ByteArray := prog_1_method_6_code
def yX10_fact : MethodName := ⟨RX10, "fact", "(II)I"⟩
abbrev cX10_moves : ByteArray := prog_1_method_7_code
def yX10_moves : MethodName := ⟨RX10, "moves", "(II)I"⟩
abbrev cX10_alibi : ByteArray := prog_1_method_8_code
def yX10_alibi : MethodName := ⟨RX10, "alibi", "(II)I"⟩
abbrev cX10_find : ByteArray := prog_1_method_9_code
def yX10_find : MethodName := ⟨RX10, "find", "(II)I"⟩
abbrev cX10_hear : ByteArray := prog_1_method_10_code
def yX10_hear : MethodName := ⟨RX10, "hear", "(II)I"⟩
abbrev cX10_days : ByteArray := prog_1_method_11_code
def yX10_days : MethodName := ⟨RX10, "days", "(I)I"⟩
abbrev cX10_undo : ByteArray := prog_1_method_12_code
def yX10_undo : MethodName := ⟨RX10, "undo", "()I"⟩
abbrev cX10_share : ByteArray := prog_1_method_13_code
def yX10_share : MethodName := ⟨RX10, "share", "(II)I"⟩
abbrev cX10_now : ByteArray := prog_1_method_14_code
def yX10_now : MethodName := ⟨RX10, "now", "(I)I"⟩
abbrev cX10_proof : ByteArray := prog_1_method_15_code
def yX10_proof : MethodName := ⟨RX10, "proof", "(IIII)I"⟩
abbrev cX10_cleared : ByteArray := prog_1_method_16_code
def yX10_cleared : MethodName := ⟨RX10, "cleared", "(IIII)I"⟩
abbrev cX10_forged : ByteArray := prog_1_method_17_code
def yX10_forged : MethodName := ⟨RX10, "forged", "(III)I"⟩
abbrev cX10_clash : ByteArray := prog_1_method_18_code
def yX10_clash : MethodName := ⟨RX10, "clash", "(I)I"⟩
abbrev cX10_rests : ByteArray := prog_1_method_19_code
def yX10_rests : MethodName := ⟨RX10, "rests", "(I)I"⟩
abbrev cX10_gains : ByteArray := prog_1_method_20_code
def yX10_gains : MethodName := ⟨RX10, "gains", "(I)I"⟩
abbrev cX10_cellsFor : ByteArray := prog_1_method_21_code
def yX10_cellsFor : MethodName := ⟨RX10, "cellsFor", "(I)I"⟩
abbrev cX10_sits : ByteArray := prog_1_method_22_code
def yX10_sits : MethodName := ⟨RX10, "sits", "(III)I"⟩
abbrev cX10_wronged : ByteArray := prog_1_method_23_code
def yX10_wronged : MethodName := ⟨RX10, "wronged", "(I)I"⟩
abbrev cX10_book : ByteArray := prog_1_method_24_code
def yX10_book : MethodName := ⟨RX10, "book", "(II)I"⟩
abbrev cX10_burn : ByteArray := prog_1_method_25_code
def yX10_burn : MethodName := ⟨RX10, "burn", "()I"⟩
abbrev cX10_books : ByteArray := prog_1_method_26_code
def yX10_books : MethodName := ⟨RX10, "books", "(I)I"⟩
abbrev cX10_innocent : ByteArray := prog_1_method_27_code
def yX10_innocent : MethodName := ⟨RX10, "innocent", "(I)I"⟩
abbrev cX10_mark : ByteArray := prog_1_method_28_code
def yX10_mark : MethodName := ⟨RX10, "mark", "(II)I"⟩
abbrev cX10_keep : ByteArray := prog_1_method_29_code
def yX10_keep : MethodName := ⟨RX10, "keep", "(I)I"⟩
abbrev cX10_back : ByteArray := prog_1_method_30_code
def yX10_back : MethodName := ⟨RX10, "back", "(I)I"⟩
abbrev cX10_count : ByteArray := prog_1_method_31_code
def yX10_count : MethodName := ⟨RX10, "count", "(I)I"⟩
abbrev cX10_trace : ByteArray := prog_1_method_32_code
def yX10_trace : MethodName := ⟨RX10, "trace", "()J"⟩
abbrev cX10_within : ByteArray := prog_1_method_33_code
def yX10_within : MethodName := ⟨RX10, "within", "(III)Z"⟩
abbrev cX10_bit : ByteArray := prog_1_method_34_code
def yX10_bit : MethodName := ⟨RX10, "bit", "(II)I"⟩
abbrev cX10_isSuspect : ByteArray := prog_1_method_35_code
def yX10_isSuspect : MethodName := ⟨RX10, "isSuspect", "(I)Z"⟩
abbrev cX10_isFact : ByteArray := prog_1_method_36_code
def yX10_isFact : MethodName := ⟨RX10, "isFact", "(I)Z"⟩
abbrev cX10_isAlibi : ByteArray := prog_1_method_37_code
def yX10_isAlibi : MethodName := ⟨RX10, "isAlibi", "(I)Z"⟩
abbrev cX10_isFraction : ByteArray := prog_1_method_38_code
def yX10_isFraction : MethodName := ⟨RX10, "isFraction", "(II)Z"⟩
abbrev cX10_weighNow : ByteArray := prog_1_method_39_code
def yX10_weighNow : MethodName := ⟨RX10, "weighNow", "()V"⟩
abbrev cX10_caseNow : ByteArray := prog_1_method_40_code
def yX10_caseNow : MethodName := ⟨RX10, "caseNow", "()I"⟩
abbrev cX10_commonDivisor : ByteArray := prog_1_method_41_code
def yX10_commonDivisor : MethodName := ⟨RX10, "commonDivisor", "(II)I"⟩
abbrev cX10_isNoMore : ByteArray := prog_1_method_42_code
def yX10_isNoMore : MethodName := ⟨RX10, "isNoMore", "(IIII)Z"⟩
abbrev cX10_isNoLess : ByteArray := prog_1_method_43_code
def yX10_isNoLess : MethodName := ⟨RX10, "isNoLess", "(IIII)Z"⟩
abbrev cX10_cheapest : ByteArray := prog_1_method_44_code
def yX10_cheapest : MethodName := ⟨RX10, "cheapest", "(IIIZ)I"⟩
abbrev cX10_costOrSet : ByteArray := prog_1_method_45_code
def yX10_costOrSet : MethodName := ⟨RX10, "costOrSet", "(II)I"⟩
abbrev cX10_matchClashers : ByteArray := prog_1_method_46_code
def yX10_matchClashers : MethodName := ⟨RX10, "matchClashers", "()I"⟩
abbrev cX10_fewestFalse : ByteArray := prog_1_method_47_code
def yX10_fewestFalse : MethodName := ⟨RX10, "fewestFalse", "()I"⟩
abbrev cX10_leavesNoClash : ByteArray := prog_1_method_48_code
def yX10_leavesNoClash : MethodName := ⟨RX10, "leavesNoClash", "(I)Z"⟩
abbrev cX10_bandHeld : ByteArray := prog_1_method_49_code
def yX10_bandHeld : MethodName := ⟨RX10, "bandHeld", "(II)I"⟩
abbrev cX10_bandDays : ByteArray := prog_1_method_50_code
def yX10_bandDays : MethodName := ⟨RX10, "bandDays", "(II)I"⟩
abbrev cX10_firstGainer : ByteArray := prog_1_method_51_code
def yX10_firstGainer : MethodName := ⟨RX10, "firstGainer", "(I)I"⟩
abbrev cX10_cellsNeeded : ByteArray := prog_1_method_52_code
def yX10_cellsNeeded : MethodName := ⟨RX10, "cellsNeeded", "(I)I"⟩
abbrev cX10_wrongTo : ByteArray := prog_1_method_53_code
def yX10_wrongTo : MethodName := ⟨RX10, "wrongTo", "(I)I"⟩
abbrev cX10_fitsBook : ByteArray := prog_1_method_54_code
def yX10_fitsBook : MethodName := ⟨RX10, "fitsBook", "(I)Z"⟩
def RX11 : String := "FifthsOfGuiltModel"
def TX11 : u_T := fun k => match k with
  | 0 => ("FifthsOfGuiltModel", "trace", "J", false)
  | 1 => ("FifthsOfGuiltModel", "text", "[B", true)
  | 2 => ("FifthsOfGuiltModel", "typed", "I", false)
  | 3 => ("FifthsOfGuiltModel", "suspects", "[I", true)
  | 4 => ("FifthsOfGuiltModel", "grudge", "[I", true)
  | 5 => ("FifthsOfGuiltModel", "facts", "[I", true)
  | 6 => ("FifthsOfGuiltModel", "cost", "[I", true)
  | 7 => ("FifthsOfGuiltModel", "trust", "[I", true)
  | 8 => ("FifthsOfGuiltModel", "moves", "[I", true)
  | 9 => ("FifthsOfGuiltModel", "alibis", "[I", true)
  | 10 => ("FifthsOfGuiltModel", "whose", "[I", true)
  | 11 => ("FifthsOfGuiltModel", "where", "[I", true)
  | 12 => ("FifthsOfGuiltModel", "from", "[I", true)
  | 13 => ("FifthsOfGuiltModel", "to", "[I", true)
  | 14 => ("FifthsOfGuiltModel", "deedFrom", "[I", true)
  | 15 => ("FifthsOfGuiltModel", "deedTo", "[I", true)
  | 16 => ("FifthsOfGuiltModel", "at", "I", false)
  | 17 => ("FifthsOfGuiltModel", "start", "I", false)
  | 18 => ("FifthsOfGuiltModel", "sort", "I", false)
  | 19 => ("FifthsOfGuiltModel", "value", "I", false)
  | 20 => ("FifthsOfGuiltModel", "fault", "I", false)
  | 21 => ("FifthsOfGuiltModel", "hasDeed", "Z", false)
  | 22 => ("FifthsOfGuiltModel", "hasDays", "Z", false)
  | 23 => ("FifthsOfGuiltModel", "firstDays", "I", false)
  | 24 => ("FifthsOfGuiltModel", "now", "[I", true)
  | 25 => ("FifthsOfGuiltModel", "isKept", "[Z", true)
  | 26 => ("FifthsOfGuiltModel", "held", "[I", true)
  | 27 => ("FifthsOfGuiltModel", "whole", "I", false)
  | 28 => ("FifthsOfGuiltModel", "serves", "[I", true)
  | 29 => ("FifthsOfGuiltModel", "lineOf", "[I", true)
  | 30 => ("FifthsOfGuiltModel", "lineDays", "[I", true)
  | _ => ("FifthsOfGuiltModel", "lines", "I", false)
def tyX11 : Nat → FieldType := fun k => match k with
  | 0 => .long
  | 1 => .array .byte
  | 2 => .int
  | 3 => .array .int
  | 4 => .array .int
  | 5 => .array .int
  | 6 => .array .int
  | 7 => .array .int
  | 8 => .array .int
  | 9 => .array .int
  | 10 => .array .int
  | 11 => .array .int
  | 12 => .array .int
  | 13 => .array .int
  | 14 => .array .int
  | 15 => .array .int
  | 16 => .int
  | 17 => .int
  | 18 => .int
  | 19 => .int
  | 20 => .int
  | 21 => .boolean
  | 22 => .boolean
  | 23 => .int
  | 24 => .array .int
  | 25 => .array .boolean
  | 26 => .array .int
  | 27 => .int
  | 28 => .array .int
  | 29 => .array .int
  | 30 => .array .int
  | _ => .int
theorem nmX11 : ∀ a, a < 32 → ∀ b, b < 32 → a ≠ b → (TX11 a).2.1 ≠ (TX11 b).2.1 := by decide +kernel
theorem tyX11_ok : ∀ k, k < 32 → parseFieldDescriptor (TX11 k).2.2.1 = some (tyX11 k) := by decide +kernel
abbrev cX11_init : ByteArray := prog_13_method_1_code
def yX11_init : MethodName := ⟨RX11, "<init>", "()V"⟩
abbrev cX11_in : ByteArray := prog_13_method_3_code
def yX11_in : MethodName := ⟨RX11, "in", "(III)Z"⟩
abbrev cX11_type : ByteArray := prog_13_method_4_code
def yX11_type : MethodName := ⟨RX11, "type", "(I)I"⟩
abbrev cX11_clear : ByteArray := prog_13_method_5_code
def yX11_clear : MethodName := ⟨RX11, "clear", "()I"⟩
abbrev cX11_here : ByteArray := prog_13_method_6_code
def yX11_here : MethodName := ⟨RX11, "here", "()I"⟩
abbrev cX11_next : ByteArray := prog_13_method_7_code
def yX11_next : MethodName := ⟨RX11, "next", "()V"⟩
abbrev cX11_due : ByteArray := prog_13_method_8_code
def yX11_due : MethodName := ⟨RX11, "due", "(Z)I"⟩
abbrev cX11_number : ByteArray := prog_13_method_9_code
def yX11_number : MethodName := ⟨RX11, "number", "(II)I"⟩
abbrev cX11_mayBe : ByteArray := prog_13_method_10_code
def yX11_mayBe : MethodName := ⟨RX11, "mayBe", "(I)Z"⟩
abbrev cX11_readFact : ByteArray := prog_13_method_11_code
def yX11_readFact : MethodName := ⟨RX11, "readFact", "()V"⟩
abbrev cX11_readRow : ByteArray := prog_13_method_12_code
def yX11_readRow : MethodName := ⟨RX11, "readRow", "(I)V"⟩
abbrev cX11_court : ByteArray := prog_13_method_13_code
def yX11_court : MethodName := ⟨RX11, "court", "()I"⟩
abbrev cX11_take : ByteArray := prog_13_method_14_code
def yX11_take : MethodName := ⟨RX11, "take", "()V"⟩
abbrev cX11_isSuspect : ByteArray := prog_13_method_15_code
def yX11_isSuspect : MethodName := ⟨RX11, "isSuspect", "(I)Z"⟩
abbrev cX11_isFact : ByteArray := prog_13_method_16_code
def yX11_isFact : MethodName := ⟨RX11, "isFact", "(I)Z"⟩
abbrev cX11_isAlibi : ByteArray := prog_13_method_17_code
def yX11_isAlibi : MethodName := ⟨RX11, "isAlibi", "(I)Z"⟩
abbrev cX11_hoursOf : ByteArray := prog_13_method_18_code
def yX11_hoursOf : MethodName := ⟨RX11, "hoursOf", "(I)I"⟩
abbrev cX11_heldBy : ByteArray := prog_13_method_19_code
def yX11_heldBy : MethodName := ⟨RX11, "heldBy", "(II)I"⟩
abbrev cX11_hold : ByteArray := prog_13_method_20_code
def yX11_hold : MethodName := ⟨RX11, "hold", "(I)V"⟩
abbrev cX11_serve : ByteArray := prog_13_method_21_code
def yX11_serve : MethodName := ⟨RX11, "serve", "()V"⟩
abbrev cX11_asNow : ByteArray := prog_13_method_22_code
def yX11_asNow : MethodName := ⟨RX11, "asNow", "()V"⟩
abbrev cX11_theCase : ByteArray := prog_13_method_23_code
def yX11_theCase : MethodName := ⟨RX11, "theCase", "()I"⟩
abbrev cX11_suspect : ByteArray := prog_13_method_24_code
def yX11_suspect : MethodName := ⟨RX11, "suspect", "(II)I"⟩
abbrev cX11_fact : ByteArray := prog_13_method_25_code
def yX11_fact : MethodName := ⟨RX11, "fact", "(II)I"⟩
abbrev cX11_moves : ByteArray := prog_13_method_26_code
def yX11_moves : MethodName := ⟨RX11, "moves", "(II)I"⟩
abbrev cX11_alibi : ByteArray := prog_13_method_27_code
def yX11_alibi : MethodName := ⟨RX11, "alibi", "(II)I"⟩
abbrev cX11_know : ByteArray := prog_13_method_28_code
def yX11_know : MethodName := ⟨RX11, "know", "()V"⟩
abbrev cX11_find : ByteArray := prog_13_method_29_code
def yX11_find : MethodName := ⟨RX11, "find", "(II)I"⟩
abbrev cX11_hear : ByteArray := prog_13_method_30_code
def yX11_hear : MethodName := ⟨RX11, "hear", "(II)I"⟩
abbrev cX11_days : ByteArray := prog_13_method_31_code
def yX11_days : MethodName := ⟨RX11, "days", "(I)I"⟩
abbrev cX11_undo : ByteArray := prog_13_method_32_code
def yX11_undo : MethodName := ⟨RX11, "undo", "()I"⟩
abbrev cX11_share : ByteArray := prog_13_method_33_code
def yX11_share : MethodName := ⟨RX11, "share", "(II)I"⟩
abbrev cX11_allServe : ByteArray := prog_13_method_34_code
def yX11_allServe : MethodName := ⟨RX11, "allServe", "()I"⟩
abbrev cX11_now : ByteArray := prog_13_method_35_code
def yX11_now : MethodName := ⟨RX11, "now", "(I)I"⟩
abbrev cX11_isShare : ByteArray := prog_13_method_36_code
def yX11_isShare : MethodName := ⟨RX11, "isShare", "(III)Z"⟩
abbrev cX11_costOf : ByteArray := prog_13_method_37_code
def yX11_costOf : MethodName := ⟨RX11, "costOf", "(I)I"⟩
abbrev cX11_isSo : ByteArray := prog_13_method_38_code
def yX11_isSo : MethodName := ⟨RX11, "isSo", "(IIIZ)Z"⟩
abbrev cX11_cheapest : ByteArray := prog_13_method_39_code
def yX11_cheapest : MethodName := ⟨RX11, "cheapest", "(IIIZ)I"⟩
abbrev cX11_proof : ByteArray := prog_13_method_40_code
def yX11_proof : MethodName := ⟨RX11, "proof", "(IIII)I"⟩
abbrev cX11_cleared : ByteArray := prog_13_method_41_code
def yX11_cleared : MethodName := ⟨RX11, "cleared", "(IIII)I"⟩
abbrev cX11_forged : ByteArray := prog_13_method_42_code
def yX11_forged : MethodName := ⟨RX11, "forged", "(III)I"⟩
abbrev cX11_clashes : ByteArray := prog_13_method_43_code
def yX11_clashes : MethodName := ⟨RX11, "clashes", "(II)Z"⟩
abbrev cX11_hasClash : ByteArray := prog_13_method_44_code
def yX11_hasClash : MethodName := ⟨RX11, "hasClash", "(I)Z"⟩
abbrev cX11_manyOf : ByteArray := prog_13_method_45_code
def yX11_manyOf : MethodName := ⟨RX11, "manyOf", "(I)I"⟩
abbrev cX11_clash : ByteArray := prog_13_method_46_code
def yX11_clash : MethodName := ⟨RX11, "clash", "(I)I"⟩
abbrev cX11_bandHeld : ByteArray := prog_13_method_47_code
def yX11_bandHeld : MethodName := ⟨RX11, "bandHeld", "(II)I"⟩
abbrev cX11_bandDays : ByteArray := prog_13_method_48_code
def yX11_bandDays : MethodName := ⟨RX11, "bandDays", "(II)I"⟩
abbrev cX11_firstWhoGains : ByteArray := prog_13_method_49_code
def yX11_firstWhoGains : MethodName := ⟨RX11, "firstWhoGains", "(I)I"⟩
abbrev cX11_rests : ByteArray := prog_13_method_50_code
def yX11_rests : MethodName := ⟨RX11, "rests", "(I)I"⟩
abbrev cX11_gains : ByteArray := prog_13_method_51_code
def yX11_gains : MethodName := ⟨RX11, "gains", "(I)I"⟩
abbrev cX11_fitsIn : ByteArray := prog_13_method_52_code
def yX11_fitsIn : MethodName := ⟨RX11, "fitsIn", "(I)Z"⟩
abbrev cX11_cellsFor : ByteArray := prog_13_method_53_code
def yX11_cellsFor : MethodName := ⟨RX11, "cellsFor", "(I)I"⟩
abbrev cX11_sits : ByteArray := prog_13_method_54_code
def yX11_sits : MethodName := ⟨RX11, "sits", "(III)I"⟩
abbrev cX11_byOther : ByteArray := prog_13_method_55_code
def yX11_byOther : MethodName := ⟨RX11, "byOther", "(I)I"⟩
abbrev cX11_wronged : ByteArray := prog_13_method_56_code
def yX11_wronged : MethodName := ⟨RX11, "wronged", "(I)I"⟩
abbrev cX11_book : ByteArray := prog_13_method_57_code
def yX11_book : MethodName := ⟨RX11, "book", "(II)I"⟩
abbrev cX11_burn : ByteArray := prog_13_method_58_code
def yX11_burn : MethodName := ⟨RX11, "burn", "()I"⟩
abbrev cX11_books : ByteArray := prog_13_method_59_code
def yX11_books : MethodName := ⟨RX11, "books", "(I)I"⟩
abbrev cX11_innocent : ByteArray := prog_13_method_60_code
def yX11_innocent : MethodName := ⟨RX11, "innocent", "(I)I"⟩
abbrev cX11_mark : ByteArray := prog_13_method_61_code
def yX11_mark : MethodName := ⟨RX11, "mark", "(II)I"⟩
abbrev cX11_copy : ByteArray := prog_13_method_62_code
def yX11_copy : MethodName := ⟨RX11, "copy", "(II)V"⟩
abbrev cX11_keep : ByteArray := prog_13_method_63_code
def yX11_keep : MethodName := ⟨RX11, "keep", "(I)I"⟩
abbrev cX11_back : ByteArray := prog_13_method_64_code
def yX11_back : MethodName := ⟨RX11, "back", "(I)I"⟩
abbrev cX11_count : ByteArray := prog_13_method_65_code
def yX11_count : MethodName := ⟨RX11, "count", "(I)I"⟩
abbrev cX11_trace : ByteArray := prog_13_method_66_code
def yX11_trace : MethodName := ⟨RX11, "trace", "()J"⟩
def RJ6 : String := "java/lang/Integer"
def TJ6 : u_T := fun k => match k with
  | _ => ("", "", "", false)
def tyJ6 : Nat → FieldType := fun k => match k with
  | _ => .int
theorem nmJ6 : ∀ a, a < 0 → ∀ b, b < 0 → a ≠ b → (TJ6 a).2.1 ≠ (TJ6 b).2.1 := by decide +kernel
theorem tyJ6_ok : ∀ k, k < 0 → parseFieldDescriptor (TJ6 k).2.2.1 = some (tyJ6 k) := by decide +kernel
abbrev cJ6_bitCount_0f7a4 : ByteArray := prog_14_method_49_code
def yJ6_bitCount_0f7a4 : MethodName := ⟨RJ6, "bitCount", "(I)I"⟩
def RJ9 : String := "java/lang/Math"
def TJ9 : u_T := fun k => match k with
  | _ => ("", "", "", false)
def tyJ9 : Nat → FieldType := fun k => match k with
  | _ => .int
theorem nmJ9 : ∀ a, a < 0 → ∀ b, b < 0 → a ≠ b → (TJ9 a).2.1 ≠ (TJ9 b).2.1 := by decide +kernel
theorem tyJ9_ok : ∀ k, k < 0 → parseFieldDescriptor (TJ9 k).2.2.1 = some (tyJ9 k) := by decide +kernel
abbrev cJ9_abs_0f7a4 : ByteArray := prog_15_method_59_code
def yJ9_abs_0f7a4 : MethodName := ⟨RJ9, "abs", "(I)I"⟩
abbrev cJ9_max_7cf53 : ByteArray := prog_15_method_65_code
def yJ9_max_7cf53 : MethodName := ⟨RJ9, "max", "(II)I"⟩
abbrev cJ9_min_7cf53 : ByteArray := prog_15_method_69_code
def yJ9_min_7cf53 : MethodName := ⟨RJ9, "min", "(II)I"⟩
def RJ10 : String := "java/lang/System"
def TJ10 : u_T := fun k => match k with
  | _ => ("", "", "", false)
def tyJ10 : Nat → FieldType := fun k => match k with
  | _ => .int
theorem nmJ10 : ∀ a, a < 0 → ∀ b, b < 0 → a ≠ b → (TJ10 a).2.1 ≠ (TJ10 b).2.1 := by decide +kernel
theorem tyJ10_ok : ∀ k, k < 0 → parseFieldDescriptor (TJ10 k).2.2.1 = some (tyJ10 k) := by decide +kernel
def RL : String := "FifthsOfGuiltLaw"
abbrev cL_law : ByteArray := code
def yL_law : MethodName := ⟨RL, "law", "([I)Z"⟩
abbrev vwCl : List vw_C := [(RX0, TX0, 0), (RX1, TX1, 15), (RX2, TX2, 0), (RX3, TX3, 0), (RX4, TX4, 0), (RX5, TX5, 6), (RX6, TX6, 5), (RX7, TX7, 9), (RX8, TX8, 0), (RX9, TX9, 0), (RX10, TX10, 13), (RX11, TX11, 32)]
end
section
theorem dX0_init_0 : decode cX0_init 0 = .ok (.aload_n 0, 1) := by decide +kernel
theorem dX0_init_1 : decode cX0_init 1 = .ok (.invokespecial 1, 3) := by decide +kernel
theorem dX0_init_4 : decode cX0_init 4 = .ok (.return_, 1) := by decide +kernel
theorem dX0_markOf_0 : decode cX0_markOf 0 = .ok (.aload_n 1, 1) := by decide +kernel
theorem dX0_markOf_1 : decode cX0_markOf 1 = .ok (.dup, 1) := by decide +kernel
theorem dX0_markOf_2 : decode cX0_markOf 2 = .ok (.getfield 7, 3) := by decide +kernel
theorem dX0_markOf_5 : decode cX0_markOf 5 = .ok (.lconst 1, 1) := by decide +kernel
theorem dX0_markOf_6 : decode cX0_markOf 6 = .ok (.ladd, 1) := by decide +kernel
theorem dX0_markOf_7 : decode cX0_markOf 7 = .ok (.putfield 7, 3) := by decide +kernel
theorem dX0_markOf_10 : decode cX0_markOf 10 = .ok (.aload_n 1, 1) := by decide +kernel
theorem dX0_markOf_11 : decode cX0_markOf 11 = .ok (.getfield 13, 3) := by decide +kernel
theorem dX0_markOf_14 : decode cX0_markOf 14 = .ok (.getfield 17, 3) := by decide +kernel
theorem dX0_markOf_17 : decode cX0_markOf 17 = .ok (.iload_n 2, 1) := by decide +kernel
theorem dX0_markOf_18 : decode cX0_markOf 18 = .ok (.iaload, 1) := by decide +kernel
theorem dX0_markOf_19 : decode cX0_markOf 19 = .ok (.ireturn, 1) := by decide +kernel
theorem dX1_init_0 : decode cX1_init 0 = .ok (.aload_n 0, 1) := by decide +kernel
theorem dX1_init_1 : decode cX1_init 1 = .ok (.invokespecial 3, 3) := by decide +kernel
theorem dX1_init_4 : decode cX1_init 4 = .ok (.aload_n 0, 1) := by decide +kernel
theorem dX1_init_5 : decode cX1_init 5 = .ok (.bipush 6, 2) := by decide +kernel
theorem dX1_init_7 : decode cX1_init 7 = .ok (.newarray .int, 2) := by decide +kernel
theorem dX1_init_9 : decode cX1_init 9 = .ok (.putfield 9, 3) := by decide +kernel
theorem dX1_init_12 : decode cX1_init 12 = .ok (.aload_n 0, 1) := by decide +kernel
theorem dX1_init_13 : decode cX1_init 13 = .ok (.bipush 8, 2) := by decide +kernel
theorem dX1_init_15 : decode cX1_init 15 = .ok (.newarray .int, 2) := by decide +kernel
theorem dX1_init_17 : decode cX1_init 17 = .ok (.putfield 15, 3) := by decide +kernel
theorem dX1_init_20 : decode cX1_init 20 = .ok (.aload_n 0, 1) := by decide +kernel
theorem dX1_init_21 : decode cX1_init 21 = .ok (.bipush 8, 2) := by decide +kernel
theorem dX1_init_23 : decode cX1_init 23 = .ok (.newarray .int, 2) := by decide +kernel
theorem dX1_init_25 : decode cX1_init 25 = .ok (.putfield 18, 3) := by decide +kernel
theorem dX1_init_28 : decode cX1_init 28 = .ok (.aload_n 0, 1) := by decide +kernel
theorem dX1_init_29 : decode cX1_init 29 = .ok (.bipush 48, 2) := by decide +kernel
theorem dX1_init_31 : decode cX1_init 31 = .ok (.newarray .int, 2) := by decide +kernel
theorem dX1_init_33 : decode cX1_init 33 = .ok (.putfield 21, 3) := by decide +kernel
theorem dX1_init_36 : decode cX1_init 36 = .ok (.aload_n 0, 1) := by decide +kernel
theorem dX1_init_37 : decode cX1_init 37 = .ok (.bipush 48, 2) := by decide +kernel
theorem dX1_init_39 : decode cX1_init 39 = .ok (.newarray .int, 2) := by decide +kernel
theorem dX1_init_41 : decode cX1_init 41 = .ok (.putfield 24, 3) := by decide +kernel
theorem dX1_init_44 : decode cX1_init 44 = .ok (.aload_n 0, 1) := by decide +kernel
theorem dX1_init_45 : decode cX1_init 45 = .ok (.bipush 8, 2) := by decide +kernel
theorem dX1_init_47 : decode cX1_init 47 = .ok (.newarray .int, 2) := by decide +kernel
theorem dX1_init_49 : decode cX1_init 49 = .ok (.putfield 27, 3) := by decide +kernel
theorem dX1_init_52 : decode cX1_init 52 = .ok (.aload_n 0, 1) := by decide +kernel
theorem dX1_init_53 : decode cX1_init 53 = .ok (.bipush 8, 2) := by decide +kernel
theorem dX1_init_55 : decode cX1_init 55 = .ok (.newarray .int, 2) := by decide +kernel
theorem dX1_init_57 : decode cX1_init 57 = .ok (.putfield 30, 3) := by decide +kernel
theorem dX1_init_60 : decode cX1_init 60 = .ok (.aload_n 0, 1) := by decide +kernel
theorem dX1_init_61 : decode cX1_init 61 = .ok (.bipush 8, 2) := by decide +kernel
theorem dX1_init_63 : decode cX1_init 63 = .ok (.newarray .int, 2) := by decide +kernel
theorem dX1_init_65 : decode cX1_init 65 = .ok (.putfield 33, 3) := by decide +kernel
theorem dX1_init_68 : decode cX1_init 68 = .ok (.aload_n 0, 1) := by decide +kernel
theorem dX1_init_69 : decode cX1_init 69 = .ok (.bipush 8, 2) := by decide +kernel
theorem dX1_init_71 : decode cX1_init 71 = .ok (.newarray .int, 2) := by decide +kernel
theorem dX1_init_73 : decode cX1_init 73 = .ok (.putfield 36, 3) := by decide +kernel
theorem dX1_init_76 : decode cX1_init 76 = .ok (.return_, 1) := by decide +kernel
theorem dX1_beginAnew_0 : decode cX1_beginAnew 0 = .ok (.aload_n 0, 1) := by decide +kernel
theorem dX1_beginAnew_1 : decode cX1_beginAnew 1 = .ok (.iconst 0, 1) := by decide +kernel
theorem dX1_beginAnew_2 : decode cX1_beginAnew 2 = .ok (.putfield 39, 3) := by decide +kernel
theorem dX1_beginAnew_5 : decode cX1_beginAnew 5 = .ok (.aload_n 0, 1) := by decide +kernel
theorem dX1_beginAnew_6 : decode cX1_beginAnew 6 = .ok (.iconst 0, 1) := by decide +kernel
theorem dX1_beginAnew_7 : decode cX1_beginAnew 7 = .ok (.putfield 43, 3) := by decide +kernel
theorem dX1_beginAnew_10 : decode cX1_beginAnew 10 = .ok (.aload_n 0, 1) := by decide +kernel
theorem dX1_beginAnew_11 : decode cX1_beginAnew 11 = .ok (.iconst 0, 1) := by decide +kernel
theorem dX1_beginAnew_12 : decode cX1_beginAnew 12 = .ok (.putfield 46, 3) := by decide +kernel
theorem dX1_beginAnew_15 : decode cX1_beginAnew 15 = .ok (.aload_n 0, 1) := by decide +kernel
theorem dX1_beginAnew_16 : decode cX1_beginAnew 16 = .ok (.bipush 8, 2) := by decide +kernel
theorem dX1_beginAnew_18 : decode cX1_beginAnew 18 = .ok (.putfield 49, 3) := by decide +kernel
theorem dX1_beginAnew_21 : decode cX1_beginAnew 21 = .ok (.aload_n 0, 1) := by decide +kernel
theorem dX1_beginAnew_22 : decode cX1_beginAnew 22 = .ok (.bipush 15, 2) := by decide +kernel
theorem dX1_beginAnew_24 : decode cX1_beginAnew 24 = .ok (.putfield 52, 3) := by decide +kernel
theorem dX1_beginAnew_27 : decode cX1_beginAnew 27 = .ok (.aload_n 0, 1) := by decide +kernel
theorem dX1_beginAnew_28 : decode cX1_beginAnew 28 = .ok (.bipush 10, 2) := by decide +kernel
theorem dX1_beginAnew_30 : decode cX1_beginAnew 30 = .ok (.putfield 55, 3) := by decide +kernel
theorem dX1_beginAnew_33 : decode cX1_beginAnew 33 = .ok (.return_, 1) := by decide +kernel
theorem dX1_addSuspect_0 : decode cX1_addSuspect 0 = .ok (.aload_n 0, 1) := by decide +kernel
theorem dX1_addSuspect_1 : decode cX1_addSuspect 1 = .ok (.getfield 9, 3) := by decide +kernel
theorem dX1_addSuspect_4 : decode cX1_addSuspect 4 = .ok (.aload_n 0, 1) := by decide +kernel
theorem dX1_addSuspect_5 : decode cX1_addSuspect 5 = .ok (.getfield 39, 3) := by decide +kernel
theorem dX1_addSuspect_8 : decode cX1_addSuspect 8 = .ok (.iload_n 1, 1) := by decide +kernel
theorem dX1_addSuspect_9 : decode cX1_addSuspect 9 = .ok (.iastore, 1) := by decide +kernel
theorem dX1_addSuspect_10 : decode cX1_addSuspect 10 = .ok (.aload_n 0, 1) := by decide +kernel
theorem dX1_addSuspect_11 : decode cX1_addSuspect 11 = .ok (.dup, 1) := by decide +kernel
theorem dX1_addSuspect_12 : decode cX1_addSuspect 12 = .ok (.getfield 39, 3) := by decide +kernel
theorem dX1_addSuspect_15 : decode cX1_addSuspect 15 = .ok (.iconst 1, 1) := by decide +kernel
theorem dX1_addSuspect_16 : decode cX1_addSuspect 16 = .ok (.iadd, 1) := by decide +kernel
theorem dX1_addSuspect_17 : decode cX1_addSuspect 17 = .ok (.putfield 39, 3) := by decide +kernel
theorem dX1_addSuspect_20 : decode cX1_addSuspect 20 = .ok (.return_, 1) := by decide +kernel
theorem dX1_addFact_0 : decode cX1_addFact 0 = .ok (.aload_n 0, 1) := by decide +kernel
theorem dX1_addFact_1 : decode cX1_addFact 1 = .ok (.getfield 15, 3) := by decide +kernel
theorem dX1_addFact_4 : decode cX1_addFact 4 = .ok (.aload_n 0, 1) := by decide +kernel
theorem dX1_addFact_5 : decode cX1_addFact 5 = .ok (.getfield 43, 3) := by decide +kernel
theorem dX1_addFact_8 : decode cX1_addFact 8 = .ok (.aload_n 1, 1) := by decide +kernel
theorem dX1_addFact_9 : decode cX1_addFact 9 = .ok (.iconst 0, 1) := by decide +kernel
theorem dX1_addFact_10 : decode cX1_addFact 10 = .ok (.iaload, 1) := by decide +kernel
theorem dX1_addFact_11 : decode cX1_addFact 11 = .ok (.iastore, 1) := by decide +kernel
theorem dX1_addFact_12 : decode cX1_addFact 12 = .ok (.aload_n 0, 1) := by decide +kernel
theorem dX1_addFact_13 : decode cX1_addFact 13 = .ok (.getfield 18, 3) := by decide +kernel
theorem dX1_addFact_16 : decode cX1_addFact 16 = .ok (.aload_n 0, 1) := by decide +kernel
theorem dX1_addFact_17 : decode cX1_addFact 17 = .ok (.getfield 43, 3) := by decide +kernel
theorem dX1_addFact_20 : decode cX1_addFact 20 = .ok (.aload_n 1, 1) := by decide +kernel
theorem dX1_addFact_21 : decode cX1_addFact 21 = .ok (.iconst 1, 1) := by decide +kernel
theorem dX1_addFact_22 : decode cX1_addFact 22 = .ok (.iaload, 1) := by decide +kernel
theorem dX1_addFact_23 : decode cX1_addFact 23 = .ok (.iastore, 1) := by decide +kernel
theorem dX1_addFact_24 : decode cX1_addFact 24 = .ok (.iconst 0, 1) := by decide +kernel
theorem dX1_addFact_25 : decode cX1_addFact 25 = .ok (.istore_n 2, 1) := by decide +kernel
theorem dX1_addFact_26 : decode cX1_addFact 26 = .ok (.iload_n 2, 1) := by decide +kernel
theorem dX1_addFact_27 : decode cX1_addFact 27 = .ok (.bipush 6, 2) := by decide +kernel
theorem dX1_addFact_29 : decode cX1_addFact 29 = .ok (.if_icmp .ge 67, 3) := by decide +kernel
theorem dX1_addFact_32 : decode cX1_addFact 32 = .ok (.iload_n 2, 1) := by decide +kernel
theorem dX1_addFact_33 : decode cX1_addFact 33 = .ok (.aload_n 0, 1) := by decide +kernel
theorem dX1_addFact_34 : decode cX1_addFact 34 = .ok (.getfield 39, 3) := by decide +kernel
theorem dX1_addFact_37 : decode cX1_addFact 37 = .ok (.if_icmp .ge 14, 3) := by decide +kernel
theorem dX1_addFact_40 : decode cX1_addFact 40 = .ok (.aload_n 1, 1) := by decide +kernel
theorem dX1_addFact_41 : decode cX1_addFact 41 = .ok (.iconst 2, 1) := by decide +kernel
theorem dX1_addFact_42 : decode cX1_addFact 42 = .ok (.iload_n 2, 1) := by decide +kernel
theorem dX1_addFact_43 : decode cX1_addFact 43 = .ok (.iadd, 1) := by decide +kernel
theorem dX1_addFact_44 : decode cX1_addFact 44 = .ok (.iaload, 1) := by decide +kernel
theorem dX1_addFact_45 : decode cX1_addFact 45 = .ok (.bipush 9, 2) := by decide +kernel
theorem dX1_addFact_47 : decode cX1_addFact 47 = .ok (.isub, 1) := by decide +kernel
theorem dX1_addFact_48 : decode cX1_addFact 48 = .ok (.goto 4, 3) := by decide +kernel
theorem dX1_addFact_51 : decode cX1_addFact 51 = .ok (.iconst 0, 1) := by decide +kernel
theorem dX1_addFact_52 : decode cX1_addFact 52 = .ok (.istore_n 3, 1) := by decide +kernel
theorem dX1_addFact_53 : decode cX1_addFact 53 = .ok (.aload_n 0, 1) := by decide +kernel
theorem dX1_addFact_54 : decode cX1_addFact 54 = .ok (.getfield 21, 3) := by decide +kernel
theorem dX1_addFact_57 : decode cX1_addFact 57 = .ok (.aload_n 0, 1) := by decide +kernel
theorem dX1_addFact_58 : decode cX1_addFact 58 = .ok (.getfield 43, 3) := by decide +kernel
theorem dX1_addFact_61 : decode cX1_addFact 61 = .ok (.bipush 6, 2) := by decide +kernel
theorem dX1_addFact_63 : decode cX1_addFact 63 = .ok (.imul, 1) := by decide +kernel
theorem dX1_addFact_64 : decode cX1_addFact 64 = .ok (.iload_n 2, 1) := by decide +kernel
theorem dX1_addFact_65 : decode cX1_addFact 65 = .ok (.iadd, 1) := by decide +kernel
theorem dX1_addFact_66 : decode cX1_addFact 66 = .ok (.iload_n 3, 1) := by decide +kernel
theorem dX1_addFact_67 : decode cX1_addFact 67 = .ok (.iastore, 1) := by decide +kernel
theorem dX1_addFact_68 : decode cX1_addFact 68 = .ok (.aload_n 0, 1) := by decide +kernel
theorem dX1_addFact_69 : decode cX1_addFact 69 = .ok (.getfield 24, 3) := by decide +kernel
theorem dX1_addFact_72 : decode cX1_addFact 72 = .ok (.aload_n 0, 1) := by decide +kernel
theorem dX1_addFact_73 : decode cX1_addFact 73 = .ok (.getfield 43, 3) := by decide +kernel
theorem dX1_addFact_76 : decode cX1_addFact 76 = .ok (.bipush 6, 2) := by decide +kernel
theorem dX1_addFact_78 : decode cX1_addFact 78 = .ok (.imul, 1) := by decide +kernel
theorem dX1_addFact_79 : decode cX1_addFact 79 = .ok (.iload_n 2, 1) := by decide +kernel
theorem dX1_addFact_80 : decode cX1_addFact 80 = .ok (.iadd, 1) := by decide +kernel
theorem dX1_addFact_81 : decode cX1_addFact 81 = .ok (.iload_n 3, 1) := by decide +kernel
theorem dX1_addFact_82 : decode cX1_addFact 82 = .ok (.aload_n 1, 1) := by decide +kernel
theorem dX1_addFact_83 : decode cX1_addFact 83 = .ok (.iconst 1, 1) := by decide +kernel
theorem dX1_addFact_84 : decode cX1_addFact 84 = .ok (.iaload, 1) := by decide +kernel
theorem dX1_addFact_85 : decode cX1_addFact 85 = .ok (.imul, 1) := by decide +kernel
theorem dX1_addFact_86 : decode cX1_addFact 86 = .ok (.bipush 10, 2) := by decide +kernel
theorem dX1_addFact_88 : decode cX1_addFact 88 = .ok (.idiv, 1) := by decide +kernel
theorem dX1_addFact_89 : decode cX1_addFact 89 = .ok (.iastore, 1) := by decide +kernel
theorem dX1_addFact_90 : decode cX1_addFact 90 = .ok (.iinc 2 1, 3) := by decide +kernel
theorem dX1_addFact_93 : decode cX1_addFact 93 = .ok (.goto (-67), 3) := by decide +kernel
theorem dX1_addFact_96 : decode cX1_addFact 96 = .ok (.aload_n 0, 1) := by decide +kernel
theorem dX1_addFact_97 : decode cX1_addFact 97 = .ok (.dup, 1) := by decide +kernel
theorem dX1_addFact_98 : decode cX1_addFact 98 = .ok (.getfield 43, 3) := by decide +kernel
theorem dX1_addFact_101 : decode cX1_addFact 101 = .ok (.iconst 1, 1) := by decide +kernel
theorem dX1_addFact_102 : decode cX1_addFact 102 = .ok (.iadd, 1) := by decide +kernel
theorem dX1_addFact_103 : decode cX1_addFact 103 = .ok (.putfield 43, 3) := by decide +kernel
theorem dX1_addFact_106 : decode cX1_addFact 106 = .ok (.return_, 1) := by decide +kernel
theorem dX1_addAlibi_0 : decode cX1_addAlibi 0 = .ok (.aload_n 0, 1) := by decide +kernel
theorem dX1_addAlibi_1 : decode cX1_addAlibi 1 = .ok (.getfield 27, 3) := by decide +kernel
theorem dX1_addAlibi_4 : decode cX1_addAlibi 4 = .ok (.aload_n 0, 1) := by decide +kernel
theorem dX1_addAlibi_5 : decode cX1_addAlibi 5 = .ok (.getfield 46, 3) := by decide +kernel
theorem dX1_addAlibi_8 : decode cX1_addAlibi 8 = .ok (.aload_n 1, 1) := by decide +kernel
theorem dX1_addAlibi_9 : decode cX1_addAlibi 9 = .ok (.iconst 0, 1) := by decide +kernel
theorem dX1_addAlibi_10 : decode cX1_addAlibi 10 = .ok (.iaload, 1) := by decide +kernel
theorem dX1_addAlibi_11 : decode cX1_addAlibi 11 = .ok (.iastore, 1) := by decide +kernel
theorem dX1_addAlibi_12 : decode cX1_addAlibi 12 = .ok (.aload_n 0, 1) := by decide +kernel
theorem dX1_addAlibi_13 : decode cX1_addAlibi 13 = .ok (.getfield 30, 3) := by decide +kernel
theorem dX1_addAlibi_16 : decode cX1_addAlibi 16 = .ok (.aload_n 0, 1) := by decide +kernel
theorem dX1_addAlibi_17 : decode cX1_addAlibi 17 = .ok (.getfield 46, 3) := by decide +kernel
theorem dX1_addAlibi_20 : decode cX1_addAlibi 20 = .ok (.aload_n 1, 1) := by decide +kernel
theorem dX1_addAlibi_21 : decode cX1_addAlibi 21 = .ok (.iconst 1, 1) := by decide +kernel
theorem dX1_addAlibi_22 : decode cX1_addAlibi 22 = .ok (.iaload, 1) := by decide +kernel
theorem dX1_addAlibi_23 : decode cX1_addAlibi 23 = .ok (.iastore, 1) := by decide +kernel
theorem dX1_addAlibi_24 : decode cX1_addAlibi 24 = .ok (.aload_n 0, 1) := by decide +kernel
theorem dX1_addAlibi_25 : decode cX1_addAlibi 25 = .ok (.getfield 33, 3) := by decide +kernel
theorem dX1_addAlibi_28 : decode cX1_addAlibi 28 = .ok (.aload_n 0, 1) := by decide +kernel
theorem dX1_addAlibi_29 : decode cX1_addAlibi 29 = .ok (.getfield 46, 3) := by decide +kernel
theorem dX1_addAlibi_32 : decode cX1_addAlibi 32 = .ok (.aload_n 1, 1) := by decide +kernel
theorem dX1_addAlibi_33 : decode cX1_addAlibi 33 = .ok (.iconst 2, 1) := by decide +kernel
theorem dX1_addAlibi_34 : decode cX1_addAlibi 34 = .ok (.iaload, 1) := by decide +kernel
theorem dX1_addAlibi_35 : decode cX1_addAlibi 35 = .ok (.iastore, 1) := by decide +kernel
theorem dX1_addAlibi_36 : decode cX1_addAlibi 36 = .ok (.aload_n 0, 1) := by decide +kernel
theorem dX1_addAlibi_37 : decode cX1_addAlibi 37 = .ok (.getfield 36, 3) := by decide +kernel
theorem dX1_addAlibi_40 : decode cX1_addAlibi 40 = .ok (.aload_n 0, 1) := by decide +kernel
theorem dX1_addAlibi_41 : decode cX1_addAlibi 41 = .ok (.getfield 46, 3) := by decide +kernel
theorem dX1_addAlibi_44 : decode cX1_addAlibi 44 = .ok (.aload_n 1, 1) := by decide +kernel
theorem dX1_addAlibi_45 : decode cX1_addAlibi 45 = .ok (.iconst 3, 1) := by decide +kernel
theorem dX1_addAlibi_46 : decode cX1_addAlibi 46 = .ok (.iaload, 1) := by decide +kernel
theorem dX1_addAlibi_47 : decode cX1_addAlibi 47 = .ok (.iastore, 1) := by decide +kernel
theorem dX1_addAlibi_48 : decode cX1_addAlibi 48 = .ok (.aload_n 0, 1) := by decide +kernel
theorem dX1_addAlibi_49 : decode cX1_addAlibi 49 = .ok (.dup, 1) := by decide +kernel
theorem dX1_addAlibi_50 : decode cX1_addAlibi 50 = .ok (.getfield 46, 3) := by decide +kernel
theorem dX1_addAlibi_53 : decode cX1_addAlibi 53 = .ok (.iconst 1, 1) := by decide +kernel
theorem dX1_addAlibi_54 : decode cX1_addAlibi 54 = .ok (.iadd, 1) := by decide +kernel
theorem dX1_addAlibi_55 : decode cX1_addAlibi 55 = .ok (.putfield 46, 3) := by decide +kernel
theorem dX1_addAlibi_58 : decode cX1_addAlibi 58 = .ok (.return_, 1) := by decide +kernel
theorem dX1_costOf_0 : decode cX1_costOf 0 = .ok (.iconst 0, 1) := by decide +kernel
theorem dX1_costOf_1 : decode cX1_costOf 1 = .ok (.istore_n 2, 1) := by decide +kernel
theorem dX1_costOf_2 : decode cX1_costOf 2 = .ok (.iconst 0, 1) := by decide +kernel
theorem dX1_costOf_3 : decode cX1_costOf 3 = .ok (.istore_n 3, 1) := by decide +kernel
theorem dX1_costOf_4 : decode cX1_costOf 4 = .ok (.iload_n 3, 1) := by decide +kernel
theorem dX1_costOf_5 : decode cX1_costOf 5 = .ok (.aload_n 0, 1) := by decide +kernel
theorem dX1_costOf_6 : decode cX1_costOf 6 = .ok (.getfield 43, 3) := by decide +kernel
theorem dX1_costOf_9 : decode cX1_costOf 9 = .ok (.if_icmp .ge 27, 3) := by decide +kernel
theorem dX1_costOf_12 : decode cX1_costOf 12 = .ok (.iload_n 1, 1) := by decide +kernel
theorem dX1_costOf_13 : decode cX1_costOf 13 = .ok (.iload_n 3, 1) := by decide +kernel
theorem dX1_costOf_14 : decode cX1_costOf 14 = .ok (.invokestatic 58, 3) := by decide +kernel
theorem dX1_costOf_17 : decode cX1_costOf 17 = .ok (.iconst 1, 1) := by decide +kernel
theorem dX1_costOf_18 : decode cX1_costOf 18 = .ok (.if_icmp .ne 12, 3) := by decide +kernel
theorem dX1_costOf_21 : decode cX1_costOf 21 = .ok (.iload_n 2, 1) := by decide +kernel
theorem dX1_costOf_22 : decode cX1_costOf 22 = .ok (.aload_n 0, 1) := by decide +kernel
theorem dX1_costOf_23 : decode cX1_costOf 23 = .ok (.getfield 15, 3) := by decide +kernel
theorem dX1_costOf_26 : decode cX1_costOf 26 = .ok (.iload_n 3, 1) := by decide +kernel
theorem dX1_costOf_27 : decode cX1_costOf 27 = .ok (.iaload, 1) := by decide +kernel
theorem dX1_costOf_28 : decode cX1_costOf 28 = .ok (.iadd, 1) := by decide +kernel
theorem dX1_costOf_29 : decode cX1_costOf 29 = .ok (.istore_n 2, 1) := by decide +kernel
theorem dX1_costOf_30 : decode cX1_costOf 30 = .ok (.iinc 3 1, 3) := by decide +kernel
theorem dX1_costOf_33 : decode cX1_costOf 33 = .ok (.goto (-29), 3) := by decide +kernel
theorem dX1_costOf_36 : decode cX1_costOf 36 = .ok (.iload_n 2, 1) := by decide +kernel
theorem dX1_costOf_37 : decode cX1_costOf 37 = .ok (.ireturn, 1) := by decide +kernel
theorem dX1_doClash_0 : decode cX1_doClash 0 = .ok (.aload_n 0, 1) := by decide +kernel
theorem dX1_doClash_1 : decode cX1_doClash 1 = .ok (.getfield 27, 3) := by decide +kernel
theorem dX1_doClash_4 : decode cX1_doClash 4 = .ok (.iload_n 1, 1) := by decide +kernel
theorem dX1_doClash_5 : decode cX1_doClash 5 = .ok (.iaload, 1) := by decide +kernel
theorem dX1_doClash_6 : decode cX1_doClash 6 = .ok (.aload_n 0, 1) := by decide +kernel
theorem dX1_doClash_7 : decode cX1_doClash 7 = .ok (.getfield 27, 3) := by decide +kernel
theorem dX1_doClash_10 : decode cX1_doClash 10 = .ok (.iload_n 2, 1) := by decide +kernel
theorem dX1_doClash_11 : decode cX1_doClash 11 = .ok (.iaload, 1) := by decide +kernel
theorem dX1_doClash_12 : decode cX1_doClash 12 = .ok (.if_icmp .ne 52, 3) := by decide +kernel
theorem dX1_doClash_15 : decode cX1_doClash 15 = .ok (.aload_n 0, 1) := by decide +kernel
theorem dX1_doClash_16 : decode cX1_doClash 16 = .ok (.getfield 30, 3) := by decide +kernel
theorem dX1_doClash_19 : decode cX1_doClash 19 = .ok (.iload_n 1, 1) := by decide +kernel
theorem dX1_doClash_20 : decode cX1_doClash 20 = .ok (.iaload, 1) := by decide +kernel
theorem dX1_doClash_21 : decode cX1_doClash 21 = .ok (.aload_n 0, 1) := by decide +kernel
theorem dX1_doClash_22 : decode cX1_doClash 22 = .ok (.getfield 30, 3) := by decide +kernel
theorem dX1_doClash_25 : decode cX1_doClash 25 = .ok (.iload_n 2, 1) := by decide +kernel
theorem dX1_doClash_26 : decode cX1_doClash 26 = .ok (.iaload, 1) := by decide +kernel
theorem dX1_doClash_27 : decode cX1_doClash 27 = .ok (.if_icmp .eq 37, 3) := by decide +kernel
theorem dX1_doClash_30 : decode cX1_doClash 30 = .ok (.aload_n 0, 1) := by decide +kernel
theorem dX1_doClash_31 : decode cX1_doClash 31 = .ok (.getfield 33, 3) := by decide +kernel
theorem dX1_doClash_34 : decode cX1_doClash 34 = .ok (.iload_n 1, 1) := by decide +kernel
theorem dX1_doClash_35 : decode cX1_doClash 35 = .ok (.iaload, 1) := by decide +kernel
theorem dX1_doClash_36 : decode cX1_doClash 36 = .ok (.aload_n 0, 1) := by decide +kernel
theorem dX1_doClash_37 : decode cX1_doClash 37 = .ok (.getfield 36, 3) := by decide +kernel
theorem dX1_doClash_40 : decode cX1_doClash 40 = .ok (.iload_n 2, 1) := by decide +kernel
theorem dX1_doClash_41 : decode cX1_doClash 41 = .ok (.iaload, 1) := by decide +kernel
theorem dX1_doClash_42 : decode cX1_doClash 42 = .ok (.if_icmp .gt 22, 3) := by decide +kernel
theorem dX1_doClash_45 : decode cX1_doClash 45 = .ok (.aload_n 0, 1) := by decide +kernel
theorem dX1_doClash_46 : decode cX1_doClash 46 = .ok (.getfield 33, 3) := by decide +kernel
theorem dX1_doClash_49 : decode cX1_doClash 49 = .ok (.iload_n 2, 1) := by decide +kernel
theorem dX1_doClash_50 : decode cX1_doClash 50 = .ok (.iaload, 1) := by decide +kernel
theorem dX1_doClash_51 : decode cX1_doClash 51 = .ok (.aload_n 0, 1) := by decide +kernel
theorem dX1_doClash_52 : decode cX1_doClash 52 = .ok (.getfield 36, 3) := by decide +kernel
theorem dX1_doClash_55 : decode cX1_doClash 55 = .ok (.iload_n 1, 1) := by decide +kernel
theorem dX1_doClash_56 : decode cX1_doClash 56 = .ok (.iaload, 1) := by decide +kernel
theorem dX1_doClash_57 : decode cX1_doClash 57 = .ok (.if_icmp .gt 7, 3) := by decide +kernel
theorem dX1_doClash_60 : decode cX1_doClash 60 = .ok (.iconst 1, 1) := by decide +kernel
theorem dX1_doClash_61 : decode cX1_doClash 61 = .ok (.goto 4, 3) := by decide +kernel
theorem dX1_doClash_64 : decode cX1_doClash 64 = .ok (.iconst 0, 1) := by decide +kernel
theorem dX1_doClash_65 : decode cX1_doClash 65 = .ok (.ireturn, 1) := by decide +kernel
theorem dX2_init_0 : decode cX2_init 0 = .ok (.aload_n 0, 1) := by decide +kernel
theorem dX2_init_1 : decode cX2_init 1 = .ok (.invokespecial 1, 3) := by decide +kernel
theorem dX2_init_4 : decode cX2_init 4 = .ok (.return_, 1) := by decide +kernel
theorem dX2_markOf_0 : decode cX2_markOf 0 = .ok (.aload_n 1, 1) := by decide +kernel
theorem dX2_markOf_1 : decode cX2_markOf 1 = .ok (.dup, 1) := by decide +kernel
theorem dX2_markOf_2 : decode cX2_markOf 2 = .ok (.getfield 7, 3) := by decide +kernel
theorem dX2_markOf_5 : decode cX2_markOf 5 = .ok (.ldc2_w 13, 3) := by decide +kernel
theorem dX2_markOf_8 : decode cX2_markOf 8 = .ok (.ladd, 1) := by decide +kernel
theorem dX2_markOf_9 : decode cX2_markOf 9 = .ok (.putfield 7, 3) := by decide +kernel
theorem dX2_markOf_12 : decode cX2_markOf 12 = .ok (.aload_n 0, 1) := by decide +kernel
theorem dX2_markOf_13 : decode cX2_markOf 13 = .ok (.aload_n 1, 1) := by decide +kernel
theorem dX2_markOf_14 : decode cX2_markOf 14 = .ok (.iload_n 2, 1) := by decide +kernel
theorem dX2_markOf_15 : decode cX2_markOf 15 = .ok (.invokespecial 15, 3) := by decide +kernel
theorem dX2_markOf_18 : decode cX2_markOf 18 = .ok (.iconst 2, 1) := by decide +kernel
theorem dX2_markOf_19 : decode cX2_markOf 19 = .ok (.imul, 1) := by decide +kernel
theorem dX2_markOf_20 : decode cX2_markOf 20 = .ok (.ireturn, 1) := by decide +kernel
theorem dX3_init_0 : decode cX3_init 0 = .ok (.aload_n 0, 1) := by decide +kernel
theorem dX3_init_1 : decode cX3_init 1 = .ok (.invokespecial 1, 3) := by decide +kernel
theorem dX3_init_4 : decode cX3_init 4 = .ok (.return_, 1) := by decide +kernel
theorem dX3_markOf_0 : decode cX3_markOf 0 = .ok (.aload_n 1, 1) := by decide +kernel
theorem dX3_markOf_1 : decode cX3_markOf 1 = .ok (.dup, 1) := by decide +kernel
theorem dX3_markOf_2 : decode cX3_markOf 2 = .ok (.getfield 7, 3) := by decide +kernel
theorem dX3_markOf_5 : decode cX3_markOf 5 = .ok (.ldc2_w 13, 3) := by decide +kernel
theorem dX3_markOf_8 : decode cX3_markOf 8 = .ok (.ladd, 1) := by decide +kernel
theorem dX3_markOf_9 : decode cX3_markOf 9 = .ok (.putfield 7, 3) := by decide +kernel
theorem dX3_markOf_12 : decode cX3_markOf 12 = .ok (.aload_n 0, 1) := by decide +kernel
theorem dX3_markOf_13 : decode cX3_markOf 13 = .ok (.aload_n 1, 1) := by decide +kernel
theorem dX3_markOf_14 : decode cX3_markOf 14 = .ok (.iload_n 2, 1) := by decide +kernel
theorem dX3_markOf_15 : decode cX3_markOf 15 = .ok (.invokespecial 15, 3) := by decide +kernel
theorem dX3_markOf_18 : decode cX3_markOf 18 = .ok (.iload_n 2, 1) := by decide +kernel
theorem dX3_markOf_19 : decode cX3_markOf 19 = .ok (.iadd, 1) := by decide +kernel
theorem dX3_markOf_20 : decode cX3_markOf 20 = .ok (.ireturn, 1) := by decide +kernel
theorem dX4_init_0 : decode cX4_init 0 = .ok (.aload_n 0, 1) := by decide +kernel
theorem dX4_init_1 : decode cX4_init 1 = .ok (.invokespecial 1, 3) := by decide +kernel
theorem dX4_init_4 : decode cX4_init 4 = .ok (.return_, 1) := by decide +kernel
theorem dX4_markOf_0 : decode cX4_markOf 0 = .ok (.aload_n 1, 1) := by decide +kernel
theorem dX4_markOf_1 : decode cX4_markOf 1 = .ok (.dup, 1) := by decide +kernel
theorem dX4_markOf_2 : decode cX4_markOf 2 = .ok (.getfield 7, 3) := by decide +kernel
theorem dX4_markOf_5 : decode cX4_markOf 5 = .ok (.ldc2_w 13, 3) := by decide +kernel
theorem dX4_markOf_8 : decode cX4_markOf 8 = .ok (.ladd, 1) := by decide +kernel
theorem dX4_markOf_9 : decode cX4_markOf 9 = .ok (.putfield 7, 3) := by decide +kernel
theorem dX4_markOf_12 : decode cX4_markOf 12 = .ok (.aload_n 0, 1) := by decide +kernel
theorem dX4_markOf_13 : decode cX4_markOf 13 = .ok (.aload_n 1, 1) := by decide +kernel
theorem dX4_markOf_14 : decode cX4_markOf 14 = .ok (.iload_n 2, 1) := by decide +kernel
theorem dX4_markOf_15 : decode cX4_markOf 15 = .ok (.invokespecial 15, 3) := by decide +kernel
theorem dX4_markOf_18 : decode cX4_markOf 18 = .ok (.aload_n 1, 1) := by decide +kernel
theorem dX4_markOf_19 : decode cX4_markOf 19 = .ok (.getfield 19, 3) := by decide +kernel
theorem dX4_markOf_22 : decode cX4_markOf 22 = .ok (.getfield 23, 3) := by decide +kernel
theorem dX4_markOf_25 : decode cX4_markOf 25 = .ok (.invokestatic 29, 3) := by decide +kernel
theorem dX4_markOf_28 : decode cX4_markOf 28 = .ok (.iadd, 1) := by decide +kernel
theorem dX4_markOf_29 : decode cX4_markOf 29 = .ok (.ireturn, 1) := by decide +kernel
theorem dX5_init_0 : decode cX5_init 0 = .ok (.aload_n 0, 1) := by decide +kernel
theorem dX5_init_1 : decode cX5_init 1 = .ok (.invokespecial 3, 3) := by decide +kernel
theorem dX5_init_4 : decode cX5_init 4 = .ok (.aload_n 0, 1) := by decide +kernel
theorem dX5_init_5 : decode cX5_init 5 = .ok (.bipush 6, 2) := by decide +kernel
theorem dX5_init_7 : decode cX5_init 7 = .ok (.newarray .int, 2) := by decide +kernel
theorem dX5_init_9 : decode cX5_init 9 = .ok (.putfield 9, 3) := by decide +kernel
theorem dX5_init_12 : decode cX5_init 12 = .ok (.aload_n 0, 1) := by decide +kernel
theorem dX5_init_13 : decode cX5_init 13 = .ok (.bipush 6, 2) := by decide +kernel
theorem dX5_init_15 : decode cX5_init 15 = .ok (.newarray .int, 2) := by decide +kernel
theorem dX5_init_17 : decode cX5_init 17 = .ok (.putfield 15, 3) := by decide +kernel
theorem dX5_init_20 : decode cX5_init 20 = .ok (.aload_n 0, 1) := by decide +kernel
theorem dX5_init_21 : decode cX5_init 21 = .ok (.bipush 6, 2) := by decide +kernel
theorem dX5_init_23 : decode cX5_init 23 = .ok (.newarray .int, 2) := by decide +kernel
theorem dX5_init_25 : decode cX5_init 25 = .ok (.putfield 18, 3) := by decide +kernel
theorem dX5_init_28 : decode cX5_init 28 = .ok (.aload_n 0, 1) := by decide +kernel
theorem dX5_init_29 : decode cX5_init 29 = .ok (.bipush 6, 2) := by decide +kernel
theorem dX5_init_31 : decode cX5_init 31 = .ok (.newarray .int, 2) := by decide +kernel
theorem dX5_init_33 : decode cX5_init 33 = .ok (.putfield 21, 3) := by decide +kernel
theorem dX5_init_36 : decode cX5_init 36 = .ok (.return_, 1) := by decide +kernel
theorem dX5_countHours_0 : decode cX5_countHours 0 = .ok (.aload_n 0, 1) := by decide +kernel
theorem dX5_countHours_1 : decode cX5_countHours 1 = .ok (.aload_n 1, 1) := by decide +kernel
theorem dX5_countHours_2 : decode cX5_countHours 2 = .ok (.getfield 24, 3) := by decide +kernel
theorem dX5_countHours_5 : decode cX5_countHours 5 = .ok (.putfield 30, 3) := by decide +kernel
theorem dX5_countHours_8 : decode cX5_countHours 8 = .ok (.aload_n 1, 1) := by decide +kernel
theorem dX5_countHours_9 : decode cX5_countHours 9 = .ok (.getfield 31, 3) := by decide +kernel
theorem dX5_countHours_12 : decode cX5_countHours 12 = .ok (.aload_n 1, 1) := by decide +kernel
theorem dX5_countHours_13 : decode cX5_countHours 13 = .ok (.getfield 34, 3) := by decide +kernel
theorem dX5_countHours_16 : decode cX5_countHours 16 = .ok (.invokestatic 37, 3) := by decide +kernel
theorem dX5_countHours_19 : decode cX5_countHours 19 = .ok (.istore_n 3, 1) := by decide +kernel
theorem dX5_countHours_20 : decode cX5_countHours 20 = .ok (.iconst 0, 1) := by decide +kernel
theorem dX5_countHours_21 : decode cX5_countHours 21 = .ok (.istore 4, 2) := by decide +kernel
theorem dX5_countHours_23 : decode cX5_countHours 23 = .ok (.iload 4, 2) := by decide +kernel
theorem dX5_countHours_25 : decode cX5_countHours 25 = .ok (.aload_n 0, 1) := by decide +kernel
theorem dX5_countHours_26 : decode cX5_countHours 26 = .ok (.getfield 30, 3) := by decide +kernel
theorem dX5_countHours_29 : decode cX5_countHours 29 = .ok (.if_icmp .ge 88, 3) := by decide +kernel
theorem dX5_countHours_32 : decode cX5_countHours 32 = .ok (.iconst 0, 1) := by decide +kernel
theorem dX5_countHours_33 : decode cX5_countHours 33 = .ok (.istore 5, 2) := by decide +kernel
theorem dX5_countHours_35 : decode cX5_countHours 35 = .ok (.iconst 0, 1) := by decide +kernel
theorem dX5_countHours_36 : decode cX5_countHours 36 = .ok (.istore 6, 2) := by decide +kernel
theorem dX5_countHours_38 : decode cX5_countHours 38 = .ok (.iload 6, 2) := by decide +kernel
theorem dX5_countHours_40 : decode cX5_countHours 40 = .ok (.aload_n 1, 1) := by decide +kernel
theorem dX5_countHours_41 : decode cX5_countHours 41 = .ok (.getfield 41, 3) := by decide +kernel
theorem dX5_countHours_44 : decode cX5_countHours 44 = .ok (.if_icmp .ge 53, 3) := by decide +kernel
theorem dX5_countHours_47 : decode cX5_countHours 47 = .ok (.iload_n 2, 1) := by decide +kernel
theorem dX5_countHours_48 : decode cX5_countHours 48 = .ok (.iload 6, 2) := by decide +kernel
theorem dX5_countHours_50 : decode cX5_countHours 50 = .ok (.invokestatic 44, 3) := by decide +kernel
theorem dX5_countHours_53 : decode cX5_countHours 53 = .ok (.iconst 1, 1) := by decide +kernel
theorem dX5_countHours_54 : decode cX5_countHours 54 = .ok (.if_icmp .ne 37, 3) := by decide +kernel
theorem dX5_countHours_57 : decode cX5_countHours 57 = .ok (.aload_n 1, 1) := by decide +kernel
theorem dX5_countHours_58 : decode cX5_countHours 58 = .ok (.getfield 47, 3) := by decide +kernel
theorem dX5_countHours_61 : decode cX5_countHours 61 = .ok (.iload 6, 2) := by decide +kernel
theorem dX5_countHours_63 : decode cX5_countHours 63 = .ok (.iaload, 1) := by decide +kernel
theorem dX5_countHours_64 : decode cX5_countHours 64 = .ok (.iload 4, 2) := by decide +kernel
theorem dX5_countHours_66 : decode cX5_countHours 66 = .ok (.if_icmp .ne 25, 3) := by decide +kernel
theorem dX5_countHours_69 : decode cX5_countHours 69 = .ok (.iload 5, 2) := by decide +kernel
theorem dX5_countHours_71 : decode cX5_countHours 71 = .ok (.aload_n 1, 1) := by decide +kernel
theorem dX5_countHours_72 : decode cX5_countHours 72 = .ok (.getfield 50, 3) := by decide +kernel
theorem dX5_countHours_75 : decode cX5_countHours 75 = .ok (.iload 6, 2) := by decide +kernel
theorem dX5_countHours_77 : decode cX5_countHours 77 = .ok (.iaload, 1) := by decide +kernel
theorem dX5_countHours_78 : decode cX5_countHours 78 = .ok (.aload_n 1, 1) := by decide +kernel
theorem dX5_countHours_79 : decode cX5_countHours 79 = .ok (.getfield 53, 3) := by decide +kernel
theorem dX5_countHours_82 : decode cX5_countHours 82 = .ok (.iload 6, 2) := by decide +kernel
theorem dX5_countHours_84 : decode cX5_countHours 84 = .ok (.iaload, 1) := by decide +kernel
theorem dX5_countHours_85 : decode cX5_countHours 85 = .ok (.invokestatic 37, 3) := by decide +kernel
theorem dX5_countHours_88 : decode cX5_countHours 88 = .ok (.ior, 1) := by decide +kernel
theorem dX5_countHours_89 : decode cX5_countHours 89 = .ok (.istore 5, 2) := by decide +kernel
theorem dX5_countHours_91 : decode cX5_countHours 91 = .ok (.iinc 6 1, 3) := by decide +kernel
theorem dX5_countHours_94 : decode cX5_countHours 94 = .ok (.goto (-56), 3) := by decide +kernel
theorem dX5_countHours_97 : decode cX5_countHours 97 = .ok (.aload_n 0, 1) := by decide +kernel
theorem dX5_countHours_98 : decode cX5_countHours 98 = .ok (.getfield 18, 3) := by decide +kernel
theorem dX5_countHours_101 : decode cX5_countHours 101 = .ok (.iload 4, 2) := by decide +kernel
theorem dX5_countHours_103 : decode cX5_countHours 103 = .ok (.iload 5, 2) := by decide +kernel
theorem dX5_countHours_105 : decode cX5_countHours 105 = .ok (.iload_n 3, 1) := by decide +kernel
theorem dX5_countHours_106 : decode cX5_countHours 106 = .ok (.iand, 1) := by decide +kernel
theorem dX5_countHours_107 : decode cX5_countHours 107 = .ok (.invokestatic 56, 3) := by decide +kernel
theorem dX5_countHours_110 : decode cX5_countHours 110 = .ok (.iastore, 1) := by decide +kernel
theorem dX5_countHours_111 : decode cX5_countHours 111 = .ok (.iinc 4 1, 3) := by decide +kernel
theorem dX5_countHours_114 : decode cX5_countHours 114 = .ok (.goto (-91), 3) := by decide +kernel
theorem dX5_countHours_117 : decode cX5_countHours 117 = .ok (.return_, 1) := by decide +kernel
theorem dX5_hoursFromTo_0 : decode cX5_hoursFromTo 0 = .ok (.iconst 1, 1) := by decide +kernel
theorem dX5_hoursFromTo_1 : decode cX5_hoursFromTo 1 = .ok (.iload_n 1, 1) := by decide +kernel
theorem dX5_hoursFromTo_2 : decode cX5_hoursFromTo 2 = .ok (.iconst 1, 1) := by decide +kernel
theorem dX5_hoursFromTo_3 : decode cX5_hoursFromTo 3 = .ok (.iadd, 1) := by decide +kernel
theorem dX5_hoursFromTo_4 : decode cX5_hoursFromTo 4 = .ok (.ishl, 1) := by decide +kernel
theorem dX5_hoursFromTo_5 : decode cX5_hoursFromTo 5 = .ok (.iconst 1, 1) := by decide +kernel
theorem dX5_hoursFromTo_6 : decode cX5_hoursFromTo 6 = .ok (.iload_n 0, 1) := by decide +kernel
theorem dX5_hoursFromTo_7 : decode cX5_hoursFromTo 7 = .ok (.ishl, 1) := by decide +kernel
theorem dX5_hoursFromTo_8 : decode cX5_hoursFromTo 8 = .ok (.isub, 1) := by decide +kernel
theorem dX5_hoursFromTo_9 : decode cX5_hoursFromTo 9 = .ok (.ireturn, 1) := by decide +kernel
theorem dX5_weigh_0 : decode cX5_weigh 0 = .ok (.aload_n 0, 1) := by decide +kernel
theorem dX5_weigh_1 : decode cX5_weigh 1 = .ok (.iconst 0, 1) := by decide +kernel
theorem dX5_weigh_2 : decode cX5_weigh 2 = .ok (.putfield 62, 3) := by decide +kernel
theorem dX5_weigh_5 : decode cX5_weigh 5 = .ok (.iconst 0, 1) := by decide +kernel
theorem dX5_weigh_6 : decode cX5_weigh 6 = .ok (.istore_n 3, 1) := by decide +kernel
theorem dX5_weigh_7 : decode cX5_weigh 7 = .ok (.iload_n 3, 1) := by decide +kernel
theorem dX5_weigh_8 : decode cX5_weigh 8 = .ok (.aload_n 0, 1) := by decide +kernel
theorem dX5_weigh_9 : decode cX5_weigh 9 = .ok (.getfield 30, 3) := by decide +kernel
theorem dX5_weigh_12 : decode cX5_weigh 12 = .ok (.if_icmp .ge 37, 3) := by decide +kernel
theorem dX5_weigh_15 : decode cX5_weigh 15 = .ok (.aload_n 0, 1) := by decide +kernel
theorem dX5_weigh_16 : decode cX5_weigh 16 = .ok (.getfield 9, 3) := by decide +kernel
theorem dX5_weigh_19 : decode cX5_weigh 19 = .ok (.iload_n 3, 1) := by decide +kernel
theorem dX5_weigh_20 : decode cX5_weigh 20 = .ok (.aload_n 0, 1) := by decide +kernel
theorem dX5_weigh_21 : decode cX5_weigh 21 = .ok (.aload_n 1, 1) := by decide +kernel
theorem dX5_weigh_22 : decode cX5_weigh 22 = .ok (.iload_n 2, 1) := by decide +kernel
theorem dX5_weigh_23 : decode cX5_weigh 23 = .ok (.iload_n 3, 1) := by decide +kernel
theorem dX5_weigh_24 : decode cX5_weigh 24 = .ok (.invokevirtual 65, 3) := by decide +kernel
theorem dX5_weigh_27 : decode cX5_weigh 27 = .ok (.iastore, 1) := by decide +kernel
theorem dX5_weigh_28 : decode cX5_weigh 28 = .ok (.aload_n 0, 1) := by decide +kernel
theorem dX5_weigh_29 : decode cX5_weigh 29 = .ok (.dup, 1) := by decide +kernel
theorem dX5_weigh_30 : decode cX5_weigh 30 = .ok (.getfield 62, 3) := by decide +kernel
theorem dX5_weigh_33 : decode cX5_weigh 33 = .ok (.aload_n 0, 1) := by decide +kernel
theorem dX5_weigh_34 : decode cX5_weigh 34 = .ok (.getfield 9, 3) := by decide +kernel
theorem dX5_weigh_37 : decode cX5_weigh 37 = .ok (.iload_n 3, 1) := by decide +kernel
theorem dX5_weigh_38 : decode cX5_weigh 38 = .ok (.iaload, 1) := by decide +kernel
theorem dX5_weigh_39 : decode cX5_weigh 39 = .ok (.iadd, 1) := by decide +kernel
theorem dX5_weigh_40 : decode cX5_weigh 40 = .ok (.putfield 62, 3) := by decide +kernel
theorem dX5_weigh_43 : decode cX5_weigh 43 = .ok (.iinc 3 1, 3) := by decide +kernel
theorem dX5_weigh_46 : decode cX5_weigh 46 = .ok (.goto (-39), 3) := by decide +kernel
theorem dX5_weigh_49 : decode cX5_weigh 49 = .ok (.return_, 1) := by decide +kernel
theorem dX5_heldBy_0 : decode cX5_heldBy 0 = .ok (.aload_n 1, 1) := by decide +kernel
theorem dX5_heldBy_1 : decode cX5_heldBy 1 = .ok (.getfield 69, 3) := by decide +kernel
theorem dX5_heldBy_4 : decode cX5_heldBy 4 = .ok (.iload_n 3, 1) := by decide +kernel
theorem dX5_heldBy_5 : decode cX5_heldBy 5 = .ok (.iaload, 1) := by decide +kernel
theorem dX5_heldBy_6 : decode cX5_heldBy 6 = .ok (.istore 4, 2) := by decide +kernel
theorem dX5_heldBy_8 : decode cX5_heldBy 8 = .ok (.iconst 0, 1) := by decide +kernel
theorem dX5_heldBy_9 : decode cX5_heldBy 9 = .ok (.istore 5, 2) := by decide +kernel
theorem dX5_heldBy_11 : decode cX5_heldBy 11 = .ok (.iload 5, 2) := by decide +kernel
theorem dX5_heldBy_13 : decode cX5_heldBy 13 = .ok (.aload_n 1, 1) := by decide +kernel
theorem dX5_heldBy_14 : decode cX5_heldBy 14 = .ok (.getfield 72, 3) := by decide +kernel
theorem dX5_heldBy_17 : decode cX5_heldBy 17 = .ok (.if_icmp .ge 36, 3) := by decide +kernel
theorem dX5_heldBy_20 : decode cX5_heldBy 20 = .ok (.iload_n 2, 1) := by decide +kernel
theorem dX5_heldBy_21 : decode cX5_heldBy 21 = .ok (.iload 5, 2) := by decide +kernel
theorem dX5_heldBy_23 : decode cX5_heldBy 23 = .ok (.invokestatic 44, 3) := by decide +kernel
theorem dX5_heldBy_26 : decode cX5_heldBy 26 = .ok (.iconst 1, 1) := by decide +kernel
theorem dX5_heldBy_27 : decode cX5_heldBy 27 = .ok (.if_icmp .ne 20, 3) := by decide +kernel
theorem dX5_heldBy_30 : decode cX5_heldBy 30 = .ok (.iload 4, 2) := by decide +kernel
theorem dX5_heldBy_32 : decode cX5_heldBy 32 = .ok (.aload_n 1, 1) := by decide +kernel
theorem dX5_heldBy_33 : decode cX5_heldBy 33 = .ok (.getfield 75, 3) := by decide +kernel
theorem dX5_heldBy_36 : decode cX5_heldBy 36 = .ok (.iload 5, 2) := by decide +kernel
theorem dX5_heldBy_38 : decode cX5_heldBy 38 = .ok (.bipush 6, 2) := by decide +kernel
theorem dX5_heldBy_40 : decode cX5_heldBy 40 = .ok (.imul, 1) := by decide +kernel
theorem dX5_heldBy_41 : decode cX5_heldBy 41 = .ok (.iload_n 3, 1) := by decide +kernel
theorem dX5_heldBy_42 : decode cX5_heldBy 42 = .ok (.iadd, 1) := by decide +kernel
theorem dX5_heldBy_43 : decode cX5_heldBy 43 = .ok (.iaload, 1) := by decide +kernel
theorem dX5_heldBy_44 : decode cX5_heldBy 44 = .ok (.iadd, 1) := by decide +kernel
theorem dX5_heldBy_45 : decode cX5_heldBy 45 = .ok (.istore 4, 2) := by decide +kernel
theorem dX5_heldBy_47 : decode cX5_heldBy 47 = .ok (.iinc 5 1, 3) := by decide +kernel
theorem dX5_heldBy_50 : decode cX5_heldBy 50 = .ok (.goto (-39), 3) := by decide +kernel
theorem dX5_heldBy_53 : decode cX5_heldBy 53 = .ok (.iconst 0, 1) := by decide +kernel
theorem dX5_heldBy_54 : decode cX5_heldBy 54 = .ok (.iconst 0, 1) := by decide +kernel
theorem dX5_heldBy_55 : decode cX5_heldBy 55 = .ok (.iload 4, 2) := by decide +kernel
theorem dX5_heldBy_57 : decode cX5_heldBy 57 = .ok (.invokestatic 78, 3) := by decide +kernel
theorem dX5_heldBy_60 : decode cX5_heldBy 60 = .ok (.aload_n 0, 1) := by decide +kernel
theorem dX5_heldBy_61 : decode cX5_heldBy 61 = .ok (.getfield 18, 3) := by decide +kernel
theorem dX5_heldBy_64 : decode cX5_heldBy 64 = .ok (.iload_n 3, 1) := by decide +kernel
theorem dX5_heldBy_65 : decode cX5_heldBy 65 = .ok (.iaload, 1) := by decide +kernel
theorem dX5_heldBy_66 : decode cX5_heldBy 66 = .ok (.isub, 1) := by decide +kernel
theorem dX5_heldBy_67 : decode cX5_heldBy 67 = .ok (.invokestatic 78, 3) := by decide +kernel
theorem dX5_heldBy_70 : decode cX5_heldBy 70 = .ok (.ireturn, 1) := by decide +kernel
theorem dX5_sentence_0 : decode cX5_sentence 0 = .ok (.aload_n 0, 1) := by decide +kernel
theorem dX5_sentence_1 : decode cX5_sentence 1 = .ok (.getfield 62, 3) := by decide +kernel
theorem dX5_sentence_4 : decode cX5_sentence 4 = .ok (.ifCond .ne 7, 3) := by decide +kernel
theorem dX5_sentence_7 : decode cX5_sentence 7 = .ok (.iconst 0, 1) := by decide +kernel
theorem dX5_sentence_8 : decode cX5_sentence 8 = .ok (.goto 4, 3) := by decide +kernel
theorem dX5_sentence_11 : decode cX5_sentence 11 = .ok (.iload_n 1, 1) := by decide +kernel
theorem dX5_sentence_12 : decode cX5_sentence 12 = .ok (.istore_n 2, 1) := by decide +kernel
theorem dX5_sentence_13 : decode cX5_sentence 13 = .ok (.iconst 0, 1) := by decide +kernel
theorem dX5_sentence_14 : decode cX5_sentence 14 = .ok (.istore_n 3, 1) := by decide +kernel
theorem dX5_sentence_15 : decode cX5_sentence 15 = .ok (.iload_n 3, 1) := by decide +kernel
theorem dX5_sentence_16 : decode cX5_sentence 16 = .ok (.aload_n 0, 1) := by decide +kernel
theorem dX5_sentence_17 : decode cX5_sentence 17 = .ok (.getfield 30, 3) := by decide +kernel
theorem dX5_sentence_20 : decode cX5_sentence 20 = .ok (.if_icmp .ge 78, 3) := by decide +kernel
theorem dX5_sentence_23 : decode cX5_sentence 23 = .ok (.aload_n 0, 1) := by decide +kernel
theorem dX5_sentence_24 : decode cX5_sentence 24 = .ok (.getfield 15, 3) := by decide +kernel
theorem dX5_sentence_27 : decode cX5_sentence 27 = .ok (.iload_n 3, 1) := by decide +kernel
theorem dX5_sentence_28 : decode cX5_sentence 28 = .ok (.aload_n 0, 1) := by decide +kernel
theorem dX5_sentence_29 : decode cX5_sentence 29 = .ok (.getfield 62, 3) := by decide +kernel
theorem dX5_sentence_32 : decode cX5_sentence 32 = .ok (.ifCond .ne 7, 3) := by decide +kernel
theorem dX5_sentence_35 : decode cX5_sentence 35 = .ok (.iconst 0, 1) := by decide +kernel
theorem dX5_sentence_36 : decode cX5_sentence 36 = .ok (.goto 16, 3) := by decide +kernel
theorem dX5_sentence_39 : decode cX5_sentence 39 = .ok (.iload_n 1, 1) := by decide +kernel
theorem dX5_sentence_40 : decode cX5_sentence 40 = .ok (.aload_n 0, 1) := by decide +kernel
theorem dX5_sentence_41 : decode cX5_sentence 41 = .ok (.getfield 9, 3) := by decide +kernel
theorem dX5_sentence_44 : decode cX5_sentence 44 = .ok (.iload_n 3, 1) := by decide +kernel
theorem dX5_sentence_45 : decode cX5_sentence 45 = .ok (.iaload, 1) := by decide +kernel
theorem dX5_sentence_46 : decode cX5_sentence 46 = .ok (.imul, 1) := by decide +kernel
theorem dX5_sentence_47 : decode cX5_sentence 47 = .ok (.aload_n 0, 1) := by decide +kernel
theorem dX5_sentence_48 : decode cX5_sentence 48 = .ok (.getfield 62, 3) := by decide +kernel
theorem dX5_sentence_51 : decode cX5_sentence 51 = .ok (.idiv, 1) := by decide +kernel
theorem dX5_sentence_52 : decode cX5_sentence 52 = .ok (.iastore, 1) := by decide +kernel
theorem dX5_sentence_53 : decode cX5_sentence 53 = .ok (.aload_n 0, 1) := by decide +kernel
theorem dX5_sentence_54 : decode cX5_sentence 54 = .ok (.getfield 21, 3) := by decide +kernel
theorem dX5_sentence_57 : decode cX5_sentence 57 = .ok (.iload_n 3, 1) := by decide +kernel
theorem dX5_sentence_58 : decode cX5_sentence 58 = .ok (.aload_n 0, 1) := by decide +kernel
theorem dX5_sentence_59 : decode cX5_sentence 59 = .ok (.getfield 62, 3) := by decide +kernel
theorem dX5_sentence_62 : decode cX5_sentence 62 = .ok (.ifCond .ne 7, 3) := by decide +kernel
theorem dX5_sentence_65 : decode cX5_sentence 65 = .ok (.iconst 0, 1) := by decide +kernel
theorem dX5_sentence_66 : decode cX5_sentence 66 = .ok (.goto 16, 3) := by decide +kernel
theorem dX5_sentence_69 : decode cX5_sentence 69 = .ok (.iload_n 1, 1) := by decide +kernel
theorem dX5_sentence_70 : decode cX5_sentence 70 = .ok (.aload_n 0, 1) := by decide +kernel
theorem dX5_sentence_71 : decode cX5_sentence 71 = .ok (.getfield 9, 3) := by decide +kernel
theorem dX5_sentence_74 : decode cX5_sentence 74 = .ok (.iload_n 3, 1) := by decide +kernel
theorem dX5_sentence_75 : decode cX5_sentence 75 = .ok (.iaload, 1) := by decide +kernel
theorem dX5_sentence_76 : decode cX5_sentence 76 = .ok (.imul, 1) := by decide +kernel
theorem dX5_sentence_77 : decode cX5_sentence 77 = .ok (.aload_n 0, 1) := by decide +kernel
theorem dX5_sentence_78 : decode cX5_sentence 78 = .ok (.getfield 62, 3) := by decide +kernel
theorem dX5_sentence_81 : decode cX5_sentence 81 = .ok (.irem, 1) := by decide +kernel
theorem dX5_sentence_82 : decode cX5_sentence 82 = .ok (.iastore, 1) := by decide +kernel
theorem dX5_sentence_83 : decode cX5_sentence 83 = .ok (.iload_n 2, 1) := by decide +kernel
theorem dX5_sentence_84 : decode cX5_sentence 84 = .ok (.aload_n 0, 1) := by decide +kernel
theorem dX5_sentence_85 : decode cX5_sentence 85 = .ok (.getfield 15, 3) := by decide +kernel
theorem dX5_sentence_88 : decode cX5_sentence 88 = .ok (.iload_n 3, 1) := by decide +kernel
theorem dX5_sentence_89 : decode cX5_sentence 89 = .ok (.iaload, 1) := by decide +kernel
theorem dX5_sentence_90 : decode cX5_sentence 90 = .ok (.isub, 1) := by decide +kernel
theorem dX5_sentence_91 : decode cX5_sentence 91 = .ok (.istore_n 2, 1) := by decide +kernel
theorem dX5_sentence_92 : decode cX5_sentence 92 = .ok (.iinc 3 1, 3) := by decide +kernel
theorem dX5_sentence_95 : decode cX5_sentence 95 = .ok (.goto (-80), 3) := by decide +kernel
theorem dX5_sentence_98 : decode cX5_sentence 98 = .ok (.iconst 0, 1) := by decide +kernel
theorem dX5_sentence_99 : decode cX5_sentence 99 = .ok (.istore_n 3, 1) := by decide +kernel
theorem dX5_sentence_100 : decode cX5_sentence 100 = .ok (.iload_n 3, 1) := by decide +kernel
theorem dX5_sentence_101 : decode cX5_sentence 101 = .ok (.bipush 6, 2) := by decide +kernel
theorem dX5_sentence_103 : decode cX5_sentence 103 = .ok (.if_icmp .ge 20, 3) := by decide +kernel
theorem dX5_sentence_106 : decode cX5_sentence 106 = .ok (.iload_n 2, 1) := by decide +kernel
theorem dX5_sentence_107 : decode cX5_sentence 107 = .ok (.ifCond .le 16, 3) := by decide +kernel
theorem dX5_sentence_110 : decode cX5_sentence 110 = .ok (.aload_n 0, 1) := by decide +kernel
theorem dX5_sentence_111 : decode cX5_sentence 111 = .ok (.invokevirtual 83, 3) := by decide +kernel
theorem dX5_sentence_114 : decode cX5_sentence 114 = .ok (.iinc 2 (-1), 3) := by decide +kernel
theorem dX5_sentence_117 : decode cX5_sentence 117 = .ok (.iinc 3 1, 3) := by decide +kernel
theorem dX5_sentence_120 : decode cX5_sentence 120 = .ok (.goto (-20), 3) := by decide +kernel
theorem dX5_sentence_123 : decode cX5_sentence 123 = .ok (.return_, 1) := by decide +kernel
theorem dX5_giveOneDayMore_0 : decode cX5_giveOneDayMore 0 = .ok (.iconst 0, 1) := by decide +kernel
theorem dX5_giveOneDayMore_1 : decode cX5_giveOneDayMore 1 = .ok (.istore_n 1, 1) := by decide +kernel
theorem dX5_giveOneDayMore_2 : decode cX5_giveOneDayMore 2 = .ok (.iconst 1, 1) := by decide +kernel
theorem dX5_giveOneDayMore_3 : decode cX5_giveOneDayMore 3 = .ok (.istore_n 2, 1) := by decide +kernel
theorem dX5_giveOneDayMore_4 : decode cX5_giveOneDayMore 4 = .ok (.iload_n 2, 1) := by decide +kernel
theorem dX5_giveOneDayMore_5 : decode cX5_giveOneDayMore 5 = .ok (.aload_n 0, 1) := by decide +kernel
theorem dX5_giveOneDayMore_6 : decode cX5_giveOneDayMore 6 = .ok (.getfield 30, 3) := by decide +kernel
theorem dX5_giveOneDayMore_9 : decode cX5_giveOneDayMore 9 = .ok (.if_icmp .ge 26, 3) := by decide +kernel
theorem dX5_giveOneDayMore_12 : decode cX5_giveOneDayMore 12 = .ok (.aload_n 0, 1) := by decide +kernel
theorem dX5_giveOneDayMore_13 : decode cX5_giveOneDayMore 13 = .ok (.getfield 21, 3) := by decide +kernel
theorem dX5_giveOneDayMore_16 : decode cX5_giveOneDayMore 16 = .ok (.iload_n 2, 1) := by decide +kernel
theorem dX5_giveOneDayMore_17 : decode cX5_giveOneDayMore 17 = .ok (.iaload, 1) := by decide +kernel
theorem dX5_giveOneDayMore_18 : decode cX5_giveOneDayMore 18 = .ok (.aload_n 0, 1) := by decide +kernel
theorem dX5_giveOneDayMore_19 : decode cX5_giveOneDayMore 19 = .ok (.getfield 21, 3) := by decide +kernel
theorem dX5_giveOneDayMore_22 : decode cX5_giveOneDayMore 22 = .ok (.iload_n 1, 1) := by decide +kernel
theorem dX5_giveOneDayMore_23 : decode cX5_giveOneDayMore 23 = .ok (.iaload, 1) := by decide +kernel
theorem dX5_giveOneDayMore_24 : decode cX5_giveOneDayMore 24 = .ok (.if_icmp .le 5, 3) := by decide +kernel
theorem dX5_giveOneDayMore_27 : decode cX5_giveOneDayMore 27 = .ok (.iload_n 2, 1) := by decide +kernel
theorem dX5_giveOneDayMore_28 : decode cX5_giveOneDayMore 28 = .ok (.istore_n 1, 1) := by decide +kernel
theorem dX5_giveOneDayMore_29 : decode cX5_giveOneDayMore 29 = .ok (.iinc 2 1, 3) := by decide +kernel
theorem dX5_giveOneDayMore_32 : decode cX5_giveOneDayMore 32 = .ok (.goto (-28), 3) := by decide +kernel
theorem dX5_giveOneDayMore_35 : decode cX5_giveOneDayMore 35 = .ok (.aload_n 0, 1) := by decide +kernel
theorem dX5_giveOneDayMore_36 : decode cX5_giveOneDayMore 36 = .ok (.getfield 15, 3) := by decide +kernel
theorem dX5_giveOneDayMore_39 : decode cX5_giveOneDayMore 39 = .ok (.iload_n 1, 1) := by decide +kernel
theorem dX5_giveOneDayMore_40 : decode cX5_giveOneDayMore 40 = .ok (.dup2, 1) := by decide +kernel
theorem dX5_giveOneDayMore_41 : decode cX5_giveOneDayMore 41 = .ok (.iaload, 1) := by decide +kernel
theorem dX5_giveOneDayMore_42 : decode cX5_giveOneDayMore 42 = .ok (.iconst 1, 1) := by decide +kernel
theorem dX5_giveOneDayMore_43 : decode cX5_giveOneDayMore 43 = .ok (.iadd, 1) := by decide +kernel
theorem dX5_giveOneDayMore_44 : decode cX5_giveOneDayMore 44 = .ok (.iastore, 1) := by decide +kernel
theorem dX5_giveOneDayMore_45 : decode cX5_giveOneDayMore 45 = .ok (.aload_n 0, 1) := by decide +kernel
theorem dX5_giveOneDayMore_46 : decode cX5_giveOneDayMore 46 = .ok (.getfield 21, 3) := by decide +kernel
theorem dX5_giveOneDayMore_49 : decode cX5_giveOneDayMore 49 = .ok (.iload_n 1, 1) := by decide +kernel
theorem dX5_giveOneDayMore_50 : decode cX5_giveOneDayMore 50 = .ok (.iconst (-1), 1) := by decide +kernel
theorem dX5_giveOneDayMore_51 : decode cX5_giveOneDayMore 51 = .ok (.iastore, 1) := by decide +kernel
theorem dX5_giveOneDayMore_52 : decode cX5_giveOneDayMore 52 = .ok (.return_, 1) := by decide +kernel
theorem dX5_allServe_0 : decode cX5_allServe 0 = .ok (.iconst 0, 1) := by decide +kernel
theorem dX5_allServe_1 : decode cX5_allServe 1 = .ok (.istore_n 1, 1) := by decide +kernel
theorem dX5_allServe_2 : decode cX5_allServe 2 = .ok (.iconst 0, 1) := by decide +kernel
theorem dX5_allServe_3 : decode cX5_allServe 3 = .ok (.istore_n 2, 1) := by decide +kernel
theorem dX5_allServe_4 : decode cX5_allServe 4 = .ok (.iload_n 2, 1) := by decide +kernel
theorem dX5_allServe_5 : decode cX5_allServe 5 = .ok (.aload_n 0, 1) := by decide +kernel
theorem dX5_allServe_6 : decode cX5_allServe 6 = .ok (.getfield 30, 3) := by decide +kernel
theorem dX5_allServe_9 : decode cX5_allServe 9 = .ok (.if_icmp .ge 18, 3) := by decide +kernel
theorem dX5_allServe_12 : decode cX5_allServe 12 = .ok (.iload_n 1, 1) := by decide +kernel
theorem dX5_allServe_13 : decode cX5_allServe 13 = .ok (.aload_n 0, 1) := by decide +kernel
theorem dX5_allServe_14 : decode cX5_allServe 14 = .ok (.getfield 15, 3) := by decide +kernel
theorem dX5_allServe_17 : decode cX5_allServe 17 = .ok (.iload_n 2, 1) := by decide +kernel
theorem dX5_allServe_18 : decode cX5_allServe 18 = .ok (.iaload, 1) := by decide +kernel
theorem dX5_allServe_19 : decode cX5_allServe 19 = .ok (.iadd, 1) := by decide +kernel
theorem dX5_allServe_20 : decode cX5_allServe 20 = .ok (.istore_n 1, 1) := by decide +kernel
theorem dX5_allServe_21 : decode cX5_allServe 21 = .ok (.iinc 2 1, 3) := by decide +kernel
theorem dX5_allServe_24 : decode cX5_allServe 24 = .ok (.goto (-20), 3) := by decide +kernel
theorem dX5_allServe_27 : decode cX5_allServe 27 = .ok (.iload_n 1, 1) := by decide +kernel
theorem dX5_allServe_28 : decode cX5_allServe 28 = .ok (.ireturn, 1) := by decide +kernel
theorem dX6_init_0 : decode cX6_init 0 = .ok (.aload_n 0, 1) := by decide +kernel
theorem dX6_init_1 : decode cX6_init 1 = .ok (.invokespecial 3, 3) := by decide +kernel
theorem dX6_init_4 : decode cX6_init 4 = .ok (.aload_n 0, 1) := by decide +kernel
theorem dX6_init_5 : decode cX6_init 5 = .ok (.bipush 10, 2) := by decide +kernel
theorem dX6_init_7 : decode cX6_init 7 = .ok (.newarray .int, 2) := by decide +kernel
theorem dX6_init_9 : decode cX6_init 9 = .ok (.putfield 9, 3) := by decide +kernel
theorem dX6_init_12 : decode cX6_init 12 = .ok (.return_, 1) := by decide +kernel
theorem dX6_beginAnew_0 : decode cX6_beginAnew 0 = .ok (.aload_n 0, 1) := by decide +kernel
theorem dX6_beginAnew_1 : decode cX6_beginAnew 1 = .ok (.iconst 0, 1) := by decide +kernel
theorem dX6_beginAnew_2 : decode cX6_beginAnew 2 = .ok (.putfield 15, 3) := by decide +kernel
theorem dX6_beginAnew_5 : decode cX6_beginAnew 5 = .ok (.aload_n 0, 1) := by decide +kernel
theorem dX6_beginAnew_6 : decode cX6_beginAnew 6 = .ok (.iconst 0, 1) := by decide +kernel
theorem dX6_beginAnew_7 : decode cX6_beginAnew 7 = .ok (.putfield 19, 3) := by decide +kernel
theorem dX6_beginAnew_10 : decode cX6_beginAnew 10 = .ok (.aload_n 0, 1) := by decide +kernel
theorem dX6_beginAnew_11 : decode cX6_beginAnew 11 = .ok (.iload_n 1, 1) := by decide +kernel
theorem dX6_beginAnew_12 : decode cX6_beginAnew 12 = .ok (.putfield 22, 3) := by decide +kernel
theorem dX6_beginAnew_15 : decode cX6_beginAnew 15 = .ok (.aload_n 0, 1) := by decide +kernel
theorem dX6_beginAnew_16 : decode cX6_beginAnew 16 = .ok (.iconst 0, 1) := by decide +kernel
theorem dX6_beginAnew_17 : decode cX6_beginAnew 17 = .ok (.putfield 25, 3) := by decide +kernel
theorem dX6_beginAnew_20 : decode cX6_beginAnew 20 = .ok (.return_, 1) := by decide +kernel
theorem dX6_become_0 : decode cX6_become 0 = .ok (.aload_n 0, 1) := by decide +kernel
theorem dX6_become_1 : decode cX6_become 1 = .ok (.aload_n 1, 1) := by decide +kernel
theorem dX6_become_2 : decode cX6_become 2 = .ok (.getfield 15, 3) := by decide +kernel
theorem dX6_become_5 : decode cX6_become 5 = .ok (.putfield 15, 3) := by decide +kernel
theorem dX6_become_8 : decode cX6_become 8 = .ok (.aload_n 0, 1) := by decide +kernel
theorem dX6_become_9 : decode cX6_become 9 = .ok (.aload_n 1, 1) := by decide +kernel
theorem dX6_become_10 : decode cX6_become 10 = .ok (.getfield 19, 3) := by decide +kernel
theorem dX6_become_13 : decode cX6_become 13 = .ok (.putfield 19, 3) := by decide +kernel
theorem dX6_become_16 : decode cX6_become 16 = .ok (.aload_n 0, 1) := by decide +kernel
theorem dX6_become_17 : decode cX6_become 17 = .ok (.aload_n 1, 1) := by decide +kernel
theorem dX6_become_18 : decode cX6_become 18 = .ok (.getfield 22, 3) := by decide +kernel
theorem dX6_become_21 : decode cX6_become 21 = .ok (.putfield 22, 3) := by decide +kernel
theorem dX6_become_24 : decode cX6_become 24 = .ok (.aload_n 0, 1) := by decide +kernel
theorem dX6_become_25 : decode cX6_become 25 = .ok (.aload_n 1, 1) := by decide +kernel
theorem dX6_become_26 : decode cX6_become 26 = .ok (.getfield 25, 3) := by decide +kernel
theorem dX6_become_29 : decode cX6_become 29 = .ok (.putfield 25, 3) := by decide +kernel
theorem dX6_become_32 : decode cX6_become 32 = .ok (.aload_n 1, 1) := by decide +kernel
theorem dX6_become_33 : decode cX6_become 33 = .ok (.getfield 9, 3) := by decide +kernel
theorem dX6_become_36 : decode cX6_become 36 = .ok (.iconst 0, 1) := by decide +kernel
theorem dX6_become_37 : decode cX6_become 37 = .ok (.aload_n 0, 1) := by decide +kernel
theorem dX6_become_38 : decode cX6_become 38 = .ok (.getfield 9, 3) := by decide +kernel
theorem dX6_become_41 : decode cX6_become 41 = .ok (.iconst 0, 1) := by decide +kernel
theorem dX6_become_42 : decode cX6_become 42 = .ok (.bipush 10, 2) := by decide +kernel
theorem dX6_become_44 : decode cX6_become 44 = .ok (.invokestatic 28, 3) := by decide +kernel
theorem dX6_become_47 : decode cX6_become 47 = .ok (.return_, 1) := by decide +kernel
theorem dX6_remember_0 : decode cX6_remember 0 = .ok (.aload_n 0, 1) := by decide +kernel
theorem dX6_remember_1 : decode cX6_remember 1 = .ok (.getfield 25, 3) := by decide +kernel
theorem dX6_remember_4 : decode cX6_remember 4 = .ok (.bipush 10, 2) := by decide +kernel
theorem dX6_remember_6 : decode cX6_remember 6 = .ok (.if_icmp .lt 24, 3) := by decide +kernel
theorem dX6_remember_9 : decode cX6_remember 9 = .ok (.aload_n 0, 1) := by decide +kernel
theorem dX6_remember_10 : decode cX6_remember 10 = .ok (.getfield 9, 3) := by decide +kernel
theorem dX6_remember_13 : decode cX6_remember 13 = .ok (.iconst 1, 1) := by decide +kernel
theorem dX6_remember_14 : decode cX6_remember 14 = .ok (.aload_n 0, 1) := by decide +kernel
theorem dX6_remember_15 : decode cX6_remember 15 = .ok (.getfield 9, 3) := by decide +kernel
theorem dX6_remember_18 : decode cX6_remember 18 = .ok (.iconst 0, 1) := by decide +kernel
theorem dX6_remember_19 : decode cX6_remember 19 = .ok (.bipush 9, 2) := by decide +kernel
theorem dX6_remember_21 : decode cX6_remember 21 = .ok (.invokestatic 28, 3) := by decide +kernel
theorem dX6_remember_24 : decode cX6_remember 24 = .ok (.aload_n 0, 1) := by decide +kernel
theorem dX6_remember_25 : decode cX6_remember 25 = .ok (.bipush 9, 2) := by decide +kernel
theorem dX6_remember_27 : decode cX6_remember 27 = .ok (.putfield 25, 3) := by decide +kernel
theorem dX6_remember_30 : decode cX6_remember 30 = .ok (.aload_n 0, 1) := by decide +kernel
theorem dX6_remember_31 : decode cX6_remember 31 = .ok (.getfield 9, 3) := by decide +kernel
theorem dX6_remember_34 : decode cX6_remember 34 = .ok (.aload_n 0, 1) := by decide +kernel
theorem dX6_remember_35 : decode cX6_remember 35 = .ok (.getfield 25, 3) := by decide +kernel
theorem dX6_remember_38 : decode cX6_remember 38 = .ok (.aload_n 0, 1) := by decide +kernel
theorem dX6_remember_39 : decode cX6_remember 39 = .ok (.getfield 22, 3) := by decide +kernel
theorem dX6_remember_42 : decode cX6_remember 42 = .ok (.bipush 16, 2) := by decide +kernel
theorem dX6_remember_44 : decode cX6_remember 44 = .ok (.ishl, 1) := by decide +kernel
theorem dX6_remember_45 : decode cX6_remember 45 = .ok (.aload_n 0, 1) := by decide +kernel
theorem dX6_remember_46 : decode cX6_remember 46 = .ok (.getfield 19, 3) := by decide +kernel
theorem dX6_remember_49 : decode cX6_remember 49 = .ok (.bipush 8, 2) := by decide +kernel
theorem dX6_remember_51 : decode cX6_remember 51 = .ok (.ishl, 1) := by decide +kernel
theorem dX6_remember_52 : decode cX6_remember 52 = .ok (.ior, 1) := by decide +kernel
theorem dX6_remember_53 : decode cX6_remember 53 = .ok (.aload_n 0, 1) := by decide +kernel
theorem dX6_remember_54 : decode cX6_remember 54 = .ok (.getfield 15, 3) := by decide +kernel
theorem dX6_remember_57 : decode cX6_remember 57 = .ok (.ior, 1) := by decide +kernel
theorem dX6_remember_58 : decode cX6_remember 58 = .ok (.iastore, 1) := by decide +kernel
theorem dX6_remember_59 : decode cX6_remember 59 = .ok (.aload_n 0, 1) := by decide +kernel
theorem dX6_remember_60 : decode cX6_remember 60 = .ok (.dup, 1) := by decide +kernel
theorem dX6_remember_61 : decode cX6_remember 61 = .ok (.getfield 25, 3) := by decide +kernel
theorem dX6_remember_64 : decode cX6_remember 64 = .ok (.iconst 1, 1) := by decide +kernel
theorem dX6_remember_65 : decode cX6_remember 65 = .ok (.iadd, 1) := by decide +kernel
theorem dX6_remember_66 : decode cX6_remember 66 = .ok (.putfield 25, 3) := by decide +kernel
theorem dX6_remember_69 : decode cX6_remember 69 = .ok (.return_, 1) := by decide +kernel
theorem dX6_stepBack_0 : decode cX6_stepBack 0 = .ok (.aload_n 0, 1) := by decide +kernel
theorem dX6_stepBack_1 : decode cX6_stepBack 1 = .ok (.dup, 1) := by decide +kernel
theorem dX6_stepBack_2 : decode cX6_stepBack 2 = .ok (.getfield 25, 3) := by decide +kernel
theorem dX6_stepBack_5 : decode cX6_stepBack 5 = .ok (.iconst 1, 1) := by decide +kernel
theorem dX6_stepBack_6 : decode cX6_stepBack 6 = .ok (.isub, 1) := by decide +kernel
theorem dX6_stepBack_7 : decode cX6_stepBack 7 = .ok (.putfield 25, 3) := by decide +kernel
theorem dX6_stepBack_10 : decode cX6_stepBack 10 = .ok (.aload_n 0, 1) := by decide +kernel
theorem dX6_stepBack_11 : decode cX6_stepBack 11 = .ok (.aload_n 0, 1) := by decide +kernel
theorem dX6_stepBack_12 : decode cX6_stepBack 12 = .ok (.getfield 9, 3) := by decide +kernel
theorem dX6_stepBack_15 : decode cX6_stepBack 15 = .ok (.aload_n 0, 1) := by decide +kernel
theorem dX6_stepBack_16 : decode cX6_stepBack 16 = .ok (.getfield 25, 3) := by decide +kernel
theorem dX6_stepBack_19 : decode cX6_stepBack 19 = .ok (.iaload, 1) := by decide +kernel
theorem dX6_stepBack_20 : decode cX6_stepBack 20 = .ok (.sipush 255, 3) := by decide +kernel
theorem dX6_stepBack_23 : decode cX6_stepBack 23 = .ok (.iand, 1) := by decide +kernel
theorem dX6_stepBack_24 : decode cX6_stepBack 24 = .ok (.putfield 15, 3) := by decide +kernel
theorem dX6_stepBack_27 : decode cX6_stepBack 27 = .ok (.aload_n 0, 1) := by decide +kernel
theorem dX6_stepBack_28 : decode cX6_stepBack 28 = .ok (.aload_n 0, 1) := by decide +kernel
theorem dX6_stepBack_29 : decode cX6_stepBack 29 = .ok (.getfield 9, 3) := by decide +kernel
theorem dX6_stepBack_32 : decode cX6_stepBack 32 = .ok (.aload_n 0, 1) := by decide +kernel
theorem dX6_stepBack_33 : decode cX6_stepBack 33 = .ok (.getfield 25, 3) := by decide +kernel
theorem dX6_stepBack_36 : decode cX6_stepBack 36 = .ok (.iaload, 1) := by decide +kernel
theorem dX6_stepBack_37 : decode cX6_stepBack 37 = .ok (.bipush 8, 2) := by decide +kernel
theorem dX6_stepBack_39 : decode cX6_stepBack 39 = .ok (.ishr, 1) := by decide +kernel
theorem dX6_stepBack_40 : decode cX6_stepBack 40 = .ok (.sipush 255, 3) := by decide +kernel
theorem dX6_stepBack_43 : decode cX6_stepBack 43 = .ok (.iand, 1) := by decide +kernel
theorem dX6_stepBack_44 : decode cX6_stepBack 44 = .ok (.putfield 19, 3) := by decide +kernel
theorem dX6_stepBack_47 : decode cX6_stepBack 47 = .ok (.aload_n 0, 1) := by decide +kernel
theorem dX6_stepBack_48 : decode cX6_stepBack 48 = .ok (.aload_n 0, 1) := by decide +kernel
theorem dX6_stepBack_49 : decode cX6_stepBack 49 = .ok (.getfield 9, 3) := by decide +kernel
theorem dX6_stepBack_52 : decode cX6_stepBack 52 = .ok (.aload_n 0, 1) := by decide +kernel
theorem dX6_stepBack_53 : decode cX6_stepBack 53 = .ok (.getfield 25, 3) := by decide +kernel
theorem dX6_stepBack_56 : decode cX6_stepBack 56 = .ok (.iaload, 1) := by decide +kernel
theorem dX6_stepBack_57 : decode cX6_stepBack 57 = .ok (.bipush 16, 2) := by decide +kernel
theorem dX6_stepBack_59 : decode cX6_stepBack 59 = .ok (.ishr, 1) := by decide +kernel
theorem dX6_stepBack_60 : decode cX6_stepBack 60 = .ok (.putfield 22, 3) := by decide +kernel
theorem dX6_stepBack_63 : decode cX6_stepBack 63 = .ok (.return_, 1) := by decide +kernel
theorem dX7_init_0 : decode cX7_init 0 = .ok (.aload_n 0, 1) := by decide +kernel
theorem dX7_init_1 : decode cX7_init 1 = .ok (.invokespecial 3, 3) := by decide +kernel
theorem dX7_init_4 : decode cX7_init 4 = .ok (.aload_n 0, 1) := by decide +kernel
theorem dX7_init_5 : decode cX7_init 5 = .ok (.sipush 200, 3) := by decide +kernel
theorem dX7_init_8 : decode cX7_init 8 = .ok (.newarray .int, 2) := by decide +kernel
theorem dX7_init_10 : decode cX7_init 10 = .ok (.putfield 9, 3) := by decide +kernel
theorem dX7_init_13 : decode cX7_init 13 = .ok (.aload_n 0, 1) := by decide +kernel
theorem dX7_init_14 : decode cX7_init 14 = .ok (.bipush 8, 2) := by decide +kernel
theorem dX7_init_16 : decode cX7_init 16 = .ok (.newarray .int, 2) := by decide +kernel
theorem dX7_init_18 : decode cX7_init 18 = .ok (.putfield 15, 3) := by decide +kernel
theorem dX7_init_21 : decode cX7_init 21 = .ok (.return_, 1) := by decide +kernel
theorem dX7_readInto_0 : decode cX7_readInto 0 = .ok (.aload_n 1, 1) := by decide +kernel
theorem dX7_readInto_1 : decode cX7_readInto 1 = .ok (.invokevirtual 18, 3) := by decide +kernel
theorem dX7_readInto_4 : decode cX7_readInto 4 = .ok (.aload_n 0, 1) := by decide +kernel
theorem dX7_readInto_5 : decode cX7_readInto 5 = .ok (.iconst 0, 1) := by decide +kernel
theorem dX7_readInto_6 : decode cX7_readInto 6 = .ok (.putfield 23, 3) := by decide +kernel
theorem dX7_readInto_9 : decode cX7_readInto 9 = .ok (.aload_n 0, 1) := by decide +kernel
theorem dX7_readInto_10 : decode cX7_readInto 10 = .ok (.iconst 0, 1) := by decide +kernel
theorem dX7_readInto_11 : decode cX7_readInto 11 = .ok (.putfield 27, 3) := by decide +kernel
theorem dX7_readInto_14 : decode cX7_readInto 14 = .ok (.aload_n 0, 1) := by decide +kernel
theorem dX7_readInto_15 : decode cX7_readInto 15 = .ok (.iconst 0, 1) := by decide +kernel
theorem dX7_readInto_16 : decode cX7_readInto 16 = .ok (.putfield 31, 3) := by decide +kernel
theorem dX7_readInto_19 : decode cX7_readInto 19 = .ok (.iconst 0, 1) := by decide +kernel
theorem dX7_readInto_20 : decode cX7_readInto 20 = .ok (.istore_n 2, 1) := by decide +kernel
theorem dX7_readInto_21 : decode cX7_readInto 21 = .ok (.iload_n 2, 1) := by decide +kernel
theorem dX7_readInto_22 : decode cX7_readInto 22 = .ok (.sipush 200, 3) := by decide +kernel
theorem dX7_readInto_25 : decode cX7_readInto 25 = .ok (.if_icmp .gt 38, 3) := by decide +kernel
theorem dX7_readInto_28 : decode cX7_readInto 28 = .ok (.aload_n 0, 1) := by decide +kernel
theorem dX7_readInto_29 : decode cX7_readInto 29 = .ok (.invokevirtual 34, 3) := by decide +kernel
theorem dX7_readInto_32 : decode cX7_readInto 32 = .ok (.aload_n 0, 1) := by decide +kernel
theorem dX7_readInto_33 : decode cX7_readInto 33 = .ok (.getfield 37, 3) := by decide +kernel
theorem dX7_readInto_36 : decode cX7_readInto 36 = .ok (.ifCond .ne 5, 3) := by decide +kernel
theorem dX7_readInto_39 : decode cX7_readInto 39 = .ok (.iload_n 2, 1) := by decide +kernel
theorem dX7_readInto_40 : decode cX7_readInto 40 = .ok (.ireturn, 1) := by decide +kernel
theorem dX7_readInto_41 : decode cX7_readInto 41 = .ok (.aload_n 0, 1) := by decide +kernel
theorem dX7_readInto_42 : decode cX7_readInto 42 = .ok (.aload_n 1, 1) := by decide +kernel
theorem dX7_readInto_43 : decode cX7_readInto 43 = .ok (.invokevirtual 40, 3) := by decide +kernel
theorem dX7_readInto_46 : decode cX7_readInto 46 = .ok (.ifCond .ne 11, 3) := by decide +kernel
theorem dX7_readInto_49 : decode cX7_readInto 49 = .ok (.bipush (-10), 2) := by decide +kernel
theorem dX7_readInto_51 : decode cX7_readInto 51 = .ok (.aload_n 0, 1) := by decide +kernel
theorem dX7_readInto_52 : decode cX7_readInto 52 = .ok (.getfield 44, 3) := by decide +kernel
theorem dX7_readInto_55 : decode cX7_readInto 55 = .ok (.isub, 1) := by decide +kernel
theorem dX7_readInto_56 : decode cX7_readInto 56 = .ok (.ireturn, 1) := by decide +kernel
theorem dX7_readInto_57 : decode cX7_readInto 57 = .ok (.iinc 2 1, 3) := by decide +kernel
theorem dX7_readInto_60 : decode cX7_readInto 60 = .ok (.goto (-39), 3) := by decide +kernel
theorem dX7_readInto_63 : decode cX7_readInto 63 = .ok (.bipush (-10), 2) := by decide +kernel
theorem dX7_readInto_65 : decode cX7_readInto 65 = .ok (.aload_n 0, 1) := by decide +kernel
theorem dX7_readInto_66 : decode cX7_readInto 66 = .ok (.getfield 47, 3) := by decide +kernel
theorem dX7_readInto_69 : decode cX7_readInto 69 = .ok (.isub, 1) := by decide +kernel
theorem dX7_readInto_70 : decode cX7_readInto 70 = .ok (.ireturn, 1) := by decide +kernel
theorem dX7_readItem_0 : decode cX7_readItem 0 = .ok (.aload_n 0, 1) := by decide +kernel
theorem dX7_readItem_1 : decode cX7_readItem 1 = .ok (.getfield 37, 3) := by decide +kernel
theorem dX7_readItem_4 : decode cX7_readItem 4 = .ok (.iconst 1, 1) := by decide +kernel
theorem dX7_readItem_5 : decode cX7_readItem 5 = .ok (.if_icmp .ne 15, 3) := by decide +kernel
theorem dX7_readItem_8 : decode cX7_readItem 8 = .ok (.aload_n 0, 1) := by decide +kernel
theorem dX7_readItem_9 : decode cX7_readItem 9 = .ok (.aload_n 0, 1) := by decide +kernel
theorem dX7_readItem_10 : decode cX7_readItem 10 = .ok (.getfield 50, 3) := by decide +kernel
theorem dX7_readItem_13 : decode cX7_readItem 13 = .ok (.aload_n 1, 1) := by decide +kernel
theorem dX7_readItem_14 : decode cX7_readItem 14 = .ok (.invokevirtual 53, 3) := by decide +kernel
theorem dX7_readItem_17 : decode cX7_readItem 17 = .ok (.ifCond .ne 5, 3) := by decide +kernel
theorem dX7_readItem_20 : decode cX7_readItem 20 = .ok (.iconst 0, 1) := by decide +kernel
theorem dX7_readItem_21 : decode cX7_readItem 21 = .ok (.ireturn, 1) := by decide +kernel
theorem dX7_readItem_22 : decode cX7_readItem 22 = .ok (.aload_n 0, 1) := by decide +kernel
theorem dX7_readItem_23 : decode cX7_readItem 23 = .ok (.getfield 50, 3) := by decide +kernel
theorem dX7_readItem_26 : decode cX7_readItem 26 = .ok (.istore_n 2, 1) := by decide +kernel
theorem dX7_readItem_27 : decode cX7_readItem 27 = .ok (.iload_n 2, 1) := by decide +kernel
theorem dX7_readItem_28 : decode cX7_readItem 28 = .ok (.aload_n 1, 1) := by decide +kernel
theorem dX7_readItem_29 : decode cX7_readItem 29 = .ok (.invokestatic 57, 3) := by decide +kernel
theorem dX7_readItem_32 : decode cX7_readItem 32 = .ok (.istore_n 3, 1) := by decide +kernel
theorem dX7_readItem_33 : decode cX7_readItem 33 = .ok (.iconst 0, 1) := by decide +kernel
theorem dX7_readItem_34 : decode cX7_readItem 34 = .ok (.istore 4, 2) := by decide +kernel
theorem dX7_readItem_36 : decode cX7_readItem 36 = .ok (.iload 4, 2) := by decide +kernel
theorem dX7_readItem_38 : decode cX7_readItem 38 = .ok (.iload_n 3, 1) := by decide +kernel
theorem dX7_readItem_39 : decode cX7_readItem 39 = .ok (.if_icmp .ge 58, 3) := by decide +kernel
theorem dX7_readItem_42 : decode cX7_readItem 42 = .ok (.aload_n 0, 1) := by decide +kernel
theorem dX7_readItem_43 : decode cX7_readItem 43 = .ok (.invokevirtual 34, 3) := by decide +kernel
theorem dX7_readItem_46 : decode cX7_readItem 46 = .ok (.aload_n 0, 1) := by decide +kernel
theorem dX7_readItem_47 : decode cX7_readItem 47 = .ok (.getfield 37, 3) := by decide +kernel
theorem dX7_readItem_50 : decode cX7_readItem 50 = .ok (.iconst 2, 1) := by decide +kernel
theorem dX7_readItem_51 : decode cX7_readItem 51 = .ok (.if_icmp .ne 27, 3) := by decide +kernel
theorem dX7_readItem_54 : decode cX7_readItem 54 = .ok (.aload_n 0, 1) := by decide +kernel
theorem dX7_readItem_55 : decode cX7_readItem 55 = .ok (.getfield 50, 3) := by decide +kernel
theorem dX7_readItem_58 : decode cX7_readItem 58 = .ok (.aload_n 0, 1) := by decide +kernel
theorem dX7_readItem_59 : decode cX7_readItem 59 = .ok (.iload_n 2, 1) := by decide +kernel
theorem dX7_readItem_60 : decode cX7_readItem 60 = .ok (.iload 4, 2) := by decide +kernel
theorem dX7_readItem_62 : decode cX7_readItem 62 = .ok (.invokevirtual 61, 3) := by decide +kernel
theorem dX7_readItem_65 : decode cX7_readItem 65 = .ok (.iload_n 2, 1) := by decide +kernel
theorem dX7_readItem_66 : decode cX7_readItem 66 = .ok (.iload 4, 2) := by decide +kernel
theorem dX7_readItem_68 : decode cX7_readItem 68 = .ok (.aload_n 1, 1) := by decide +kernel
theorem dX7_readItem_69 : decode cX7_readItem 69 = .ok (.invokestatic 65, 3) := by decide +kernel
theorem dX7_readItem_72 : decode cX7_readItem 72 = .ok (.invokestatic 69, 3) := by decide +kernel
theorem dX7_readItem_75 : decode cX7_readItem 75 = .ok (.ifCond .ne 5, 3) := by decide +kernel
theorem dX7_readItem_78 : decode cX7_readItem 78 = .ok (.iconst 0, 1) := by decide +kernel
theorem dX7_readItem_79 : decode cX7_readItem 79 = .ok (.ireturn, 1) := by decide +kernel
theorem dX7_readItem_80 : decode cX7_readItem 80 = .ok (.aload_n 0, 1) := by decide +kernel
theorem dX7_readItem_81 : decode cX7_readItem 81 = .ok (.getfield 15, 3) := by decide +kernel
theorem dX7_readItem_84 : decode cX7_readItem 84 = .ok (.iload 4, 2) := by decide +kernel
theorem dX7_readItem_86 : decode cX7_readItem 86 = .ok (.aload_n 0, 1) := by decide +kernel
theorem dX7_readItem_87 : decode cX7_readItem 87 = .ok (.getfield 50, 3) := by decide +kernel
theorem dX7_readItem_90 : decode cX7_readItem 90 = .ok (.iastore, 1) := by decide +kernel
theorem dX7_readItem_91 : decode cX7_readItem 91 = .ok (.iinc 4 1, 3) := by decide +kernel
theorem dX7_readItem_94 : decode cX7_readItem 94 = .ok (.goto (-58), 3) := by decide +kernel
theorem dX7_readItem_97 : decode cX7_readItem 97 = .ok (.aload_n 0, 1) := by decide +kernel
theorem dX7_readItem_98 : decode cX7_readItem 98 = .ok (.invokevirtual 34, 3) := by decide +kernel
theorem dX7_readItem_101 : decode cX7_readItem 101 = .ok (.aload_n 0, 1) := by decide +kernel
theorem dX7_readItem_102 : decode cX7_readItem 102 = .ok (.getfield 37, 3) := by decide +kernel
theorem dX7_readItem_105 : decode cX7_readItem 105 = .ok (.iconst 3, 1) := by decide +kernel
theorem dX7_readItem_106 : decode cX7_readItem 106 = .ok (.if_icmp .eq 5, 3) := by decide +kernel
theorem dX7_readItem_109 : decode cX7_readItem 109 = .ok (.iconst 0, 1) := by decide +kernel
theorem dX7_readItem_110 : decode cX7_readItem 110 = .ok (.ireturn, 1) := by decide +kernel
theorem dX7_readItem_111 : decode cX7_readItem 111 = .ok (.aload_n 0, 1) := by decide +kernel
theorem dX7_readItem_112 : decode cX7_readItem 112 = .ok (.iload_n 2, 1) := by decide +kernel
theorem dX7_readItem_113 : decode cX7_readItem 113 = .ok (.aload_n 1, 1) := by decide +kernel
theorem dX7_readItem_114 : decode cX7_readItem 114 = .ok (.invokevirtual 73, 3) := by decide +kernel
theorem dX7_readItem_117 : decode cX7_readItem 117 = .ok (.iconst 1, 1) := by decide +kernel
theorem dX7_readItem_118 : decode cX7_readItem 118 = .ok (.ireturn, 1) := by decide +kernel
theorem dX7_mayBegin_0 : decode cX7_mayBegin 0 = .ok (.iload_n 1, 1) := by decide +kernel
theorem dX7_mayBegin_1 : decode cX7_mayBegin 1 = .ok (.lookupswitch 122 #[(97, 81), (100, 109), (102, 66), (115, 51), (116, 96)], 51) := by decide +kernel
theorem dX7_mayBegin_52 : decode cX7_mayBegin 52 = .ok (.aload_n 2, 1) := by decide +kernel
theorem dX7_mayBegin_53 : decode cX7_mayBegin 53 = .ok (.getfield 77, 3) := by decide +kernel
theorem dX7_mayBegin_56 : decode cX7_mayBegin 56 = .ok (.bipush 6, 2) := by decide +kernel
theorem dX7_mayBegin_58 : decode cX7_mayBegin 58 = .ok (.if_icmp .ge 7, 3) := by decide +kernel
theorem dX7_mayBegin_61 : decode cX7_mayBegin 61 = .ok (.iconst 1, 1) := by decide +kernel
theorem dX7_mayBegin_62 : decode cX7_mayBegin 62 = .ok (.goto 4, 3) := by decide +kernel
theorem dX7_mayBegin_65 : decode cX7_mayBegin 65 = .ok (.iconst 0, 1) := by decide +kernel
theorem dX7_mayBegin_66 : decode cX7_mayBegin 66 = .ok (.ireturn, 1) := by decide +kernel
theorem dX7_mayBegin_67 : decode cX7_mayBegin 67 = .ok (.aload_n 2, 1) := by decide +kernel
theorem dX7_mayBegin_68 : decode cX7_mayBegin 68 = .ok (.getfield 80, 3) := by decide +kernel
theorem dX7_mayBegin_71 : decode cX7_mayBegin 71 = .ok (.bipush 8, 2) := by decide +kernel
theorem dX7_mayBegin_73 : decode cX7_mayBegin 73 = .ok (.if_icmp .ge 7, 3) := by decide +kernel
theorem dX7_mayBegin_76 : decode cX7_mayBegin 76 = .ok (.iconst 1, 1) := by decide +kernel
theorem dX7_mayBegin_77 : decode cX7_mayBegin 77 = .ok (.goto 4, 3) := by decide +kernel
theorem dX7_mayBegin_80 : decode cX7_mayBegin 80 = .ok (.iconst 0, 1) := by decide +kernel
theorem dX7_mayBegin_81 : decode cX7_mayBegin 81 = .ok (.ireturn, 1) := by decide +kernel
theorem dX7_mayBegin_82 : decode cX7_mayBegin 82 = .ok (.aload_n 2, 1) := by decide +kernel
theorem dX7_mayBegin_83 : decode cX7_mayBegin 83 = .ok (.getfield 83, 3) := by decide +kernel
theorem dX7_mayBegin_86 : decode cX7_mayBegin 86 = .ok (.bipush 8, 2) := by decide +kernel
theorem dX7_mayBegin_88 : decode cX7_mayBegin 88 = .ok (.if_icmp .ge 7, 3) := by decide +kernel
theorem dX7_mayBegin_91 : decode cX7_mayBegin 91 = .ok (.iconst 1, 1) := by decide +kernel
theorem dX7_mayBegin_92 : decode cX7_mayBegin 92 = .ok (.goto 4, 3) := by decide +kernel
theorem dX7_mayBegin_95 : decode cX7_mayBegin 95 = .ok (.iconst 0, 1) := by decide +kernel
theorem dX7_mayBegin_96 : decode cX7_mayBegin 96 = .ok (.ireturn, 1) := by decide +kernel
theorem dX7_mayBegin_97 : decode cX7_mayBegin 97 = .ok (.aload_n 0, 1) := by decide +kernel
theorem dX7_mayBegin_98 : decode cX7_mayBegin 98 = .ok (.getfield 27, 3) := by decide +kernel
theorem dX7_mayBegin_101 : decode cX7_mayBegin 101 = .ok (.ifCond .ne 7, 3) := by decide +kernel
theorem dX7_mayBegin_104 : decode cX7_mayBegin 104 = .ok (.iconst 1, 1) := by decide +kernel
theorem dX7_mayBegin_105 : decode cX7_mayBegin 105 = .ok (.goto 4, 3) := by decide +kernel
theorem dX7_mayBegin_108 : decode cX7_mayBegin 108 = .ok (.iconst 0, 1) := by decide +kernel
theorem dX7_mayBegin_109 : decode cX7_mayBegin 109 = .ok (.ireturn, 1) := by decide +kernel
theorem dX7_mayBegin_110 : decode cX7_mayBegin 110 = .ok (.aload_n 0, 1) := by decide +kernel
theorem dX7_mayBegin_111 : decode cX7_mayBegin 111 = .ok (.getfield 31, 3) := by decide +kernel
theorem dX7_mayBegin_114 : decode cX7_mayBegin 114 = .ok (.ifCond .ne 7, 3) := by decide +kernel
theorem dX7_mayBegin_117 : decode cX7_mayBegin 117 = .ok (.iconst 1, 1) := by decide +kernel
theorem dX7_mayBegin_118 : decode cX7_mayBegin 118 = .ok (.goto 4, 3) := by decide +kernel
theorem dX7_mayBegin_121 : decode cX7_mayBegin 121 = .ok (.iconst 0, 1) := by decide +kernel
theorem dX7_mayBegin_122 : decode cX7_mayBegin 122 = .ok (.ireturn, 1) := by decide +kernel
theorem dX7_mayBegin_123 : decode cX7_mayBegin 123 = .ok (.iconst 0, 1) := by decide +kernel
theorem dX7_mayBegin_124 : decode cX7_mayBegin 124 = .ok (.ireturn, 1) := by decide +kernel
theorem dX7_numbersDue_0 : decode cX7_numbersDue 0 = .ok (.iload_n 0, 1) := by decide +kernel
theorem dX7_numbersDue_1 : decode cX7_numbersDue 1 = .ok (.lookupswitch 46 #[(97, 42), (102, 35), (116, 44)], 35) := by decide +kernel
theorem dX7_numbersDue_36 : decode cX7_numbersDue 36 = .ok (.iconst 2, 1) := by decide +kernel
theorem dX7_numbersDue_37 : decode cX7_numbersDue 37 = .ok (.aload_n 1, 1) := by decide +kernel
theorem dX7_numbersDue_38 : decode cX7_numbersDue 38 = .ok (.getfield 77, 3) := by decide +kernel
theorem dX7_numbersDue_41 : decode cX7_numbersDue 41 = .ok (.iadd, 1) := by decide +kernel
theorem dX7_numbersDue_42 : decode cX7_numbersDue 42 = .ok (.ireturn, 1) := by decide +kernel
theorem dX7_numbersDue_43 : decode cX7_numbersDue 43 = .ok (.iconst 4, 1) := by decide +kernel
theorem dX7_numbersDue_44 : decode cX7_numbersDue 44 = .ok (.ireturn, 1) := by decide +kernel
theorem dX7_numbersDue_45 : decode cX7_numbersDue 45 = .ok (.iconst 2, 1) := by decide +kernel
theorem dX7_numbersDue_46 : decode cX7_numbersDue 46 = .ok (.ireturn, 1) := by decide +kernel
theorem dX7_numbersDue_47 : decode cX7_numbersDue 47 = .ok (.iconst 1, 1) := by decide +kernel
theorem dX7_numbersDue_48 : decode cX7_numbersDue 48 = .ok (.ireturn, 1) := by decide +kernel
theorem dX7_least_0 : decode cX7_least 0 = .ok (.iload_n 1, 1) := by decide +kernel
theorem dX7_least_1 : decode cX7_least 1 = .ok (.bipush 102, 2) := by decide +kernel
theorem dX7_least_3 : decode cX7_least 3 = .ok (.if_icmp .ne 9, 3) := by decide +kernel
theorem dX7_least_6 : decode cX7_least 6 = .ok (.iload_n 2, 1) := by decide +kernel
theorem dX7_least_7 : decode cX7_least 7 = .ok (.ifCond .ne 5, 3) := by decide +kernel
theorem dX7_least_10 : decode cX7_least 10 = .ok (.iconst 1, 1) := by decide +kernel
theorem dX7_least_11 : decode cX7_least 11 = .ok (.ireturn, 1) := by decide +kernel
theorem dX7_least_12 : decode cX7_least 12 = .ok (.iload_n 1, 1) := by decide +kernel
theorem dX7_least_13 : decode cX7_least 13 = .ok (.bipush 97, 2) := by decide +kernel
theorem dX7_least_15 : decode cX7_least 15 = .ok (.if_icmp .ne 15, 3) := by decide +kernel
theorem dX7_least_18 : decode cX7_least 18 = .ok (.iload_n 2, 1) := by decide +kernel
theorem dX7_least_19 : decode cX7_least 19 = .ok (.iconst 3, 1) := by decide +kernel
theorem dX7_least_20 : decode cX7_least 20 = .ok (.if_icmp .ne 10, 3) := by decide +kernel
theorem dX7_least_23 : decode cX7_least 23 = .ok (.aload_n 0, 1) := by decide +kernel
theorem dX7_least_24 : decode cX7_least 24 = .ok (.getfield 15, 3) := by decide +kernel
theorem dX7_least_27 : decode cX7_least 27 = .ok (.iconst 2, 1) := by decide +kernel
theorem dX7_least_28 : decode cX7_least 28 = .ok (.iaload, 1) := by decide +kernel
theorem dX7_least_29 : decode cX7_least 29 = .ok (.ireturn, 1) := by decide +kernel
theorem dX7_least_30 : decode cX7_least 30 = .ok (.iload_n 1, 1) := by decide +kernel
theorem dX7_least_31 : decode cX7_least 31 = .ok (.bipush 116, 2) := by decide +kernel
theorem dX7_least_33 : decode cX7_least 33 = .ok (.if_icmp .ne 17, 3) := by decide +kernel
theorem dX7_least_36 : decode cX7_least 36 = .ok (.iload_n 2, 1) := by decide +kernel
theorem dX7_least_37 : decode cX7_least 37 = .ok (.iconst 1, 1) := by decide +kernel
theorem dX7_least_38 : decode cX7_least 38 = .ok (.if_icmp .ne 12, 3) := by decide +kernel
theorem dX7_least_41 : decode cX7_least 41 = .ok (.aload_n 0, 1) := by decide +kernel
theorem dX7_least_42 : decode cX7_least 42 = .ok (.getfield 15, 3) := by decide +kernel
theorem dX7_least_45 : decode cX7_least 45 = .ok (.iconst 0, 1) := by decide +kernel
theorem dX7_least_46 : decode cX7_least 46 = .ok (.iaload, 1) := by decide +kernel
theorem dX7_least_47 : decode cX7_least 47 = .ok (.goto 4, 3) := by decide +kernel
theorem dX7_least_50 : decode cX7_least 50 = .ok (.iconst 0, 1) := by decide +kernel
theorem dX7_least_51 : decode cX7_least 51 = .ok (.ireturn, 1) := by decide +kernel
theorem dX7_most_0 : decode cX7_most 0 = .ok (.iload_n 0, 1) := by decide +kernel
theorem dX7_most_1 : decode cX7_most 1 = .ok (.lookupswitch 96 #[(97, 68), (102, 46), (115, 43), (116, 93)], 43) := by decide +kernel
theorem dX7_most_44 : decode cX7_most 44 = .ok (.bipush 20, 2) := by decide +kernel
theorem dX7_most_46 : decode cX7_most 46 = .ok (.ireturn, 1) := by decide +kernel
theorem dX7_most_47 : decode cX7_most 47 = .ok (.iload_n 1, 1) := by decide +kernel
theorem dX7_most_48 : decode cX7_most 48 = .ok (.ifCond .ne 8, 3) := by decide +kernel
theorem dX7_most_51 : decode cX7_most 51 = .ok (.bipush 9, 2) := by decide +kernel
theorem dX7_most_53 : decode cX7_most 53 = .ok (.goto 15, 3) := by decide +kernel
theorem dX7_most_56 : decode cX7_most 56 = .ok (.iload_n 1, 1) := by decide +kernel
theorem dX7_most_57 : decode cX7_most 57 = .ok (.iconst 1, 1) := by decide +kernel
theorem dX7_most_58 : decode cX7_most 58 = .ok (.if_icmp .ne 8, 3) := by decide +kernel
theorem dX7_most_61 : decode cX7_most 61 = .ok (.bipush 10, 2) := by decide +kernel
theorem dX7_most_63 : decode cX7_most 63 = .ok (.goto 5, 3) := by decide +kernel
theorem dX7_most_66 : decode cX7_most 66 = .ok (.bipush 18, 2) := by decide +kernel
theorem dX7_most_68 : decode cX7_most 68 = .ok (.ireturn, 1) := by decide +kernel
theorem dX7_most_69 : decode cX7_most 69 = .ok (.iload_n 1, 1) := by decide +kernel
theorem dX7_most_70 : decode cX7_most 70 = .ok (.ifCond .ne 12, 3) := by decide +kernel
theorem dX7_most_73 : decode cX7_most 73 = .ok (.aload_n 2, 1) := by decide +kernel
theorem dX7_most_74 : decode cX7_most 74 = .ok (.getfield 77, 3) := by decide +kernel
theorem dX7_most_77 : decode cX7_most 77 = .ok (.iconst 1, 1) := by decide +kernel
theorem dX7_most_78 : decode cX7_most 78 = .ok (.isub, 1) := by decide +kernel
theorem dX7_most_79 : decode cX7_most 79 = .ok (.goto 14, 3) := by decide +kernel
theorem dX7_most_82 : decode cX7_most 82 = .ok (.iload_n 1, 1) := by decide +kernel
theorem dX7_most_83 : decode cX7_most 83 = .ok (.iconst 1, 1) := by decide +kernel
theorem dX7_most_84 : decode cX7_most 84 = .ok (.if_icmp .ne 7, 3) := by decide +kernel
theorem dX7_most_87 : decode cX7_most 87 = .ok (.iconst 3, 1) := by decide +kernel
theorem dX7_most_88 : decode cX7_most 88 = .ok (.goto 5, 3) := by decide +kernel
theorem dX7_most_91 : decode cX7_most 91 = .ok (.bipush 23, 2) := by decide +kernel
theorem dX7_most_93 : decode cX7_most 93 = .ok (.ireturn, 1) := by decide +kernel
theorem dX7_most_94 : decode cX7_most 94 = .ok (.bipush 23, 2) := by decide +kernel
theorem dX7_most_96 : decode cX7_most 96 = .ok (.ireturn, 1) := by decide +kernel
theorem dX7_most_97 : decode cX7_most 97 = .ok (.bipush 60, 2) := by decide +kernel
theorem dX7_most_99 : decode cX7_most 99 = .ok (.ireturn, 1) := by decide +kernel
theorem dX7_addItem_0 : decode cX7_addItem 0 = .ok (.iload_n 1, 1) := by decide +kernel
theorem dX7_addItem_1 : decode cX7_addItem 1 = .ok (.lookupswitch 106 #[(97, 67), (102, 56), (115, 43), (116, 78)], 43) := by decide +kernel
theorem dX7_addItem_44 : decode cX7_addItem 44 = .ok (.aload_n 2, 1) := by decide +kernel
theorem dX7_addItem_45 : decode cX7_addItem 45 = .ok (.aload_n 0, 1) := by decide +kernel
theorem dX7_addItem_46 : decode cX7_addItem 46 = .ok (.getfield 15, 3) := by decide +kernel
theorem dX7_addItem_49 : decode cX7_addItem 49 = .ok (.iconst 0, 1) := by decide +kernel
theorem dX7_addItem_50 : decode cX7_addItem 50 = .ok (.iaload, 1) := by decide +kernel
theorem dX7_addItem_51 : decode cX7_addItem 51 = .ok (.invokevirtual 86, 3) := by decide +kernel
theorem dX7_addItem_54 : decode cX7_addItem 54 = .ok (.goto 68, 3) := by decide +kernel
theorem dX7_addItem_57 : decode cX7_addItem 57 = .ok (.aload_n 2, 1) := by decide +kernel
theorem dX7_addItem_58 : decode cX7_addItem 58 = .ok (.aload_n 0, 1) := by decide +kernel
theorem dX7_addItem_59 : decode cX7_addItem 59 = .ok (.getfield 15, 3) := by decide +kernel
theorem dX7_addItem_62 : decode cX7_addItem 62 = .ok (.invokevirtual 90, 3) := by decide +kernel
theorem dX7_addItem_65 : decode cX7_addItem 65 = .ok (.goto 57, 3) := by decide +kernel
theorem dX7_addItem_68 : decode cX7_addItem 68 = .ok (.aload_n 2, 1) := by decide +kernel
theorem dX7_addItem_69 : decode cX7_addItem 69 = .ok (.aload_n 0, 1) := by decide +kernel
theorem dX7_addItem_70 : decode cX7_addItem 70 = .ok (.getfield 15, 3) := by decide +kernel
theorem dX7_addItem_73 : decode cX7_addItem 73 = .ok (.invokevirtual 94, 3) := by decide +kernel
theorem dX7_addItem_76 : decode cX7_addItem 76 = .ok (.goto 46, 3) := by decide +kernel
theorem dX7_addItem_79 : decode cX7_addItem 79 = .ok (.aload_n 2, 1) := by decide +kernel
theorem dX7_addItem_80 : decode cX7_addItem 80 = .ok (.aload_n 0, 1) := by decide +kernel
theorem dX7_addItem_81 : decode cX7_addItem 81 = .ok (.getfield 15, 3) := by decide +kernel
theorem dX7_addItem_84 : decode cX7_addItem 84 = .ok (.iconst 0, 1) := by decide +kernel
theorem dX7_addItem_85 : decode cX7_addItem 85 = .ok (.iaload, 1) := by decide +kernel
theorem dX7_addItem_86 : decode cX7_addItem 86 = .ok (.putfield 97, 3) := by decide +kernel
theorem dX7_addItem_89 : decode cX7_addItem 89 = .ok (.aload_n 2, 1) := by decide +kernel
theorem dX7_addItem_90 : decode cX7_addItem 90 = .ok (.aload_n 0, 1) := by decide +kernel
theorem dX7_addItem_91 : decode cX7_addItem 91 = .ok (.getfield 15, 3) := by decide +kernel
theorem dX7_addItem_94 : decode cX7_addItem 94 = .ok (.iconst 1, 1) := by decide +kernel
theorem dX7_addItem_95 : decode cX7_addItem 95 = .ok (.iaload, 1) := by decide +kernel
theorem dX7_addItem_96 : decode cX7_addItem 96 = .ok (.putfield 100, 3) := by decide +kernel
theorem dX7_addItem_99 : decode cX7_addItem 99 = .ok (.aload_n 0, 1) := by decide +kernel
theorem dX7_addItem_100 : decode cX7_addItem 100 = .ok (.iconst 1, 1) := by decide +kernel
theorem dX7_addItem_101 : decode cX7_addItem 101 = .ok (.putfield 27, 3) := by decide +kernel
theorem dX7_addItem_104 : decode cX7_addItem 104 = .ok (.goto 18, 3) := by decide +kernel
theorem dX7_addItem_107 : decode cX7_addItem 107 = .ok (.aload_n 2, 1) := by decide +kernel
theorem dX7_addItem_108 : decode cX7_addItem 108 = .ok (.aload_n 0, 1) := by decide +kernel
theorem dX7_addItem_109 : decode cX7_addItem 109 = .ok (.getfield 15, 3) := by decide +kernel
theorem dX7_addItem_112 : decode cX7_addItem 112 = .ok (.iconst 0, 1) := by decide +kernel
theorem dX7_addItem_113 : decode cX7_addItem 113 = .ok (.iaload, 1) := by decide +kernel
theorem dX7_addItem_114 : decode cX7_addItem 114 = .ok (.putfield 103, 3) := by decide +kernel
theorem dX7_addItem_117 : decode cX7_addItem 117 = .ok (.aload_n 0, 1) := by decide +kernel
theorem dX7_addItem_118 : decode cX7_addItem 118 = .ok (.iconst 1, 1) := by decide +kernel
theorem dX7_addItem_119 : decode cX7_addItem 119 = .ok (.putfield 31, 3) := by decide +kernel
theorem dX7_addItem_122 : decode cX7_addItem 122 = .ok (.return_, 1) := by decide +kernel
theorem dX7_nextToken_0 : decode cX7_nextToken 0 = .ok (.aload_n 0, 1) := by decide +kernel
theorem dX7_nextToken_1 : decode cX7_nextToken 1 = .ok (.getfield 23, 3) := by decide +kernel
theorem dX7_nextToken_4 : decode cX7_nextToken 4 = .ok (.aload_n 0, 1) := by decide +kernel
theorem dX7_nextToken_5 : decode cX7_nextToken 5 = .ok (.getfield 47, 3) := by decide +kernel
theorem dX7_nextToken_8 : decode cX7_nextToken 8 = .ok (.if_icmp .ge 30, 3) := by decide +kernel
theorem dX7_nextToken_11 : decode cX7_nextToken 11 = .ok (.aload_n 0, 1) := by decide +kernel
theorem dX7_nextToken_12 : decode cX7_nextToken 12 = .ok (.getfield 9, 3) := by decide +kernel
theorem dX7_nextToken_15 : decode cX7_nextToken 15 = .ok (.aload_n 0, 1) := by decide +kernel
theorem dX7_nextToken_16 : decode cX7_nextToken 16 = .ok (.getfield 23, 3) := by decide +kernel
theorem dX7_nextToken_19 : decode cX7_nextToken 19 = .ok (.iaload, 1) := by decide +kernel
theorem dX7_nextToken_20 : decode cX7_nextToken 20 = .ok (.bipush 32, 2) := by decide +kernel
theorem dX7_nextToken_22 : decode cX7_nextToken 22 = .ok (.if_icmp .ne 16, 3) := by decide +kernel
theorem dX7_nextToken_25 : decode cX7_nextToken 25 = .ok (.aload_n 0, 1) := by decide +kernel
theorem dX7_nextToken_26 : decode cX7_nextToken 26 = .ok (.dup, 1) := by decide +kernel
theorem dX7_nextToken_27 : decode cX7_nextToken 27 = .ok (.getfield 23, 3) := by decide +kernel
theorem dX7_nextToken_30 : decode cX7_nextToken 30 = .ok (.iconst 1, 1) := by decide +kernel
theorem dX7_nextToken_31 : decode cX7_nextToken 31 = .ok (.iadd, 1) := by decide +kernel
theorem dX7_nextToken_32 : decode cX7_nextToken 32 = .ok (.putfield 23, 3) := by decide +kernel
theorem dX7_nextToken_35 : decode cX7_nextToken 35 = .ok (.goto (-35), 3) := by decide +kernel
theorem dX7_nextToken_38 : decode cX7_nextToken 38 = .ok (.aload_n 0, 1) := by decide +kernel
theorem dX7_nextToken_39 : decode cX7_nextToken 39 = .ok (.aload_n 0, 1) := by decide +kernel
theorem dX7_nextToken_40 : decode cX7_nextToken 40 = .ok (.getfield 23, 3) := by decide +kernel
theorem dX7_nextToken_43 : decode cX7_nextToken 43 = .ok (.putfield 44, 3) := by decide +kernel
theorem dX7_nextToken_46 : decode cX7_nextToken 46 = .ok (.aload_n 0, 1) := by decide +kernel
theorem dX7_nextToken_47 : decode cX7_nextToken 47 = .ok (.iconst 0, 1) := by decide +kernel
theorem dX7_nextToken_48 : decode cX7_nextToken 48 = .ok (.putfield 50, 3) := by decide +kernel
theorem dX7_nextToken_51 : decode cX7_nextToken 51 = .ok (.aload_n 0, 1) := by decide +kernel
theorem dX7_nextToken_52 : decode cX7_nextToken 52 = .ok (.getfield 23, 3) := by decide +kernel
theorem dX7_nextToken_55 : decode cX7_nextToken 55 = .ok (.aload_n 0, 1) := by decide +kernel
theorem dX7_nextToken_56 : decode cX7_nextToken 56 = .ok (.getfield 47, 3) := by decide +kernel
theorem dX7_nextToken_59 : decode cX7_nextToken 59 = .ok (.if_icmp .lt 11, 3) := by decide +kernel
theorem dX7_nextToken_62 : decode cX7_nextToken 62 = .ok (.aload_n 0, 1) := by decide +kernel
theorem dX7_nextToken_63 : decode cX7_nextToken 63 = .ok (.iconst 0, 1) := by decide +kernel
theorem dX7_nextToken_64 : decode cX7_nextToken 64 = .ok (.putfield 37, 3) := by decide +kernel
theorem dX7_nextToken_67 : decode cX7_nextToken 67 = .ok (.goto 92, 3) := by decide +kernel
theorem dX7_nextToken_70 : decode cX7_nextToken 70 = .ok (.aload_n 0, 1) := by decide +kernel
theorem dX7_nextToken_71 : decode cX7_nextToken 71 = .ok (.getfield 9, 3) := by decide +kernel
theorem dX7_nextToken_74 : decode cX7_nextToken 74 = .ok (.aload_n 0, 1) := by decide +kernel
theorem dX7_nextToken_75 : decode cX7_nextToken 75 = .ok (.getfield 23, 3) := by decide +kernel
theorem dX7_nextToken_78 : decode cX7_nextToken 78 = .ok (.iaload, 1) := by decide +kernel
theorem dX7_nextToken_79 : decode cX7_nextToken 79 = .ok (.bipush 59, 2) := by decide +kernel
theorem dX7_nextToken_81 : decode cX7_nextToken 81 = .ok (.if_icmp .ne 21, 3) := by decide +kernel
theorem dX7_nextToken_84 : decode cX7_nextToken 84 = .ok (.aload_n 0, 1) := by decide +kernel
theorem dX7_nextToken_85 : decode cX7_nextToken 85 = .ok (.iconst 3, 1) := by decide +kernel
theorem dX7_nextToken_86 : decode cX7_nextToken 86 = .ok (.putfield 37, 3) := by decide +kernel
theorem dX7_nextToken_89 : decode cX7_nextToken 89 = .ok (.aload_n 0, 1) := by decide +kernel
theorem dX7_nextToken_90 : decode cX7_nextToken 90 = .ok (.dup, 1) := by decide +kernel
theorem dX7_nextToken_91 : decode cX7_nextToken 91 = .ok (.getfield 23, 3) := by decide +kernel
theorem dX7_nextToken_94 : decode cX7_nextToken 94 = .ok (.iconst 1, 1) := by decide +kernel
theorem dX7_nextToken_95 : decode cX7_nextToken 95 = .ok (.iadd, 1) := by decide +kernel
theorem dX7_nextToken_96 : decode cX7_nextToken 96 = .ok (.putfield 23, 3) := by decide +kernel
theorem dX7_nextToken_99 : decode cX7_nextToken 99 = .ok (.goto 60, 3) := by decide +kernel
theorem dX7_nextToken_102 : decode cX7_nextToken 102 = .ok (.aload_n 0, 1) := by decide +kernel
theorem dX7_nextToken_103 : decode cX7_nextToken 103 = .ok (.getfield 9, 3) := by decide +kernel
theorem dX7_nextToken_106 : decode cX7_nextToken 106 = .ok (.aload_n 0, 1) := by decide +kernel
theorem dX7_nextToken_107 : decode cX7_nextToken 107 = .ok (.getfield 23, 3) := by decide +kernel
theorem dX7_nextToken_110 : decode cX7_nextToken 110 = .ok (.iaload, 1) := by decide +kernel
theorem dX7_nextToken_111 : decode cX7_nextToken 111 = .ok (.bipush 97, 2) := by decide +kernel
theorem dX7_nextToken_113 : decode cX7_nextToken 113 = .ok (.bipush 122, 2) := by decide +kernel
theorem dX7_nextToken_115 : decode cX7_nextToken 115 = .ok (.invokestatic 69, 3) := by decide +kernel
theorem dX7_nextToken_118 : decode cX7_nextToken 118 = .ok (.ifCond .eq 10, 3) := by decide +kernel
theorem dX7_nextToken_121 : decode cX7_nextToken 121 = .ok (.aload_n 0, 1) := by decide +kernel
theorem dX7_nextToken_122 : decode cX7_nextToken 122 = .ok (.invokevirtual 106, 3) := by decide +kernel
theorem dX7_nextToken_125 : decode cX7_nextToken 125 = .ok (.goto 34, 3) := by decide +kernel
theorem dX7_nextToken_128 : decode cX7_nextToken 128 = .ok (.aload_n 0, 1) := by decide +kernel
theorem dX7_nextToken_129 : decode cX7_nextToken 129 = .ok (.getfield 9, 3) := by decide +kernel
theorem dX7_nextToken_132 : decode cX7_nextToken 132 = .ok (.aload_n 0, 1) := by decide +kernel
theorem dX7_nextToken_133 : decode cX7_nextToken 133 = .ok (.getfield 23, 3) := by decide +kernel
theorem dX7_nextToken_136 : decode cX7_nextToken 136 = .ok (.iaload, 1) := by decide +kernel
theorem dX7_nextToken_137 : decode cX7_nextToken 137 = .ok (.bipush 48, 2) := by decide +kernel
theorem dX7_nextToken_139 : decode cX7_nextToken 139 = .ok (.bipush 57, 2) := by decide +kernel
theorem dX7_nextToken_141 : decode cX7_nextToken 141 = .ok (.invokestatic 69, 3) := by decide +kernel
theorem dX7_nextToken_144 : decode cX7_nextToken 144 = .ok (.ifCond .eq 10, 3) := by decide +kernel
theorem dX7_nextToken_147 : decode cX7_nextToken 147 = .ok (.aload_n 0, 1) := by decide +kernel
theorem dX7_nextToken_148 : decode cX7_nextToken 148 = .ok (.invokevirtual 109, 3) := by decide +kernel
theorem dX7_nextToken_151 : decode cX7_nextToken 151 = .ok (.goto 8, 3) := by decide +kernel
theorem dX7_nextToken_154 : decode cX7_nextToken 154 = .ok (.aload_n 0, 1) := by decide +kernel
theorem dX7_nextToken_155 : decode cX7_nextToken 155 = .ok (.iconst 4, 1) := by decide +kernel
theorem dX7_nextToken_156 : decode cX7_nextToken 156 = .ok (.putfield 37, 3) := by decide +kernel
theorem dX7_nextToken_159 : decode cX7_nextToken 159 = .ok (.return_, 1) := by decide +kernel
theorem dX7_takeLetters_0 : decode cX7_takeLetters 0 = .ok (.aload_n 0, 1) := by decide +kernel
theorem dX7_takeLetters_1 : decode cX7_takeLetters 1 = .ok (.getfield 9, 3) := by decide +kernel
theorem dX7_takeLetters_4 : decode cX7_takeLetters 4 = .ok (.aload_n 0, 1) := by decide +kernel
theorem dX7_takeLetters_5 : decode cX7_takeLetters 5 = .ok (.getfield 23, 3) := by decide +kernel
theorem dX7_takeLetters_8 : decode cX7_takeLetters 8 = .ok (.iaload, 1) := by decide +kernel
theorem dX7_takeLetters_9 : decode cX7_takeLetters 9 = .ok (.istore_n 1, 1) := by decide +kernel
theorem dX7_takeLetters_10 : decode cX7_takeLetters 10 = .ok (.aload_n 0, 1) := by decide +kernel
theorem dX7_takeLetters_11 : decode cX7_takeLetters 11 = .ok (.getfield 23, 3) := by decide +kernel
theorem dX7_takeLetters_14 : decode cX7_takeLetters 14 = .ok (.aload_n 0, 1) := by decide +kernel
theorem dX7_takeLetters_15 : decode cX7_takeLetters 15 = .ok (.getfield 47, 3) := by decide +kernel
theorem dX7_takeLetters_18 : decode cX7_takeLetters 18 = .ok (.if_icmp .ge 35, 3) := by decide +kernel
theorem dX7_takeLetters_21 : decode cX7_takeLetters 21 = .ok (.aload_n 0, 1) := by decide +kernel
theorem dX7_takeLetters_22 : decode cX7_takeLetters 22 = .ok (.getfield 9, 3) := by decide +kernel
theorem dX7_takeLetters_25 : decode cX7_takeLetters 25 = .ok (.aload_n 0, 1) := by decide +kernel
theorem dX7_takeLetters_26 : decode cX7_takeLetters 26 = .ok (.getfield 23, 3) := by decide +kernel
theorem dX7_takeLetters_29 : decode cX7_takeLetters 29 = .ok (.iaload, 1) := by decide +kernel
theorem dX7_takeLetters_30 : decode cX7_takeLetters 30 = .ok (.bipush 97, 2) := by decide +kernel
theorem dX7_takeLetters_32 : decode cX7_takeLetters 32 = .ok (.bipush 122, 2) := by decide +kernel
theorem dX7_takeLetters_34 : decode cX7_takeLetters 34 = .ok (.invokestatic 69, 3) := by decide +kernel
theorem dX7_takeLetters_37 : decode cX7_takeLetters 37 = .ok (.ifCond .eq 16, 3) := by decide +kernel
theorem dX7_takeLetters_40 : decode cX7_takeLetters 40 = .ok (.aload_n 0, 1) := by decide +kernel
theorem dX7_takeLetters_41 : decode cX7_takeLetters 41 = .ok (.dup, 1) := by decide +kernel
theorem dX7_takeLetters_42 : decode cX7_takeLetters 42 = .ok (.getfield 23, 3) := by decide +kernel
theorem dX7_takeLetters_45 : decode cX7_takeLetters 45 = .ok (.iconst 1, 1) := by decide +kernel
theorem dX7_takeLetters_46 : decode cX7_takeLetters 46 = .ok (.iadd, 1) := by decide +kernel
theorem dX7_takeLetters_47 : decode cX7_takeLetters 47 = .ok (.putfield 23, 3) := by decide +kernel
theorem dX7_takeLetters_50 : decode cX7_takeLetters 50 = .ok (.goto (-40), 3) := by decide +kernel
theorem dX7_takeLetters_53 : decode cX7_takeLetters 53 = .ok (.aload_n 0, 1) := by decide +kernel
theorem dX7_takeLetters_54 : decode cX7_takeLetters 54 = .ok (.iconst 1, 1) := by decide +kernel
theorem dX7_takeLetters_55 : decode cX7_takeLetters 55 = .ok (.putfield 37, 3) := by decide +kernel
theorem dX7_takeLetters_58 : decode cX7_takeLetters 58 = .ok (.aload_n 0, 1) := by decide +kernel
theorem dX7_takeLetters_59 : decode cX7_takeLetters 59 = .ok (.aload_n 0, 1) := by decide +kernel
theorem dX7_takeLetters_60 : decode cX7_takeLetters 60 = .ok (.getfield 23, 3) := by decide +kernel
theorem dX7_takeLetters_63 : decode cX7_takeLetters 63 = .ok (.aload_n 0, 1) := by decide +kernel
theorem dX7_takeLetters_64 : decode cX7_takeLetters 64 = .ok (.getfield 44, 3) := by decide +kernel
theorem dX7_takeLetters_67 : decode cX7_takeLetters 67 = .ok (.isub, 1) := by decide +kernel
theorem dX7_takeLetters_68 : decode cX7_takeLetters 68 = .ok (.iconst 1, 1) := by decide +kernel
theorem dX7_takeLetters_69 : decode cX7_takeLetters 69 = .ok (.if_icmp .ne 7, 3) := by decide +kernel
theorem dX7_takeLetters_72 : decode cX7_takeLetters 72 = .ok (.iload_n 1, 1) := by decide +kernel
theorem dX7_takeLetters_73 : decode cX7_takeLetters 73 = .ok (.goto 4, 3) := by decide +kernel
theorem dX7_takeLetters_76 : decode cX7_takeLetters 76 = .ok (.iconst 0, 1) := by decide +kernel
theorem dX7_takeLetters_77 : decode cX7_takeLetters 77 = .ok (.putfield 50, 3) := by decide +kernel
theorem dX7_takeLetters_80 : decode cX7_takeLetters 80 = .ok (.return_, 1) := by decide +kernel
theorem dX7_takeNumber_0 : decode cX7_takeNumber 0 = .ok (.aload_n 0, 1) := by decide +kernel
theorem dX7_takeNumber_1 : decode cX7_takeNumber 1 = .ok (.getfield 9, 3) := by decide +kernel
theorem dX7_takeNumber_4 : decode cX7_takeNumber 4 = .ok (.aload_n 0, 1) := by decide +kernel
theorem dX7_takeNumber_5 : decode cX7_takeNumber 5 = .ok (.getfield 23, 3) := by decide +kernel
theorem dX7_takeNumber_8 : decode cX7_takeNumber 8 = .ok (.iaload, 1) := by decide +kernel
theorem dX7_takeNumber_9 : decode cX7_takeNumber 9 = .ok (.istore_n 1, 1) := by decide +kernel
theorem dX7_takeNumber_10 : decode cX7_takeNumber 10 = .ok (.aload_n 0, 1) := by decide +kernel
theorem dX7_takeNumber_11 : decode cX7_takeNumber 11 = .ok (.getfield 23, 3) := by decide +kernel
theorem dX7_takeNumber_14 : decode cX7_takeNumber 14 = .ok (.aload_n 0, 1) := by decide +kernel
theorem dX7_takeNumber_15 : decode cX7_takeNumber 15 = .ok (.getfield 47, 3) := by decide +kernel
theorem dX7_takeNumber_18 : decode cX7_takeNumber 18 = .ok (.if_icmp .ge 65, 3) := by decide +kernel
theorem dX7_takeNumber_21 : decode cX7_takeNumber 21 = .ok (.aload_n 0, 1) := by decide +kernel
theorem dX7_takeNumber_22 : decode cX7_takeNumber 22 = .ok (.getfield 9, 3) := by decide +kernel
theorem dX7_takeNumber_25 : decode cX7_takeNumber 25 = .ok (.aload_n 0, 1) := by decide +kernel
theorem dX7_takeNumber_26 : decode cX7_takeNumber 26 = .ok (.getfield 23, 3) := by decide +kernel
theorem dX7_takeNumber_29 : decode cX7_takeNumber 29 = .ok (.iaload, 1) := by decide +kernel
theorem dX7_takeNumber_30 : decode cX7_takeNumber 30 = .ok (.bipush 48, 2) := by decide +kernel
theorem dX7_takeNumber_32 : decode cX7_takeNumber 32 = .ok (.bipush 57, 2) := by decide +kernel
theorem dX7_takeNumber_34 : decode cX7_takeNumber 34 = .ok (.invokestatic 69, 3) := by decide +kernel
theorem dX7_takeNumber_37 : decode cX7_takeNumber 37 = .ok (.ifCond .eq 46, 3) := by decide +kernel
theorem dX7_takeNumber_40 : decode cX7_takeNumber 40 = .ok (.aload_n 0, 1) := by decide +kernel
theorem dX7_takeNumber_41 : decode cX7_takeNumber 41 = .ok (.aload_n 0, 1) := by decide +kernel
theorem dX7_takeNumber_42 : decode cX7_takeNumber 42 = .ok (.getfield 50, 3) := by decide +kernel
theorem dX7_takeNumber_45 : decode cX7_takeNumber 45 = .ok (.bipush 10, 2) := by decide +kernel
theorem dX7_takeNumber_47 : decode cX7_takeNumber 47 = .ok (.imul, 1) := by decide +kernel
theorem dX7_takeNumber_48 : decode cX7_takeNumber 48 = .ok (.aload_n 0, 1) := by decide +kernel
theorem dX7_takeNumber_49 : decode cX7_takeNumber 49 = .ok (.getfield 9, 3) := by decide +kernel
theorem dX7_takeNumber_52 : decode cX7_takeNumber 52 = .ok (.aload_n 0, 1) := by decide +kernel
theorem dX7_takeNumber_53 : decode cX7_takeNumber 53 = .ok (.getfield 23, 3) := by decide +kernel
theorem dX7_takeNumber_56 : decode cX7_takeNumber 56 = .ok (.iaload, 1) := by decide +kernel
theorem dX7_takeNumber_57 : decode cX7_takeNumber 57 = .ok (.iadd, 1) := by decide +kernel
theorem dX7_takeNumber_58 : decode cX7_takeNumber 58 = .ok (.bipush 48, 2) := by decide +kernel
theorem dX7_takeNumber_60 : decode cX7_takeNumber 60 = .ok (.isub, 1) := by decide +kernel
theorem dX7_takeNumber_61 : decode cX7_takeNumber 61 = .ok (.sipush 1000, 3) := by decide +kernel
theorem dX7_takeNumber_64 : decode cX7_takeNumber 64 = .ok (.invokestatic 112, 3) := by decide +kernel
theorem dX7_takeNumber_67 : decode cX7_takeNumber 67 = .ok (.putfield 50, 3) := by decide +kernel
theorem dX7_takeNumber_70 : decode cX7_takeNumber 70 = .ok (.aload_n 0, 1) := by decide +kernel
theorem dX7_takeNumber_71 : decode cX7_takeNumber 71 = .ok (.dup, 1) := by decide +kernel
theorem dX7_takeNumber_72 : decode cX7_takeNumber 72 = .ok (.getfield 23, 3) := by decide +kernel
theorem dX7_takeNumber_75 : decode cX7_takeNumber 75 = .ok (.iconst 1, 1) := by decide +kernel
theorem dX7_takeNumber_76 : decode cX7_takeNumber 76 = .ok (.iadd, 1) := by decide +kernel
theorem dX7_takeNumber_77 : decode cX7_takeNumber 77 = .ok (.putfield 23, 3) := by decide +kernel
theorem dX7_takeNumber_80 : decode cX7_takeNumber 80 = .ok (.goto (-70), 3) := by decide +kernel
theorem dX7_takeNumber_83 : decode cX7_takeNumber 83 = .ok (.aload_n 0, 1) := by decide +kernel
theorem dX7_takeNumber_84 : decode cX7_takeNumber 84 = .ok (.getfield 23, 3) := by decide +kernel
theorem dX7_takeNumber_87 : decode cX7_takeNumber 87 = .ok (.aload_n 0, 1) := by decide +kernel
theorem dX7_takeNumber_88 : decode cX7_takeNumber 88 = .ok (.getfield 44, 3) := by decide +kernel
theorem dX7_takeNumber_91 : decode cX7_takeNumber 91 = .ok (.isub, 1) := by decide +kernel
theorem dX7_takeNumber_92 : decode cX7_takeNumber 92 = .ok (.istore_n 2, 1) := by decide +kernel
theorem dX7_takeNumber_93 : decode cX7_takeNumber 93 = .ok (.aload_n 0, 1) := by decide +kernel
theorem dX7_takeNumber_94 : decode cX7_takeNumber 94 = .ok (.iload_n 2, 1) := by decide +kernel
theorem dX7_takeNumber_95 : decode cX7_takeNumber 95 = .ok (.iconst 2, 1) := by decide +kernel
theorem dX7_takeNumber_96 : decode cX7_takeNumber 96 = .ok (.if_icmp .gt 14, 3) := by decide +kernel
theorem dX7_takeNumber_99 : decode cX7_takeNumber 99 = .ok (.iload_n 2, 1) := by decide +kernel
theorem dX7_takeNumber_100 : decode cX7_takeNumber 100 = .ok (.iconst 2, 1) := by decide +kernel
theorem dX7_takeNumber_101 : decode cX7_takeNumber 101 = .ok (.if_icmp .ne 13, 3) := by decide +kernel
theorem dX7_takeNumber_104 : decode cX7_takeNumber 104 = .ok (.iload_n 1, 1) := by decide +kernel
theorem dX7_takeNumber_105 : decode cX7_takeNumber 105 = .ok (.bipush 48, 2) := by decide +kernel
theorem dX7_takeNumber_107 : decode cX7_takeNumber 107 = .ok (.if_icmp .ne 7, 3) := by decide +kernel
theorem dX7_takeNumber_110 : decode cX7_takeNumber 110 = .ok (.iconst 4, 1) := by decide +kernel
theorem dX7_takeNumber_111 : decode cX7_takeNumber 111 = .ok (.goto 4, 3) := by decide +kernel
theorem dX7_takeNumber_114 : decode cX7_takeNumber 114 = .ok (.iconst 2, 1) := by decide +kernel
theorem dX7_takeNumber_115 : decode cX7_takeNumber 115 = .ok (.putfield 37, 3) := by decide +kernel
theorem dX7_takeNumber_118 : decode cX7_takeNumber 118 = .ok (.return_, 1) := by decide +kernel
theorem dX8_init_0 : decode cX8_init 0 = .ok (.aload_n 0, 1) := by decide +kernel
theorem dX8_init_1 : decode cX8_init 1 = .ok (.invokespecial 1, 3) := by decide +kernel
theorem dX8_init_4 : decode cX8_init 4 = .ok (.return_, 1) := by decide +kernel
theorem dX8_markOf_0 : decode cX8_markOf 0 = .ok (.aload_n 1, 1) := by decide +kernel
theorem dX8_markOf_1 : decode cX8_markOf 1 = .ok (.dup, 1) := by decide +kernel
theorem dX8_markOf_2 : decode cX8_markOf 2 = .ok (.getfield 7, 3) := by decide +kernel
theorem dX8_markOf_5 : decode cX8_markOf 5 = .ok (.ldc2_w 13, 3) := by decide +kernel
theorem dX8_markOf_8 : decode cX8_markOf 8 = .ok (.ladd, 1) := by decide +kernel
theorem dX8_markOf_9 : decode cX8_markOf 9 = .ok (.putfield 7, 3) := by decide +kernel
theorem dX8_markOf_12 : decode cX8_markOf 12 = .ok (.aload_n 0, 1) := by decide +kernel
theorem dX8_markOf_13 : decode cX8_markOf 13 = .ok (.aload_n 1, 1) := by decide +kernel
theorem dX8_markOf_14 : decode cX8_markOf 14 = .ok (.iload_n 2, 1) := by decide +kernel
theorem dX8_markOf_15 : decode cX8_markOf 15 = .ok (.invokespecial 15, 3) := by decide +kernel
theorem dX8_markOf_18 : decode cX8_markOf 18 = .ok (.aload_n 1, 1) := by decide +kernel
theorem dX8_markOf_19 : decode cX8_markOf 19 = .ok (.getfield 19, 3) := by decide +kernel
theorem dX8_markOf_22 : decode cX8_markOf 22 = .ok (.getfield 23, 3) := by decide +kernel
theorem dX8_markOf_25 : decode cX8_markOf 25 = .ok (.iload_n 2, 1) := by decide +kernel
theorem dX8_markOf_26 : decode cX8_markOf 26 = .ok (.iaload, 1) := by decide +kernel
theorem dX8_markOf_27 : decode cX8_markOf 27 = .ok (.iadd, 1) := by decide +kernel
theorem dX8_markOf_28 : decode cX8_markOf 28 = .ok (.ireturn, 1) := by decide +kernel
theorem dX9_init_0 : decode cX9_init 0 = .ok (.aload_n 0, 1) := by decide +kernel
theorem dX9_init_1 : decode cX9_init 1 = .ok (.invokespecial 1, 3) := by decide +kernel
theorem dX9_init_4 : decode cX9_init 4 = .ok (.return_, 1) := by decide +kernel
theorem dX9_markOf_0 : decode cX9_markOf 0 = .ok (.aload_n 1, 1) := by decide +kernel
theorem dX9_markOf_1 : decode cX9_markOf 1 = .ok (.dup, 1) := by decide +kernel
theorem dX9_markOf_2 : decode cX9_markOf 2 = .ok (.getfield 7, 3) := by decide +kernel
theorem dX9_markOf_5 : decode cX9_markOf 5 = .ok (.ldc2_w 13, 3) := by decide +kernel
theorem dX9_markOf_8 : decode cX9_markOf 8 = .ok (.ladd, 1) := by decide +kernel
theorem dX9_markOf_9 : decode cX9_markOf 9 = .ok (.putfield 7, 3) := by decide +kernel
theorem dX9_markOf_12 : decode cX9_markOf 12 = .ok (.iconst 0, 1) := by decide +kernel
theorem dX9_markOf_13 : decode cX9_markOf 13 = .ok (.istore_n 3, 1) := by decide +kernel
theorem dX9_markOf_14 : decode cX9_markOf 14 = .ok (.iconst 0, 1) := by decide +kernel
theorem dX9_markOf_15 : decode cX9_markOf 15 = .ok (.istore 4, 2) := by decide +kernel
theorem dX9_markOf_17 : decode cX9_markOf 17 = .ok (.iload 4, 2) := by decide +kernel
theorem dX9_markOf_19 : decode cX9_markOf 19 = .ok (.aload_n 1, 1) := by decide +kernel
theorem dX9_markOf_20 : decode cX9_markOf 20 = .ok (.getfield 15, 3) := by decide +kernel
theorem dX9_markOf_23 : decode cX9_markOf 23 = .ok (.getfield 19, 3) := by decide +kernel
theorem dX9_markOf_26 : decode cX9_markOf 26 = .ok (.if_icmp .ge 26, 3) := by decide +kernel
theorem dX9_markOf_29 : decode cX9_markOf 29 = .ok (.aload_n 1, 1) := by decide +kernel
theorem dX9_markOf_30 : decode cX9_markOf 30 = .ok (.getfield 15, 3) := by decide +kernel
theorem dX9_markOf_33 : decode cX9_markOf 33 = .ok (.getfield 25, 3) := by decide +kernel
theorem dX9_markOf_36 : decode cX9_markOf 36 = .ok (.iload 4, 2) := by decide +kernel
theorem dX9_markOf_38 : decode cX9_markOf 38 = .ok (.iaload, 1) := by decide +kernel
theorem dX9_markOf_39 : decode cX9_markOf 39 = .ok (.iload_n 2, 1) := by decide +kernel
theorem dX9_markOf_40 : decode cX9_markOf 40 = .ok (.if_icmp .ne 6, 3) := by decide +kernel
theorem dX9_markOf_43 : decode cX9_markOf 43 = .ok (.iinc 3 1, 3) := by decide +kernel
theorem dX9_markOf_46 : decode cX9_markOf 46 = .ok (.iinc 4 1, 3) := by decide +kernel
theorem dX9_markOf_49 : decode cX9_markOf 49 = .ok (.goto (-32), 3) := by decide +kernel
theorem dX9_markOf_52 : decode cX9_markOf 52 = .ok (.aload_n 0, 1) := by decide +kernel
theorem dX9_markOf_53 : decode cX9_markOf 53 = .ok (.aload_n 1, 1) := by decide +kernel
theorem dX9_markOf_54 : decode cX9_markOf 54 = .ok (.iload_n 2, 1) := by decide +kernel
theorem dX9_markOf_55 : decode cX9_markOf 55 = .ok (.invokespecial 29, 3) := by decide +kernel
theorem dX9_markOf_58 : decode cX9_markOf 58 = .ok (.iload_n 3, 1) := by decide +kernel
theorem dX9_markOf_59 : decode cX9_markOf 59 = .ok (.isub, 1) := by decide +kernel
theorem dX9_markOf_60 : decode cX9_markOf 60 = .ok (.ireturn, 1) := by decide +kernel
theorem dJ6_bitCount_0f7a4_0 : decode cJ6_bitCount_0f7a4 0 = .ok (.iload_n 0, 1) := by decide +kernel
theorem dJ6_bitCount_0f7a4_1 : decode cJ6_bitCount_0f7a4 1 = .ok (.iload_n 0, 1) := by decide +kernel
theorem dJ6_bitCount_0f7a4_2 : decode cJ6_bitCount_0f7a4 2 = .ok (.iconst 1, 1) := by decide +kernel
theorem dJ6_bitCount_0f7a4_3 : decode cJ6_bitCount_0f7a4 3 = .ok (.iushr, 1) := by decide +kernel
theorem dJ6_bitCount_0f7a4_4 : decode cJ6_bitCount_0f7a4 4 = .ok (.ldc_w 265, 3) := by decide +kernel
theorem dJ6_bitCount_0f7a4_7 : decode cJ6_bitCount_0f7a4 7 = .ok (.iand, 1) := by decide +kernel
theorem dJ6_bitCount_0f7a4_8 : decode cJ6_bitCount_0f7a4 8 = .ok (.isub, 1) := by decide +kernel
theorem dJ6_bitCount_0f7a4_9 : decode cJ6_bitCount_0f7a4 9 = .ok (.istore_n 0, 1) := by decide +kernel
theorem dJ6_bitCount_0f7a4_10 : decode cJ6_bitCount_0f7a4 10 = .ok (.iload_n 0, 1) := by decide +kernel
theorem dJ6_bitCount_0f7a4_11 : decode cJ6_bitCount_0f7a4 11 = .ok (.ldc_w 266, 3) := by decide +kernel
theorem dJ6_bitCount_0f7a4_14 : decode cJ6_bitCount_0f7a4 14 = .ok (.iand, 1) := by decide +kernel
theorem dJ6_bitCount_0f7a4_15 : decode cJ6_bitCount_0f7a4 15 = .ok (.iload_n 0, 1) := by decide +kernel
theorem dJ6_bitCount_0f7a4_16 : decode cJ6_bitCount_0f7a4 16 = .ok (.iconst 2, 1) := by decide +kernel
theorem dJ6_bitCount_0f7a4_17 : decode cJ6_bitCount_0f7a4 17 = .ok (.iushr, 1) := by decide +kernel
theorem dJ6_bitCount_0f7a4_18 : decode cJ6_bitCount_0f7a4 18 = .ok (.ldc_w 266, 3) := by decide +kernel
theorem dJ6_bitCount_0f7a4_21 : decode cJ6_bitCount_0f7a4 21 = .ok (.iand, 1) := by decide +kernel
theorem dJ6_bitCount_0f7a4_22 : decode cJ6_bitCount_0f7a4 22 = .ok (.iadd, 1) := by decide +kernel
theorem dJ6_bitCount_0f7a4_23 : decode cJ6_bitCount_0f7a4 23 = .ok (.istore_n 0, 1) := by decide +kernel
theorem dJ6_bitCount_0f7a4_24 : decode cJ6_bitCount_0f7a4 24 = .ok (.iload_n 0, 1) := by decide +kernel
theorem dJ6_bitCount_0f7a4_25 : decode cJ6_bitCount_0f7a4 25 = .ok (.iload_n 0, 1) := by decide +kernel
theorem dJ6_bitCount_0f7a4_26 : decode cJ6_bitCount_0f7a4 26 = .ok (.iconst 4, 1) := by decide +kernel
theorem dJ6_bitCount_0f7a4_27 : decode cJ6_bitCount_0f7a4 27 = .ok (.iushr, 1) := by decide +kernel
theorem dJ6_bitCount_0f7a4_28 : decode cJ6_bitCount_0f7a4 28 = .ok (.iadd, 1) := by decide +kernel
theorem dJ6_bitCount_0f7a4_29 : decode cJ6_bitCount_0f7a4 29 = .ok (.ldc_w 267, 3) := by decide +kernel
theorem dJ6_bitCount_0f7a4_32 : decode cJ6_bitCount_0f7a4 32 = .ok (.iand, 1) := by decide +kernel
theorem dJ6_bitCount_0f7a4_33 : decode cJ6_bitCount_0f7a4 33 = .ok (.istore_n 0, 1) := by decide +kernel
theorem dJ6_bitCount_0f7a4_34 : decode cJ6_bitCount_0f7a4 34 = .ok (.iload_n 0, 1) := by decide +kernel
theorem dJ6_bitCount_0f7a4_35 : decode cJ6_bitCount_0f7a4 35 = .ok (.iload_n 0, 1) := by decide +kernel
theorem dJ6_bitCount_0f7a4_36 : decode cJ6_bitCount_0f7a4 36 = .ok (.bipush 8, 2) := by decide +kernel
theorem dJ6_bitCount_0f7a4_38 : decode cJ6_bitCount_0f7a4 38 = .ok (.iushr, 1) := by decide +kernel
theorem dJ6_bitCount_0f7a4_39 : decode cJ6_bitCount_0f7a4 39 = .ok (.iadd, 1) := by decide +kernel
theorem dJ6_bitCount_0f7a4_40 : decode cJ6_bitCount_0f7a4 40 = .ok (.istore_n 0, 1) := by decide +kernel
theorem dJ6_bitCount_0f7a4_41 : decode cJ6_bitCount_0f7a4 41 = .ok (.iload_n 0, 1) := by decide +kernel
theorem dJ6_bitCount_0f7a4_42 : decode cJ6_bitCount_0f7a4 42 = .ok (.iload_n 0, 1) := by decide +kernel
theorem dJ6_bitCount_0f7a4_43 : decode cJ6_bitCount_0f7a4 43 = .ok (.bipush 16, 2) := by decide +kernel
theorem dJ6_bitCount_0f7a4_45 : decode cJ6_bitCount_0f7a4 45 = .ok (.iushr, 1) := by decide +kernel
theorem dJ6_bitCount_0f7a4_46 : decode cJ6_bitCount_0f7a4 46 = .ok (.iadd, 1) := by decide +kernel
theorem dJ6_bitCount_0f7a4_47 : decode cJ6_bitCount_0f7a4 47 = .ok (.istore_n 0, 1) := by decide +kernel
theorem dJ6_bitCount_0f7a4_48 : decode cJ6_bitCount_0f7a4 48 = .ok (.iload_n 0, 1) := by decide +kernel
theorem dJ6_bitCount_0f7a4_49 : decode cJ6_bitCount_0f7a4 49 = .ok (.bipush 63, 2) := by decide +kernel
theorem dJ6_bitCount_0f7a4_51 : decode cJ6_bitCount_0f7a4 51 = .ok (.iand, 1) := by decide +kernel
theorem dJ6_bitCount_0f7a4_52 : decode cJ6_bitCount_0f7a4 52 = .ok (.ireturn, 1) := by decide +kernel
theorem dJ9_abs_0f7a4_0 : decode cJ9_abs_0f7a4 0 = .ok (.iload_n 0, 1) := by decide +kernel
theorem dJ9_abs_0f7a4_1 : decode cJ9_abs_0f7a4 1 = .ok (.ifCond .ge 8, 3) := by decide +kernel
theorem dJ9_abs_0f7a4_4 : decode cJ9_abs_0f7a4 4 = .ok (.iload_n 0, 1) := by decide +kernel
theorem dJ9_abs_0f7a4_5 : decode cJ9_abs_0f7a4 5 = .ok (.ineg, 1) := by decide +kernel
theorem dJ9_abs_0f7a4_6 : decode cJ9_abs_0f7a4 6 = .ok (.goto 4, 3) := by decide +kernel
theorem dJ9_abs_0f7a4_9 : decode cJ9_abs_0f7a4 9 = .ok (.iload_n 0, 1) := by decide +kernel
theorem dJ9_abs_0f7a4_10 : decode cJ9_abs_0f7a4 10 = .ok (.ireturn, 1) := by decide +kernel
theorem dJ9_max_7cf53_0 : decode cJ9_max_7cf53 0 = .ok (.iload_n 0, 1) := by decide +kernel
theorem dJ9_max_7cf53_1 : decode cJ9_max_7cf53 1 = .ok (.iload_n 1, 1) := by decide +kernel
theorem dJ9_max_7cf53_2 : decode cJ9_max_7cf53 2 = .ok (.if_icmp .lt 7, 3) := by decide +kernel
theorem dJ9_max_7cf53_5 : decode cJ9_max_7cf53 5 = .ok (.iload_n 0, 1) := by decide +kernel
theorem dJ9_max_7cf53_6 : decode cJ9_max_7cf53 6 = .ok (.goto 4, 3) := by decide +kernel
theorem dJ9_max_7cf53_9 : decode cJ9_max_7cf53 9 = .ok (.iload_n 1, 1) := by decide +kernel
theorem dJ9_max_7cf53_10 : decode cJ9_max_7cf53 10 = .ok (.ireturn, 1) := by decide +kernel
theorem dJ9_min_7cf53_0 : decode cJ9_min_7cf53 0 = .ok (.iload_n 0, 1) := by decide +kernel
theorem dJ9_min_7cf53_1 : decode cJ9_min_7cf53 1 = .ok (.iload_n 1, 1) := by decide +kernel
theorem dJ9_min_7cf53_2 : decode cJ9_min_7cf53 2 = .ok (.if_icmp .gt 7, 3) := by decide +kernel
theorem dJ9_min_7cf53_5 : decode cJ9_min_7cf53 5 = .ok (.iload_n 0, 1) := by decide +kernel
theorem dJ9_min_7cf53_6 : decode cJ9_min_7cf53 6 = .ok (.goto 4, 3) := by decide +kernel
theorem dJ9_min_7cf53_9 : decode cJ9_min_7cf53 9 = .ok (.iload_n 1, 1) := by decide +kernel
theorem dJ9_min_7cf53_10 : decode cJ9_min_7cf53 10 = .ok (.ireturn, 1) := by decide +kernel
end
section
theorem dX10_init_0 : decode cX10_init 0 = .ok (.aload_n 0, 1) := by decide +kernel
theorem dX10_init_1 : decode cX10_init 1 = .ok (.invokespecial 1, 3) := by decide +kernel
theorem dX10_init_4 : decode cX10_init 4 = .ok (.aload_n 0, 1) := by decide +kernel
theorem dX10_init_5 : decode cX10_init 5 = .ok (.new 7, 3) := by decide +kernel
theorem dX10_init_8 : decode cX10_init 8 = .ok (.dup, 1) := by decide +kernel
theorem dX10_init_9 : decode cX10_init 9 = .ok (.invokespecial 9, 3) := by decide +kernel
theorem dX10_init_12 : decode cX10_init 12 = .ok (.putfield 10, 3) := by decide +kernel
theorem dX10_init_15 : decode cX10_init 15 = .ok (.aload_n 0, 1) := by decide +kernel
theorem dX10_init_16 : decode cX10_init 16 = .ok (.new 16, 3) := by decide +kernel
theorem dX10_init_19 : decode cX10_init 19 = .ok (.dup, 1) := by decide +kernel
theorem dX10_init_20 : decode cX10_init 20 = .ok (.invokespecial 18, 3) := by decide +kernel
theorem dX10_init_23 : decode cX10_init 23 = .ok (.putfield 19, 3) := by decide +kernel
theorem dX10_init_26 : decode cX10_init 26 = .ok (.aload_n 0, 1) := by decide +kernel
theorem dX10_init_27 : decode cX10_init 27 = .ok (.new 23, 3) := by decide +kernel
theorem dX10_init_30 : decode cX10_init 30 = .ok (.dup, 1) := by decide +kernel
theorem dX10_init_31 : decode cX10_init 31 = .ok (.invokespecial 25, 3) := by decide +kernel
theorem dX10_init_34 : decode cX10_init 34 = .ok (.putfield 26, 3) := by decide +kernel
theorem dX10_init_37 : decode cX10_init 37 = .ok (.aload_n 0, 1) := by decide +kernel
theorem dX10_init_38 : decode cX10_init 38 = .ok (.iconst 2, 1) := by decide +kernel
theorem dX10_init_39 : decode cX10_init 39 = .ok (.anewarray 23, 3) := by decide +kernel
theorem dX10_init_42 : decode cX10_init 42 = .ok (.dup, 1) := by decide +kernel
theorem dX10_init_43 : decode cX10_init 43 = .ok (.iconst 0, 1) := by decide +kernel
theorem dX10_init_44 : decode cX10_init 44 = .ok (.new 23, 3) := by decide +kernel
theorem dX10_init_47 : decode cX10_init 47 = .ok (.dup, 1) := by decide +kernel
theorem dX10_init_48 : decode cX10_init 48 = .ok (.invokespecial 25, 3) := by decide +kernel
theorem dX10_init_51 : decode cX10_init 51 = .ok (.aastore, 1) := by decide +kernel
theorem dX10_init_52 : decode cX10_init 52 = .ok (.dup, 1) := by decide +kernel
theorem dX10_init_53 : decode cX10_init 53 = .ok (.iconst 1, 1) := by decide +kernel
theorem dX10_init_54 : decode cX10_init 54 = .ok (.new 23, 3) := by decide +kernel
theorem dX10_init_57 : decode cX10_init 57 = .ok (.dup, 1) := by decide +kernel
theorem dX10_init_58 : decode cX10_init 58 = .ok (.invokespecial 25, 3) := by decide +kernel
theorem dX10_init_61 : decode cX10_init 61 = .ok (.aastore, 1) := by decide +kernel
theorem dX10_init_62 : decode cX10_init 62 = .ok (.putfield 30, 3) := by decide +kernel
theorem dX10_init_65 : decode cX10_init 65 = .ok (.aload_n 0, 1) := by decide +kernel
theorem dX10_init_66 : decode cX10_init 66 = .ok (.iconst 2, 1) := by decide +kernel
theorem dX10_init_67 : decode cX10_init 67 = .ok (.newarray .boolean, 2) := by decide +kernel
theorem dX10_init_69 : decode cX10_init 69 = .ok (.putfield 34, 3) := by decide +kernel
theorem dX10_init_72 : decode cX10_init 72 = .ok (.aload_n 0, 1) := by decide +kernel
theorem dX10_init_73 : decode cX10_init 73 = .ok (.bipush 6, 2) := by decide +kernel
theorem dX10_init_75 : decode cX10_init 75 = .ok (.anewarray 38, 3) := by decide +kernel
theorem dX10_init_78 : decode cX10_init 78 = .ok (.dup, 1) := by decide +kernel
theorem dX10_init_79 : decode cX10_init 79 = .ok (.iconst 0, 1) := by decide +kernel
theorem dX10_init_80 : decode cX10_init 80 = .ok (.new 38, 3) := by decide +kernel
theorem dX10_init_83 : decode cX10_init 83 = .ok (.dup, 1) := by decide +kernel
theorem dX10_init_84 : decode cX10_init 84 = .ok (.invokespecial 40, 3) := by decide +kernel
theorem dX10_init_87 : decode cX10_init 87 = .ok (.aastore, 1) := by decide +kernel
theorem dX10_init_88 : decode cX10_init 88 = .ok (.dup, 1) := by decide +kernel
theorem dX10_init_89 : decode cX10_init 89 = .ok (.iconst 1, 1) := by decide +kernel
theorem dX10_init_90 : decode cX10_init 90 = .ok (.new 41, 3) := by decide +kernel
theorem dX10_init_93 : decode cX10_init 93 = .ok (.dup, 1) := by decide +kernel
theorem dX10_init_94 : decode cX10_init 94 = .ok (.invokespecial 43, 3) := by decide +kernel
theorem dX10_init_97 : decode cX10_init 97 = .ok (.aastore, 1) := by decide +kernel
theorem dX10_init_98 : decode cX10_init 98 = .ok (.dup, 1) := by decide +kernel
theorem dX10_init_99 : decode cX10_init 99 = .ok (.iconst 2, 1) := by decide +kernel
theorem dX10_init_100 : decode cX10_init 100 = .ok (.new 44, 3) := by decide +kernel
theorem dX10_init_103 : decode cX10_init 103 = .ok (.dup, 1) := by decide +kernel
theorem dX10_init_104 : decode cX10_init 104 = .ok (.invokespecial 46, 3) := by decide +kernel
theorem dX10_init_107 : decode cX10_init 107 = .ok (.aastore, 1) := by decide +kernel
theorem dX10_init_108 : decode cX10_init 108 = .ok (.dup, 1) := by decide +kernel
theorem dX10_init_109 : decode cX10_init 109 = .ok (.iconst 3, 1) := by decide +kernel
theorem dX10_init_110 : decode cX10_init 110 = .ok (.new 47, 3) := by decide +kernel
theorem dX10_init_113 : decode cX10_init 113 = .ok (.dup, 1) := by decide +kernel
theorem dX10_init_114 : decode cX10_init 114 = .ok (.invokespecial 49, 3) := by decide +kernel
theorem dX10_init_117 : decode cX10_init 117 = .ok (.aastore, 1) := by decide +kernel
theorem dX10_init_118 : decode cX10_init 118 = .ok (.dup, 1) := by decide +kernel
theorem dX10_init_119 : decode cX10_init 119 = .ok (.iconst 4, 1) := by decide +kernel
theorem dX10_init_120 : decode cX10_init 120 = .ok (.new 50, 3) := by decide +kernel
theorem dX10_init_123 : decode cX10_init 123 = .ok (.dup, 1) := by decide +kernel
theorem dX10_init_124 : decode cX10_init 124 = .ok (.invokespecial 52, 3) := by decide +kernel
theorem dX10_init_127 : decode cX10_init 127 = .ok (.aastore, 1) := by decide +kernel
theorem dX10_init_128 : decode cX10_init 128 = .ok (.dup, 1) := by decide +kernel
theorem dX10_init_129 : decode cX10_init 129 = .ok (.iconst 5, 1) := by decide +kernel
theorem dX10_init_130 : decode cX10_init 130 = .ok (.new 53, 3) := by decide +kernel
theorem dX10_init_133 : decode cX10_init 133 = .ok (.dup, 1) := by decide +kernel
theorem dX10_init_134 : decode cX10_init 134 = .ok (.invokespecial 55, 3) := by decide +kernel
theorem dX10_init_137 : decode cX10_init 137 = .ok (.aastore, 1) := by decide +kernel
theorem dX10_init_138 : decode cX10_init 138 = .ok (.putfield 56, 3) := by decide +kernel
theorem dX10_init_141 : decode cX10_init 141 = .ok (.aload_n 0, 1) := by decide +kernel
theorem dX10_init_142 : decode cX10_init 142 = .ok (.bipush 8, 2) := by decide +kernel
theorem dX10_init_144 : decode cX10_init 144 = .ok (.newarray .int, 2) := by decide +kernel
theorem dX10_init_146 : decode cX10_init 146 = .ok (.putfield 60, 3) := by decide +kernel
theorem dX10_init_149 : decode cX10_init 149 = .ok (.aload_n 0, 1) := by decide +kernel
theorem dX10_init_150 : decode cX10_init 150 = .ok (.bipush 6, 2) := by decide +kernel
theorem dX10_init_152 : decode cX10_init 152 = .ok (.newarray .int, 2) := by decide +kernel
theorem dX10_init_154 : decode cX10_init 154 = .ok (.putfield 64, 3) := by decide +kernel
theorem dX10_init_157 : decode cX10_init 157 = .ok (.aload_n 0, 1) := by decide +kernel
theorem dX10_init_158 : decode cX10_init 158 = .ok (.bipush 6, 2) := by decide +kernel
theorem dX10_init_160 : decode cX10_init 160 = .ok (.newarray .int, 2) := by decide +kernel
theorem dX10_init_162 : decode cX10_init 162 = .ok (.putfield 67, 3) := by decide +kernel
theorem dX10_init_165 : decode cX10_init 165 = .ok (.aload_n 0, 1) := by decide +kernel
theorem dX10_init_166 : decode cX10_init 166 = .ok (.new 70, 3) := by decide +kernel
theorem dX10_init_169 : decode cX10_init 169 = .ok (.dup, 1) := by decide +kernel
theorem dX10_init_170 : decode cX10_init 170 = .ok (.invokespecial 72, 3) := by decide +kernel
theorem dX10_init_173 : decode cX10_init 173 = .ok (.putfield 73, 3) := by decide +kernel
theorem dX10_init_176 : decode cX10_init 176 = .ok (.aload_n 0, 1) := by decide +kernel
theorem dX10_init_177 : decode cX10_init 177 = .ok (.new 70, 3) := by decide +kernel
theorem dX10_init_180 : decode cX10_init 180 = .ok (.dup, 1) := by decide +kernel
theorem dX10_init_181 : decode cX10_init 181 = .ok (.invokespecial 72, 3) := by decide +kernel
theorem dX10_init_184 : decode cX10_init 184 = .ok (.putfield 77, 3) := by decide +kernel
theorem dX10_init_187 : decode cX10_init 187 = .ok (.aload_n 0, 1) := by decide +kernel
theorem dX10_init_188 : decode cX10_init 188 = .ok (.getfield 73, 3) := by decide +kernel
theorem dX10_init_191 : decode cX10_init 191 = .ok (.invokevirtual 80, 3) := by decide +kernel
theorem dX10_init_194 : decode cX10_init 194 = .ok (.aload_n 0, 1) := by decide +kernel
theorem dX10_init_195 : decode cX10_init 195 = .ok (.getfield 26, 3) := by decide +kernel
theorem dX10_init_198 : decode cX10_init 198 = .ok (.aload_n 0, 1) := by decide +kernel
theorem dX10_init_199 : decode cX10_init 199 = .ok (.getfield 73, 3) := by decide +kernel
theorem dX10_init_202 : decode cX10_init 202 = .ok (.getfield 83, 3) := by decide +kernel
theorem dX10_init_205 : decode cX10_init 205 = .ok (.invokevirtual 87, 3) := by decide +kernel
theorem dX10_init_208 : decode cX10_init 208 = .ok (.return_, 1) := by decide +kernel
theorem dX10_type_0 : decode cX10_type 0 = .ok (.iload_n 1, 1) := by decide +kernel
theorem dX10_type_1 : decode cX10_type 1 = .ok (.iconst 0, 1) := by decide +kernel
theorem dX10_type_2 : decode cX10_type 2 = .ok (.sipush 255, 3) := by decide +kernel
theorem dX10_type_5 : decode cX10_type 5 = .ok (.invokestatic 90, 3) := by decide +kernel
theorem dX10_type_8 : decode cX10_type 8 = .ok (.ifCond .ne 5, 3) := by decide +kernel
theorem dX10_type_11 : decode cX10_type 11 = .ok (.iconst (-1), 1) := by decide +kernel
theorem dX10_type_12 : decode cX10_type 12 = .ok (.ireturn, 1) := by decide +kernel
theorem dX10_type_13 : decode cX10_type 13 = .ok (.aload_n 0, 1) := by decide +kernel
theorem dX10_type_14 : decode cX10_type 14 = .ok (.getfield 10, 3) := by decide +kernel
theorem dX10_type_17 : decode cX10_type 17 = .ok (.getfield 94, 3) := by decide +kernel
theorem dX10_type_20 : decode cX10_type 20 = .ok (.sipush 200, 3) := by decide +kernel
theorem dX10_type_23 : decode cX10_type 23 = .ok (.if_icmp .lt 6, 3) := by decide +kernel
theorem dX10_type_26 : decode cX10_type 26 = .ok (.bipush (-3), 2) := by decide +kernel
theorem dX10_type_28 : decode cX10_type 28 = .ok (.ireturn, 1) := by decide +kernel
theorem dX10_type_29 : decode cX10_type 29 = .ok (.aload_n 0, 1) := by decide +kernel
theorem dX10_type_30 : decode cX10_type 30 = .ok (.getfield 10, 3) := by decide +kernel
theorem dX10_type_33 : decode cX10_type 33 = .ok (.getfield 97, 3) := by decide +kernel
theorem dX10_type_36 : decode cX10_type 36 = .ok (.aload_n 0, 1) := by decide +kernel
theorem dX10_type_37 : decode cX10_type 37 = .ok (.getfield 10, 3) := by decide +kernel
theorem dX10_type_40 : decode cX10_type 40 = .ok (.getfield 94, 3) := by decide +kernel
theorem dX10_type_43 : decode cX10_type 43 = .ok (.iload_n 1, 1) := by decide +kernel
theorem dX10_type_44 : decode cX10_type 44 = .ok (.iastore, 1) := by decide +kernel
theorem dX10_type_45 : decode cX10_type 45 = .ok (.aload_n 0, 1) := by decide +kernel
theorem dX10_type_46 : decode cX10_type 46 = .ok (.getfield 10, 3) := by decide +kernel
theorem dX10_type_49 : decode cX10_type 49 = .ok (.dup, 1) := by decide +kernel
theorem dX10_type_50 : decode cX10_type 50 = .ok (.getfield 94, 3) := by decide +kernel
theorem dX10_type_53 : decode cX10_type 53 = .ok (.iconst 1, 1) := by decide +kernel
theorem dX10_type_54 : decode cX10_type 54 = .ok (.iadd, 1) := by decide +kernel
theorem dX10_type_55 : decode cX10_type 55 = .ok (.putfield 94, 3) := by decide +kernel
theorem dX10_type_58 : decode cX10_type 58 = .ok (.aload_n 0, 1) := by decide +kernel
theorem dX10_type_59 : decode cX10_type 59 = .ok (.getfield 10, 3) := by decide +kernel
theorem dX10_type_62 : decode cX10_type 62 = .ok (.getfield 94, 3) := by decide +kernel
theorem dX10_type_65 : decode cX10_type 65 = .ok (.ireturn, 1) := by decide +kernel
theorem dX10_clear_0 : decode cX10_clear 0 = .ok (.aload_n 0, 1) := by decide +kernel
theorem dX10_clear_1 : decode cX10_clear 1 = .ok (.getfield 10, 3) := by decide +kernel
theorem dX10_clear_4 : decode cX10_clear 4 = .ok (.getfield 94, 3) := by decide +kernel
theorem dX10_clear_7 : decode cX10_clear 7 = .ok (.istore_n 1, 1) := by decide +kernel
theorem dX10_clear_8 : decode cX10_clear 8 = .ok (.aload_n 0, 1) := by decide +kernel
theorem dX10_clear_9 : decode cX10_clear 9 = .ok (.getfield 10, 3) := by decide +kernel
theorem dX10_clear_12 : decode cX10_clear 12 = .ok (.iconst 0, 1) := by decide +kernel
theorem dX10_clear_13 : decode cX10_clear 13 = .ok (.putfield 94, 3) := by decide +kernel
theorem dX10_clear_16 : decode cX10_clear 16 = .ok (.iload_n 1, 1) := by decide +kernel
theorem dX10_clear_17 : decode cX10_clear 17 = .ok (.ireturn, 1) := by decide +kernel
theorem dX10_court_0 : decode cX10_court 0 = .ok (.aload_n 0, 1) := by decide +kernel
theorem dX10_court_1 : decode cX10_court 1 = .ok (.getfield 10, 3) := by decide +kernel
theorem dX10_court_4 : decode cX10_court 4 = .ok (.aload_n 0, 1) := by decide +kernel
theorem dX10_court_5 : decode cX10_court 5 = .ok (.getfield 77, 3) := by decide +kernel
theorem dX10_court_8 : decode cX10_court 8 = .ok (.invokevirtual 100, 3) := by decide +kernel
theorem dX10_court_11 : decode cX10_court 11 = .ok (.istore_n 1, 1) := by decide +kernel
theorem dX10_court_12 : decode cX10_court 12 = .ok (.iload_n 1, 1) := by decide +kernel
theorem dX10_court_13 : decode cX10_court 13 = .ok (.ifCond .ge 5, 3) := by decide +kernel
theorem dX10_court_16 : decode cX10_court 16 = .ok (.iload_n 1, 1) := by decide +kernel
theorem dX10_court_17 : decode cX10_court 17 = .ok (.ireturn, 1) := by decide +kernel
theorem dX10_court_18 : decode cX10_court 18 = .ok (.aload_n 0, 1) := by decide +kernel
theorem dX10_court_19 : decode cX10_court 19 = .ok (.getfield 73, 3) := by decide +kernel
theorem dX10_court_22 : decode cX10_court 22 = .ok (.astore_n 2, 1) := by decide +kernel
theorem dX10_court_23 : decode cX10_court 23 = .ok (.aload_n 0, 1) := by decide +kernel
theorem dX10_court_24 : decode cX10_court 24 = .ok (.aload_n 0, 1) := by decide +kernel
theorem dX10_court_25 : decode cX10_court 25 = .ok (.getfield 77, 3) := by decide +kernel
theorem dX10_court_28 : decode cX10_court 28 = .ok (.putfield 73, 3) := by decide +kernel
theorem dX10_court_31 : decode cX10_court 31 = .ok (.aload_n 0, 1) := by decide +kernel
theorem dX10_court_32 : decode cX10_court 32 = .ok (.aload_n 2, 1) := by decide +kernel
theorem dX10_court_33 : decode cX10_court 33 = .ok (.putfield 77, 3) := by decide +kernel
theorem dX10_court_36 : decode cX10_court 36 = .ok (.aload_n 0, 1) := by decide +kernel
theorem dX10_court_37 : decode cX10_court 37 = .ok (.getfield 10, 3) := by decide +kernel
theorem dX10_court_40 : decode cX10_court 40 = .ok (.iconst 0, 1) := by decide +kernel
theorem dX10_court_41 : decode cX10_court 41 = .ok (.putfield 94, 3) := by decide +kernel
theorem dX10_court_44 : decode cX10_court 44 = .ok (.aload_n 0, 1) := by decide +kernel
theorem dX10_court_45 : decode cX10_court 45 = .ok (.getfield 26, 3) := by decide +kernel
theorem dX10_court_48 : decode cX10_court 48 = .ok (.aload_n 0, 1) := by decide +kernel
theorem dX10_court_49 : decode cX10_court 49 = .ok (.getfield 73, 3) := by decide +kernel
theorem dX10_court_52 : decode cX10_court 52 = .ok (.getfield 83, 3) := by decide +kernel
theorem dX10_court_55 : decode cX10_court 55 = .ok (.invokevirtual 87, 3) := by decide +kernel
theorem dX10_court_58 : decode cX10_court 58 = .ok (.aload_n 0, 1) := by decide +kernel
theorem dX10_court_59 : decode cX10_court 59 = .ok (.iconst 0, 1) := by decide +kernel
theorem dX10_court_60 : decode cX10_court 60 = .ok (.putfield 104, 3) := by decide +kernel
theorem dX10_court_63 : decode cX10_court 63 = .ok (.iconst 0, 1) := by decide +kernel
theorem dX10_court_64 : decode cX10_court 64 = .ok (.istore_n 3, 1) := by decide +kernel
theorem dX10_court_65 : decode cX10_court 65 = .ok (.iload_n 3, 1) := by decide +kernel
theorem dX10_court_66 : decode cX10_court 66 = .ok (.iconst 2, 1) := by decide +kernel
theorem dX10_court_67 : decode cX10_court 67 = .ok (.if_icmp .ge 16, 3) := by decide +kernel
theorem dX10_court_70 : decode cX10_court 70 = .ok (.aload_n 0, 1) := by decide +kernel
theorem dX10_court_71 : decode cX10_court 71 = .ok (.getfield 34, 3) := by decide +kernel
theorem dX10_court_74 : decode cX10_court 74 = .ok (.iload_n 3, 1) := by decide +kernel
theorem dX10_court_75 : decode cX10_court 75 = .ok (.iconst 0, 1) := by decide +kernel
theorem dX10_court_76 : decode cX10_court 76 = .ok (.bastore, 1) := by decide +kernel
theorem dX10_court_77 : decode cX10_court 77 = .ok (.iinc 3 1, 3) := by decide +kernel
theorem dX10_court_80 : decode cX10_court 80 = .ok (.goto (-15), 3) := by decide +kernel
theorem dX10_court_83 : decode cX10_court 83 = .ok (.iload_n 1, 1) := by decide +kernel
theorem dX10_court_84 : decode cX10_court 84 = .ok (.ireturn, 1) := by decide +kernel
theorem dX10_suspect_0 : decode cX10_suspect 0 = .ok (.aload_n 0, 1) := by decide +kernel
theorem dX10_suspect_1 : decode cX10_suspect 1 = .ok (.iload_n 1, 1) := by decide +kernel
theorem dX10_suspect_2 : decode cX10_suspect 2 = .ok (.invokevirtual 107, 3) := by decide +kernel
theorem dX10_suspect_5 : decode cX10_suspect 5 = .ok (.ifCond .eq 12, 3) := by decide +kernel
theorem dX10_suspect_8 : decode cX10_suspect 8 = .ok (.iload_n 2, 1) := by decide +kernel
theorem dX10_suspect_9 : decode cX10_suspect 9 = .ok (.iconst 0, 1) := by decide +kernel
theorem dX10_suspect_10 : decode cX10_suspect 10 = .ok (.iconst 3, 1) := by decide +kernel
theorem dX10_suspect_11 : decode cX10_suspect 11 = .ok (.invokestatic 90, 3) := by decide +kernel
theorem dX10_suspect_14 : decode cX10_suspect 14 = .ok (.ifCond .ne 5, 3) := by decide +kernel
theorem dX10_suspect_17 : decode cX10_suspect 17 = .ok (.iconst (-1), 1) := by decide +kernel
theorem dX10_suspect_18 : decode cX10_suspect 18 = .ok (.ireturn, 1) := by decide +kernel
theorem dX10_suspect_19 : decode cX10_suspect 19 = .ok (.aload_n 0, 1) := by decide +kernel
theorem dX10_suspect_20 : decode cX10_suspect 20 = .ok (.invokevirtual 111, 3) := by decide +kernel
theorem dX10_suspect_23 : decode cX10_suspect 23 = .ok (.iload_n 2, 1) := by decide +kernel
theorem dX10_suspect_24 : decode cX10_suspect 24 = .ok (.tableswitch 58 0 2 #[28, 38, 48], 28) := by decide +kernel
theorem dX10_suspect_52 : decode cX10_suspect 52 = .ok (.aload_n 0, 1) := by decide +kernel
theorem dX10_suspect_53 : decode cX10_suspect 53 = .ok (.getfield 73, 3) := by decide +kernel
theorem dX10_suspect_56 : decode cX10_suspect 56 = .ok (.getfield 114, 3) := by decide +kernel
theorem dX10_suspect_59 : decode cX10_suspect 59 = .ok (.iload_n 1, 1) := by decide +kernel
theorem dX10_suspect_60 : decode cX10_suspect 60 = .ok (.iaload, 1) := by decide +kernel
theorem dX10_suspect_61 : decode cX10_suspect 61 = .ok (.ireturn, 1) := by decide +kernel
theorem dX10_suspect_62 : decode cX10_suspect 62 = .ok (.aload_n 0, 1) := by decide +kernel
theorem dX10_suspect_63 : decode cX10_suspect 63 = .ok (.getfield 19, 3) := by decide +kernel
theorem dX10_suspect_66 : decode cX10_suspect 66 = .ok (.getfield 117, 3) := by decide +kernel
theorem dX10_suspect_69 : decode cX10_suspect 69 = .ok (.iload_n 1, 1) := by decide +kernel
theorem dX10_suspect_70 : decode cX10_suspect 70 = .ok (.iaload, 1) := by decide +kernel
theorem dX10_suspect_71 : decode cX10_suspect 71 = .ok (.ireturn, 1) := by decide +kernel
theorem dX10_suspect_72 : decode cX10_suspect 72 = .ok (.aload_n 0, 1) := by decide +kernel
theorem dX10_suspect_73 : decode cX10_suspect 73 = .ok (.getfield 19, 3) := by decide +kernel
theorem dX10_suspect_76 : decode cX10_suspect 76 = .ok (.getfield 120, 3) := by decide +kernel
theorem dX10_suspect_79 : decode cX10_suspect 79 = .ok (.iload_n 1, 1) := by decide +kernel
theorem dX10_suspect_80 : decode cX10_suspect 80 = .ok (.iaload, 1) := by decide +kernel
theorem dX10_suspect_81 : decode cX10_suspect 81 = .ok (.ireturn, 1) := by decide +kernel
theorem dX10_suspect_82 : decode cX10_suspect 82 = .ok (.aload_n 0, 1) := by decide +kernel
theorem dX10_suspect_83 : decode cX10_suspect 83 = .ok (.getfield 19, 3) := by decide +kernel
theorem dX10_suspect_86 : decode cX10_suspect 86 = .ok (.getfield 123, 3) := by decide +kernel
theorem dX10_suspect_89 : decode cX10_suspect 89 = .ok (.iload_n 1, 1) := by decide +kernel
theorem dX10_suspect_90 : decode cX10_suspect 90 = .ok (.iaload, 1) := by decide +kernel
theorem dX10_suspect_91 : decode cX10_suspect 91 = .ok (.ireturn, 1) := by decide +kernel
theorem dX10_fact_0 : decode cX10_fact 0 = .ok (.aload_n 0, 1) := by decide +kernel
theorem dX10_fact_1 : decode cX10_fact 1 = .ok (.iload_n 1, 1) := by decide +kernel
theorem dX10_fact_2 : decode cX10_fact 2 = .ok (.invokevirtual 126, 3) := by decide +kernel
theorem dX10_fact_5 : decode cX10_fact 5 = .ok (.ifCond .eq 12, 3) := by decide +kernel
theorem dX10_fact_8 : decode cX10_fact 8 = .ok (.iload_n 2, 1) := by decide +kernel
theorem dX10_fact_9 : decode cX10_fact 9 = .ok (.iconst 0, 1) := by decide +kernel
theorem dX10_fact_10 : decode cX10_fact 10 = .ok (.iconst 2, 1) := by decide +kernel
theorem dX10_fact_11 : decode cX10_fact 11 = .ok (.invokestatic 90, 3) := by decide +kernel
theorem dX10_fact_14 : decode cX10_fact 14 = .ok (.ifCond .ne 5, 3) := by decide +kernel
theorem dX10_fact_17 : decode cX10_fact 17 = .ok (.iconst (-1), 1) := by decide +kernel
theorem dX10_fact_18 : decode cX10_fact 18 = .ok (.ireturn, 1) := by decide +kernel
theorem dX10_fact_19 : decode cX10_fact 19 = .ok (.iload_n 2, 1) := by decide +kernel
theorem dX10_fact_20 : decode cX10_fact 20 = .ok (.lookupswitch 48 #[(0, 28), (1, 38)], 28) := by decide +kernel
theorem dX10_fact_48 : decode cX10_fact 48 = .ok (.aload_n 0, 1) := by decide +kernel
theorem dX10_fact_49 : decode cX10_fact 49 = .ok (.getfield 73, 3) := by decide +kernel
theorem dX10_fact_52 : decode cX10_fact 52 = .ok (.getfield 129, 3) := by decide +kernel
theorem dX10_fact_55 : decode cX10_fact 55 = .ok (.iload_n 1, 1) := by decide +kernel
theorem dX10_fact_56 : decode cX10_fact 56 = .ok (.iaload, 1) := by decide +kernel
theorem dX10_fact_57 : decode cX10_fact 57 = .ok (.ireturn, 1) := by decide +kernel
theorem dX10_fact_58 : decode cX10_fact 58 = .ok (.aload_n 0, 1) := by decide +kernel
theorem dX10_fact_59 : decode cX10_fact 59 = .ok (.getfield 73, 3) := by decide +kernel
theorem dX10_fact_62 : decode cX10_fact 62 = .ok (.getfield 132, 3) := by decide +kernel
theorem dX10_fact_65 : decode cX10_fact 65 = .ok (.iload_n 1, 1) := by decide +kernel
theorem dX10_fact_66 : decode cX10_fact 66 = .ok (.iaload, 1) := by decide +kernel
theorem dX10_fact_67 : decode cX10_fact 67 = .ok (.ireturn, 1) := by decide +kernel
theorem dX10_fact_68 : decode cX10_fact 68 = .ok (.aload_n 0, 1) := by decide +kernel
theorem dX10_fact_69 : decode cX10_fact 69 = .ok (.getfield 26, 3) := by decide +kernel
theorem dX10_fact_72 : decode cX10_fact 72 = .ok (.getfield 135, 3) := by decide +kernel
theorem dX10_fact_75 : decode cX10_fact 75 = .ok (.iload_n 1, 1) := by decide +kernel
theorem dX10_fact_76 : decode cX10_fact 76 = .ok (.invokestatic 138, 3) := by decide +kernel
theorem dX10_fact_79 : decode cX10_fact 79 = .ok (.ireturn, 1) := by decide +kernel
theorem dX10_moves_0 : decode cX10_moves 0 = .ok (.aload_n 0, 1) := by decide +kernel
theorem dX10_moves_1 : decode cX10_moves 1 = .ok (.iload_n 1, 1) := by decide +kernel
theorem dX10_moves_2 : decode cX10_moves 2 = .ok (.invokevirtual 126, 3) := by decide +kernel
theorem dX10_moves_5 : decode cX10_moves 5 = .ok (.ifCond .eq 11, 3) := by decide +kernel
theorem dX10_moves_8 : decode cX10_moves 8 = .ok (.aload_n 0, 1) := by decide +kernel
theorem dX10_moves_9 : decode cX10_moves 9 = .ok (.iload_n 2, 1) := by decide +kernel
theorem dX10_moves_10 : decode cX10_moves 10 = .ok (.invokevirtual 107, 3) := by decide +kernel
theorem dX10_moves_13 : decode cX10_moves 13 = .ok (.ifCond .ne 6, 3) := by decide +kernel
theorem dX10_moves_16 : decode cX10_moves 16 = .ok (.ldc 142, 2) := by decide +kernel
theorem dX10_moves_18 : decode cX10_moves 18 = .ok (.ireturn, 1) := by decide +kernel
theorem dX10_moves_19 : decode cX10_moves 19 = .ok (.aload_n 0, 1) := by decide +kernel
theorem dX10_moves_20 : decode cX10_moves 20 = .ok (.getfield 73, 3) := by decide +kernel
theorem dX10_moves_23 : decode cX10_moves 23 = .ok (.getfield 143, 3) := by decide +kernel
theorem dX10_moves_26 : decode cX10_moves 26 = .ok (.iload_n 1, 1) := by decide +kernel
theorem dX10_moves_27 : decode cX10_moves 27 = .ok (.bipush 6, 2) := by decide +kernel
theorem dX10_moves_29 : decode cX10_moves 29 = .ok (.imul, 1) := by decide +kernel
theorem dX10_moves_30 : decode cX10_moves 30 = .ok (.iload_n 2, 1) := by decide +kernel
theorem dX10_moves_31 : decode cX10_moves 31 = .ok (.iadd, 1) := by decide +kernel
theorem dX10_moves_32 : decode cX10_moves 32 = .ok (.iaload, 1) := by decide +kernel
theorem dX10_moves_33 : decode cX10_moves 33 = .ok (.ireturn, 1) := by decide +kernel
theorem dX10_alibi_0 : decode cX10_alibi 0 = .ok (.aload_n 0, 1) := by decide +kernel
theorem dX10_alibi_1 : decode cX10_alibi 1 = .ok (.iload_n 1, 1) := by decide +kernel
theorem dX10_alibi_2 : decode cX10_alibi 2 = .ok (.invokevirtual 146, 3) := by decide +kernel
theorem dX10_alibi_5 : decode cX10_alibi 5 = .ok (.ifCond .eq 12, 3) := by decide +kernel
theorem dX10_alibi_8 : decode cX10_alibi 8 = .ok (.iload_n 2, 1) := by decide +kernel
theorem dX10_alibi_9 : decode cX10_alibi 9 = .ok (.iconst 0, 1) := by decide +kernel
theorem dX10_alibi_10 : decode cX10_alibi 10 = .ok (.iconst 4, 1) := by decide +kernel
theorem dX10_alibi_11 : decode cX10_alibi 11 = .ok (.invokestatic 90, 3) := by decide +kernel
theorem dX10_alibi_14 : decode cX10_alibi 14 = .ok (.ifCond .ne 5, 3) := by decide +kernel
theorem dX10_alibi_17 : decode cX10_alibi 17 = .ok (.iconst (-1), 1) := by decide +kernel
theorem dX10_alibi_18 : decode cX10_alibi 18 = .ok (.ireturn, 1) := by decide +kernel
theorem dX10_alibi_19 : decode cX10_alibi 19 = .ok (.iload_n 2, 1) := by decide +kernel
theorem dX10_alibi_20 : decode cX10_alibi 20 = .ok (.tableswitch 72 0 3 #[32, 42, 52, 62], 32) := by decide +kernel
theorem dX10_alibi_52 : decode cX10_alibi 52 = .ok (.aload_n 0, 1) := by decide +kernel
theorem dX10_alibi_53 : decode cX10_alibi 53 = .ok (.getfield 73, 3) := by decide +kernel
theorem dX10_alibi_56 : decode cX10_alibi 56 = .ok (.getfield 149, 3) := by decide +kernel
theorem dX10_alibi_59 : decode cX10_alibi 59 = .ok (.iload_n 1, 1) := by decide +kernel
theorem dX10_alibi_60 : decode cX10_alibi 60 = .ok (.iaload, 1) := by decide +kernel
theorem dX10_alibi_61 : decode cX10_alibi 61 = .ok (.ireturn, 1) := by decide +kernel
theorem dX10_alibi_62 : decode cX10_alibi 62 = .ok (.aload_n 0, 1) := by decide +kernel
theorem dX10_alibi_63 : decode cX10_alibi 63 = .ok (.getfield 73, 3) := by decide +kernel
theorem dX10_alibi_66 : decode cX10_alibi 66 = .ok (.getfield 152, 3) := by decide +kernel
theorem dX10_alibi_69 : decode cX10_alibi 69 = .ok (.iload_n 1, 1) := by decide +kernel
theorem dX10_alibi_70 : decode cX10_alibi 70 = .ok (.iaload, 1) := by decide +kernel
theorem dX10_alibi_71 : decode cX10_alibi 71 = .ok (.ireturn, 1) := by decide +kernel
theorem dX10_alibi_72 : decode cX10_alibi 72 = .ok (.aload_n 0, 1) := by decide +kernel
theorem dX10_alibi_73 : decode cX10_alibi 73 = .ok (.getfield 73, 3) := by decide +kernel
theorem dX10_alibi_76 : decode cX10_alibi 76 = .ok (.getfield 155, 3) := by decide +kernel
theorem dX10_alibi_79 : decode cX10_alibi 79 = .ok (.iload_n 1, 1) := by decide +kernel
theorem dX10_alibi_80 : decode cX10_alibi 80 = .ok (.iaload, 1) := by decide +kernel
theorem dX10_alibi_81 : decode cX10_alibi 81 = .ok (.ireturn, 1) := by decide +kernel
theorem dX10_alibi_82 : decode cX10_alibi 82 = .ok (.aload_n 0, 1) := by decide +kernel
theorem dX10_alibi_83 : decode cX10_alibi 83 = .ok (.getfield 73, 3) := by decide +kernel
theorem dX10_alibi_86 : decode cX10_alibi 86 = .ok (.getfield 158, 3) := by decide +kernel
theorem dX10_alibi_89 : decode cX10_alibi 89 = .ok (.iload_n 1, 1) := by decide +kernel
theorem dX10_alibi_90 : decode cX10_alibi 90 = .ok (.iaload, 1) := by decide +kernel
theorem dX10_alibi_91 : decode cX10_alibi 91 = .ok (.ireturn, 1) := by decide +kernel
theorem dX10_alibi_92 : decode cX10_alibi 92 = .ok (.aload_n 0, 1) := by decide +kernel
theorem dX10_alibi_93 : decode cX10_alibi 93 = .ok (.getfield 26, 3) := by decide +kernel
theorem dX10_alibi_96 : decode cX10_alibi 96 = .ok (.getfield 161, 3) := by decide +kernel
theorem dX10_alibi_99 : decode cX10_alibi 99 = .ok (.iload_n 1, 1) := by decide +kernel
theorem dX10_alibi_100 : decode cX10_alibi 100 = .ok (.invokestatic 138, 3) := by decide +kernel
theorem dX10_alibi_103 : decode cX10_alibi 103 = .ok (.ireturn, 1) := by decide +kernel
theorem dX10_find_0 : decode cX10_find 0 = .ok (.aload_n 0, 1) := by decide +kernel
theorem dX10_find_1 : decode cX10_find 1 = .ok (.iload_n 1, 1) := by decide +kernel
theorem dX10_find_2 : decode cX10_find 2 = .ok (.invokevirtual 126, 3) := by decide +kernel
theorem dX10_find_5 : decode cX10_find 5 = .ok (.ifCond .eq 12, 3) := by decide +kernel
theorem dX10_find_8 : decode cX10_find 8 = .ok (.iload_n 2, 1) := by decide +kernel
theorem dX10_find_9 : decode cX10_find 9 = .ok (.iconst 0, 1) := by decide +kernel
theorem dX10_find_10 : decode cX10_find 10 = .ok (.iconst 1, 1) := by decide +kernel
theorem dX10_find_11 : decode cX10_find 11 = .ok (.invokestatic 90, 3) := by decide +kernel
theorem dX10_find_14 : decode cX10_find 14 = .ok (.ifCond .ne 5, 3) := by decide +kernel
theorem dX10_find_17 : decode cX10_find 17 = .ok (.iconst (-1), 1) := by decide +kernel
theorem dX10_find_18 : decode cX10_find 18 = .ok (.ireturn, 1) := by decide +kernel
theorem dX10_find_19 : decode cX10_find 19 = .ok (.aload_n 0, 1) := by decide +kernel
theorem dX10_find_20 : decode cX10_find 20 = .ok (.getfield 26, 3) := by decide +kernel
theorem dX10_find_23 : decode cX10_find 23 = .ok (.getfield 135, 3) := by decide +kernel
theorem dX10_find_26 : decode cX10_find 26 = .ok (.iload_n 1, 1) := by decide +kernel
theorem dX10_find_27 : decode cX10_find 27 = .ok (.invokestatic 138, 3) := by decide +kernel
theorem dX10_find_30 : decode cX10_find 30 = .ok (.iload_n 2, 1) := by decide +kernel
theorem dX10_find_31 : decode cX10_find 31 = .ok (.if_icmp .ne 6, 3) := by decide +kernel
theorem dX10_find_34 : decode cX10_find 34 = .ok (.bipush (-2), 2) := by decide +kernel
theorem dX10_find_36 : decode cX10_find 36 = .ok (.ireturn, 1) := by decide +kernel
theorem dX10_find_37 : decode cX10_find 37 = .ok (.aload_n 0, 1) := by decide +kernel
theorem dX10_find_38 : decode cX10_find 38 = .ok (.getfield 26, 3) := by decide +kernel
theorem dX10_find_41 : decode cX10_find 41 = .ok (.invokevirtual 164, 3) := by decide +kernel
theorem dX10_find_44 : decode cX10_find 44 = .ok (.aload_n 0, 1) := by decide +kernel
theorem dX10_find_45 : decode cX10_find 45 = .ok (.getfield 26, 3) := by decide +kernel
theorem dX10_find_48 : decode cX10_find 48 = .ok (.dup, 1) := by decide +kernel
theorem dX10_find_49 : decode cX10_find 49 = .ok (.getfield 135, 3) := by decide +kernel
theorem dX10_find_52 : decode cX10_find 52 = .ok (.iconst 1, 1) := by decide +kernel
theorem dX10_find_53 : decode cX10_find 53 = .ok (.iload_n 1, 1) := by decide +kernel
theorem dX10_find_54 : decode cX10_find 54 = .ok (.ishl, 1) := by decide +kernel
theorem dX10_find_55 : decode cX10_find 55 = .ok (.ixor, 1) := by decide +kernel
theorem dX10_find_56 : decode cX10_find 56 = .ok (.putfield 135, 3) := by decide +kernel
theorem dX10_find_59 : decode cX10_find 59 = .ok (.aload_n 0, 1) := by decide +kernel
theorem dX10_find_60 : decode cX10_find 60 = .ok (.invokevirtual 167, 3) := by decide +kernel
theorem dX10_find_63 : decode cX10_find 63 = .ok (.ireturn, 1) := by decide +kernel
theorem dX10_hear_0 : decode cX10_hear 0 = .ok (.aload_n 0, 1) := by decide +kernel
theorem dX10_hear_1 : decode cX10_hear 1 = .ok (.iload_n 1, 1) := by decide +kernel
theorem dX10_hear_2 : decode cX10_hear 2 = .ok (.invokevirtual 146, 3) := by decide +kernel
theorem dX10_hear_5 : decode cX10_hear 5 = .ok (.ifCond .eq 12, 3) := by decide +kernel
theorem dX10_hear_8 : decode cX10_hear 8 = .ok (.iload_n 2, 1) := by decide +kernel
theorem dX10_hear_9 : decode cX10_hear 9 = .ok (.iconst 0, 1) := by decide +kernel
theorem dX10_hear_10 : decode cX10_hear 10 = .ok (.iconst 1, 1) := by decide +kernel
theorem dX10_hear_11 : decode cX10_hear 11 = .ok (.invokestatic 90, 3) := by decide +kernel
theorem dX10_hear_14 : decode cX10_hear 14 = .ok (.ifCond .ne 5, 3) := by decide +kernel
theorem dX10_hear_17 : decode cX10_hear 17 = .ok (.iconst (-1), 1) := by decide +kernel
theorem dX10_hear_18 : decode cX10_hear 18 = .ok (.ireturn, 1) := by decide +kernel
theorem dX10_hear_19 : decode cX10_hear 19 = .ok (.aload_n 0, 1) := by decide +kernel
theorem dX10_hear_20 : decode cX10_hear 20 = .ok (.getfield 26, 3) := by decide +kernel
theorem dX10_hear_23 : decode cX10_hear 23 = .ok (.getfield 161, 3) := by decide +kernel
theorem dX10_hear_26 : decode cX10_hear 26 = .ok (.iload_n 1, 1) := by decide +kernel
theorem dX10_hear_27 : decode cX10_hear 27 = .ok (.invokestatic 138, 3) := by decide +kernel
theorem dX10_hear_30 : decode cX10_hear 30 = .ok (.iload_n 2, 1) := by decide +kernel
theorem dX10_hear_31 : decode cX10_hear 31 = .ok (.if_icmp .ne 6, 3) := by decide +kernel
theorem dX10_hear_34 : decode cX10_hear 34 = .ok (.bipush (-2), 2) := by decide +kernel
theorem dX10_hear_36 : decode cX10_hear 36 = .ok (.ireturn, 1) := by decide +kernel
theorem dX10_hear_37 : decode cX10_hear 37 = .ok (.aload_n 0, 1) := by decide +kernel
theorem dX10_hear_38 : decode cX10_hear 38 = .ok (.getfield 26, 3) := by decide +kernel
theorem dX10_hear_41 : decode cX10_hear 41 = .ok (.invokevirtual 164, 3) := by decide +kernel
theorem dX10_hear_44 : decode cX10_hear 44 = .ok (.aload_n 0, 1) := by decide +kernel
theorem dX10_hear_45 : decode cX10_hear 45 = .ok (.getfield 26, 3) := by decide +kernel
theorem dX10_hear_48 : decode cX10_hear 48 = .ok (.dup, 1) := by decide +kernel
theorem dX10_hear_49 : decode cX10_hear 49 = .ok (.getfield 161, 3) := by decide +kernel
theorem dX10_hear_52 : decode cX10_hear 52 = .ok (.iconst 1, 1) := by decide +kernel
theorem dX10_hear_53 : decode cX10_hear 53 = .ok (.iload_n 1, 1) := by decide +kernel
theorem dX10_hear_54 : decode cX10_hear 54 = .ok (.ishl, 1) := by decide +kernel
theorem dX10_hear_55 : decode cX10_hear 55 = .ok (.ixor, 1) := by decide +kernel
theorem dX10_hear_56 : decode cX10_hear 56 = .ok (.putfield 161, 3) := by decide +kernel
theorem dX10_hear_59 : decode cX10_hear 59 = .ok (.aload_n 0, 1) := by decide +kernel
theorem dX10_hear_60 : decode cX10_hear 60 = .ok (.invokevirtual 167, 3) := by decide +kernel
theorem dX10_hear_63 : decode cX10_hear 63 = .ok (.ireturn, 1) := by decide +kernel
theorem dX10_days_0 : decode cX10_days 0 = .ok (.iload_n 1, 1) := by decide +kernel
theorem dX10_days_1 : decode cX10_days 1 = .ok (.iconst 0, 1) := by decide +kernel
theorem dX10_days_2 : decode cX10_days 2 = .ok (.bipush 60, 2) := by decide +kernel
theorem dX10_days_4 : decode cX10_days 4 = .ok (.invokestatic 90, 3) := by decide +kernel
theorem dX10_days_7 : decode cX10_days 7 = .ok (.ifCond .ne 5, 3) := by decide +kernel
theorem dX10_days_10 : decode cX10_days 10 = .ok (.iconst (-1), 1) := by decide +kernel
theorem dX10_days_11 : decode cX10_days 11 = .ok (.ireturn, 1) := by decide +kernel
theorem dX10_days_12 : decode cX10_days 12 = .ok (.aload_n 0, 1) := by decide +kernel
theorem dX10_days_13 : decode cX10_days 13 = .ok (.getfield 26, 3) := by decide +kernel
theorem dX10_days_16 : decode cX10_days 16 = .ok (.getfield 171, 3) := by decide +kernel
theorem dX10_days_19 : decode cX10_days 19 = .ok (.iload_n 1, 1) := by decide +kernel
theorem dX10_days_20 : decode cX10_days 20 = .ok (.if_icmp .ne 6, 3) := by decide +kernel
theorem dX10_days_23 : decode cX10_days 23 = .ok (.bipush (-2), 2) := by decide +kernel
theorem dX10_days_25 : decode cX10_days 25 = .ok (.ireturn, 1) := by decide +kernel
theorem dX10_days_26 : decode cX10_days 26 = .ok (.aload_n 0, 1) := by decide +kernel
theorem dX10_days_27 : decode cX10_days 27 = .ok (.getfield 26, 3) := by decide +kernel
theorem dX10_days_30 : decode cX10_days 30 = .ok (.getfield 171, 3) := by decide +kernel
theorem dX10_days_33 : decode cX10_days 33 = .ok (.istore_n 2, 1) := by decide +kernel
theorem dX10_days_34 : decode cX10_days 34 = .ok (.aload_n 0, 1) := by decide +kernel
theorem dX10_days_35 : decode cX10_days 35 = .ok (.getfield 26, 3) := by decide +kernel
theorem dX10_days_38 : decode cX10_days 38 = .ok (.invokevirtual 164, 3) := by decide +kernel
theorem dX10_days_41 : decode cX10_days 41 = .ok (.aload_n 0, 1) := by decide +kernel
theorem dX10_days_42 : decode cX10_days 42 = .ok (.getfield 26, 3) := by decide +kernel
theorem dX10_days_45 : decode cX10_days 45 = .ok (.iload_n 1, 1) := by decide +kernel
theorem dX10_days_46 : decode cX10_days 46 = .ok (.putfield 171, 3) := by decide +kernel
theorem dX10_days_49 : decode cX10_days 49 = .ok (.iload_n 2, 1) := by decide +kernel
theorem dX10_days_50 : decode cX10_days 50 = .ok (.ireturn, 1) := by decide +kernel
theorem dX10_undo_0 : decode cX10_undo 0 = .ok (.aload_n 0, 1) := by decide +kernel
theorem dX10_undo_1 : decode cX10_undo 1 = .ok (.getfield 26, 3) := by decide +kernel
theorem dX10_undo_4 : decode cX10_undo 4 = .ok (.getfield 172, 3) := by decide +kernel
theorem dX10_undo_7 : decode cX10_undo 7 = .ok (.ifCond .ne 6, 3) := by decide +kernel
theorem dX10_undo_10 : decode cX10_undo 10 = .ok (.bipush (-2), 2) := by decide +kernel
theorem dX10_undo_12 : decode cX10_undo 12 = .ok (.ireturn, 1) := by decide +kernel
theorem dX10_undo_13 : decode cX10_undo 13 = .ok (.aload_n 0, 1) := by decide +kernel
theorem dX10_undo_14 : decode cX10_undo 14 = .ok (.getfield 26, 3) := by decide +kernel
theorem dX10_undo_17 : decode cX10_undo 17 = .ok (.invokevirtual 175, 3) := by decide +kernel
theorem dX10_undo_20 : decode cX10_undo 20 = .ok (.aload_n 0, 1) := by decide +kernel
theorem dX10_undo_21 : decode cX10_undo 21 = .ok (.getfield 26, 3) := by decide +kernel
theorem dX10_undo_24 : decode cX10_undo 24 = .ok (.getfield 172, 3) := by decide +kernel
theorem dX10_undo_27 : decode cX10_undo 27 = .ok (.ireturn, 1) := by decide +kernel
theorem dX10_share_0 : decode cX10_share 0 = .ok (.aload_n 0, 1) := by decide +kernel
theorem dX10_share_1 : decode cX10_share 1 = .ok (.iload_n 1, 1) := by decide +kernel
theorem dX10_share_2 : decode cX10_share 2 = .ok (.invokevirtual 107, 3) := by decide +kernel
theorem dX10_share_5 : decode cX10_share 5 = .ok (.ifCond .eq 12, 3) := by decide +kernel
theorem dX10_share_8 : decode cX10_share 8 = .ok (.iload_n 2, 1) := by decide +kernel
theorem dX10_share_9 : decode cX10_share 9 = .ok (.iconst 0, 1) := by decide +kernel
theorem dX10_share_10 : decode cX10_share 10 = .ok (.iconst 1, 1) := by decide +kernel
theorem dX10_share_11 : decode cX10_share 11 = .ok (.invokestatic 90, 3) := by decide +kernel
theorem dX10_share_14 : decode cX10_share 14 = .ok (.ifCond .ne 5, 3) := by decide +kernel
theorem dX10_share_17 : decode cX10_share 17 = .ok (.iconst (-1), 1) := by decide +kernel
theorem dX10_share_18 : decode cX10_share 18 = .ok (.ireturn, 1) := by decide +kernel
theorem dX10_share_19 : decode cX10_share 19 = .ok (.aload_n 0, 1) := by decide +kernel
theorem dX10_share_20 : decode cX10_share 20 = .ok (.invokevirtual 111, 3) := by decide +kernel
theorem dX10_share_23 : decode cX10_share 23 = .ok (.aload_n 0, 1) := by decide +kernel
theorem dX10_share_24 : decode cX10_share 24 = .ok (.getfield 19, 3) := by decide +kernel
theorem dX10_share_27 : decode cX10_share 27 = .ok (.getfield 178, 3) := by decide +kernel
theorem dX10_share_30 : decode cX10_share 30 = .ok (.ifCond .ne 6, 3) := by decide +kernel
theorem dX10_share_33 : decode cX10_share 33 = .ok (.bipush (-2), 2) := by decide +kernel
theorem dX10_share_35 : decode cX10_share 35 = .ok (.ireturn, 1) := by decide +kernel
theorem dX10_share_36 : decode cX10_share 36 = .ok (.iload_n 2, 1) := by decide +kernel
theorem dX10_share_37 : decode cX10_share 37 = .ok (.ifCond .ne 15, 3) := by decide +kernel
theorem dX10_share_40 : decode cX10_share 40 = .ok (.aload_n 0, 1) := by decide +kernel
theorem dX10_share_41 : decode cX10_share 41 = .ok (.getfield 19, 3) := by decide +kernel
theorem dX10_share_44 : decode cX10_share 44 = .ok (.getfield 117, 3) := by decide +kernel
theorem dX10_share_47 : decode cX10_share 47 = .ok (.iload_n 1, 1) := by decide +kernel
theorem dX10_share_48 : decode cX10_share 48 = .ok (.iaload, 1) := by decide +kernel
theorem dX10_share_49 : decode cX10_share 49 = .ok (.goto 10, 3) := by decide +kernel
theorem dX10_share_52 : decode cX10_share 52 = .ok (.aload_n 0, 1) := by decide +kernel
theorem dX10_share_53 : decode cX10_share 53 = .ok (.getfield 19, 3) := by decide +kernel
theorem dX10_share_56 : decode cX10_share 56 = .ok (.getfield 178, 3) := by decide +kernel
theorem dX10_share_59 : decode cX10_share 59 = .ok (.istore_n 3, 1) := by decide +kernel
theorem dX10_share_60 : decode cX10_share 60 = .ok (.iload_n 3, 1) := by decide +kernel
theorem dX10_share_61 : decode cX10_share 61 = .ok (.aload_n 0, 1) := by decide +kernel
theorem dX10_share_62 : decode cX10_share 62 = .ok (.getfield 19, 3) := by decide +kernel
theorem dX10_share_65 : decode cX10_share 65 = .ok (.getfield 178, 3) := by decide +kernel
theorem dX10_share_68 : decode cX10_share 68 = .ok (.aload_n 0, 1) := by decide +kernel
theorem dX10_share_69 : decode cX10_share 69 = .ok (.getfield 19, 3) := by decide +kernel
theorem dX10_share_72 : decode cX10_share 72 = .ok (.getfield 117, 3) := by decide +kernel
theorem dX10_share_75 : decode cX10_share 75 = .ok (.iload_n 1, 1) := by decide +kernel
theorem dX10_share_76 : decode cX10_share 76 = .ok (.iaload, 1) := by decide +kernel
theorem dX10_share_77 : decode cX10_share 77 = .ok (.invokestatic 181, 3) := by decide +kernel
theorem dX10_share_80 : decode cX10_share 80 = .ok (.idiv, 1) := by decide +kernel
theorem dX10_share_81 : decode cX10_share 81 = .ok (.ireturn, 1) := by decide +kernel
theorem dX10_now_0 : decode cX10_now 0 = .ok (.iload_n 1, 1) := by decide +kernel
theorem dX10_now_1 : decode cX10_now 1 = .ok (.tableswitch 76 0 4 #[35, 40, 48, 56, 64], 35) := by decide +kernel
theorem dX10_now_36 : decode cX10_now 36 = .ok (.aload_n 0, 1) := by decide +kernel
theorem dX10_now_37 : decode cX10_now 37 = .ok (.invokevirtual 167, 3) := by decide +kernel
theorem dX10_now_40 : decode cX10_now 40 = .ok (.ireturn, 1) := by decide +kernel
theorem dX10_now_41 : decode cX10_now 41 = .ok (.aload_n 0, 1) := by decide +kernel
theorem dX10_now_42 : decode cX10_now 42 = .ok (.getfield 26, 3) := by decide +kernel
theorem dX10_now_45 : decode cX10_now 45 = .ok (.getfield 135, 3) := by decide +kernel
theorem dX10_now_48 : decode cX10_now 48 = .ok (.ireturn, 1) := by decide +kernel
theorem dX10_now_49 : decode cX10_now 49 = .ok (.aload_n 0, 1) := by decide +kernel
theorem dX10_now_50 : decode cX10_now 50 = .ok (.getfield 26, 3) := by decide +kernel
theorem dX10_now_53 : decode cX10_now 53 = .ok (.getfield 161, 3) := by decide +kernel
theorem dX10_now_56 : decode cX10_now 56 = .ok (.ireturn, 1) := by decide +kernel
theorem dX10_now_57 : decode cX10_now 57 = .ok (.aload_n 0, 1) := by decide +kernel
theorem dX10_now_58 : decode cX10_now 58 = .ok (.getfield 26, 3) := by decide +kernel
theorem dX10_now_61 : decode cX10_now 61 = .ok (.getfield 171, 3) := by decide +kernel
theorem dX10_now_64 : decode cX10_now 64 = .ok (.ireturn, 1) := by decide +kernel
theorem dX10_now_65 : decode cX10_now 65 = .ok (.aload_n 0, 1) := by decide +kernel
theorem dX10_now_66 : decode cX10_now 66 = .ok (.invokevirtual 111, 3) := by decide +kernel
theorem dX10_now_69 : decode cX10_now 69 = .ok (.aload_n 0, 1) := by decide +kernel
theorem dX10_now_70 : decode cX10_now 70 = .ok (.getfield 19, 3) := by decide +kernel
theorem dX10_now_73 : decode cX10_now 73 = .ok (.invokevirtual 184, 3) := by decide +kernel
theorem dX10_now_76 : decode cX10_now 76 = .ok (.ireturn, 1) := by decide +kernel
theorem dX10_now_77 : decode cX10_now 77 = .ok (.iconst (-1), 1) := by decide +kernel
theorem dX10_now_78 : decode cX10_now 78 = .ok (.ireturn, 1) := by decide +kernel
theorem dX10_proof_0 : decode cX10_proof 0 = .ok (.aload_n 0, 1) := by decide +kernel
theorem dX10_proof_1 : decode cX10_proof 1 = .ok (.iload_n 1, 1) := by decide +kernel
theorem dX10_proof_2 : decode cX10_proof 2 = .ok (.invokevirtual 107, 3) := by decide +kernel
theorem dX10_proof_5 : decode cX10_proof 5 = .ok (.ifCond .eq 21, 3) := by decide +kernel
theorem dX10_proof_8 : decode cX10_proof 8 = .ok (.iload_n 2, 1) := by decide +kernel
theorem dX10_proof_9 : decode cX10_proof 9 = .ok (.iload_n 3, 1) := by decide +kernel
theorem dX10_proof_10 : decode cX10_proof 10 = .ok (.invokestatic 187, 3) := by decide +kernel
theorem dX10_proof_13 : decode cX10_proof 13 = .ok (.ifCond .eq 13, 3) := by decide +kernel
theorem dX10_proof_16 : decode cX10_proof 16 = .ok (.iload 4, 2) := by decide +kernel
theorem dX10_proof_18 : decode cX10_proof 18 = .ok (.iconst 0, 1) := by decide +kernel
theorem dX10_proof_19 : decode cX10_proof 19 = .ok (.iconst 1, 1) := by decide +kernel
theorem dX10_proof_20 : decode cX10_proof 20 = .ok (.invokestatic 90, 3) := by decide +kernel
theorem dX10_proof_23 : decode cX10_proof 23 = .ok (.ifCond .ne 5, 3) := by decide +kernel
theorem dX10_proof_26 : decode cX10_proof 26 = .ok (.iconst (-1), 1) := by decide +kernel
theorem dX10_proof_27 : decode cX10_proof 27 = .ok (.ireturn, 1) := by decide +kernel
theorem dX10_proof_28 : decode cX10_proof 28 = .ok (.aload_n 0, 1) := by decide +kernel
theorem dX10_proof_29 : decode cX10_proof 29 = .ok (.aload_n 0, 1) := by decide +kernel
theorem dX10_proof_30 : decode cX10_proof 30 = .ok (.iload_n 1, 1) := by decide +kernel
theorem dX10_proof_31 : decode cX10_proof 31 = .ok (.iload_n 2, 1) := by decide +kernel
theorem dX10_proof_32 : decode cX10_proof 32 = .ok (.iload_n 3, 1) := by decide +kernel
theorem dX10_proof_33 : decode cX10_proof 33 = .ok (.iconst 1, 1) := by decide +kernel
theorem dX10_proof_34 : decode cX10_proof 34 = .ok (.invokevirtual 191, 3) := by decide +kernel
theorem dX10_proof_37 : decode cX10_proof 37 = .ok (.iload 4, 2) := by decide +kernel
theorem dX10_proof_39 : decode cX10_proof 39 = .ok (.invokevirtual 195, 3) := by decide +kernel
theorem dX10_proof_42 : decode cX10_proof 42 = .ok (.ireturn, 1) := by decide +kernel
theorem dX10_cleared_0 : decode cX10_cleared 0 = .ok (.aload_n 0, 1) := by decide +kernel
theorem dX10_cleared_1 : decode cX10_cleared 1 = .ok (.iload_n 1, 1) := by decide +kernel
theorem dX10_cleared_2 : decode cX10_cleared 2 = .ok (.invokevirtual 107, 3) := by decide +kernel
theorem dX10_cleared_5 : decode cX10_cleared 5 = .ok (.ifCond .eq 21, 3) := by decide +kernel
theorem dX10_cleared_8 : decode cX10_cleared 8 = .ok (.iload_n 2, 1) := by decide +kernel
theorem dX10_cleared_9 : decode cX10_cleared 9 = .ok (.iload_n 3, 1) := by decide +kernel
theorem dX10_cleared_10 : decode cX10_cleared 10 = .ok (.invokestatic 187, 3) := by decide +kernel
theorem dX10_cleared_13 : decode cX10_cleared 13 = .ok (.ifCond .eq 13, 3) := by decide +kernel
theorem dX10_cleared_16 : decode cX10_cleared 16 = .ok (.iload 4, 2) := by decide +kernel
theorem dX10_cleared_18 : decode cX10_cleared 18 = .ok (.iconst 0, 1) := by decide +kernel
theorem dX10_cleared_19 : decode cX10_cleared 19 = .ok (.iconst 1, 1) := by decide +kernel
theorem dX10_cleared_20 : decode cX10_cleared 20 = .ok (.invokestatic 90, 3) := by decide +kernel
theorem dX10_cleared_23 : decode cX10_cleared 23 = .ok (.ifCond .ne 5, 3) := by decide +kernel
theorem dX10_cleared_26 : decode cX10_cleared 26 = .ok (.iconst (-1), 1) := by decide +kernel
theorem dX10_cleared_27 : decode cX10_cleared 27 = .ok (.ireturn, 1) := by decide +kernel
theorem dX10_cleared_28 : decode cX10_cleared 28 = .ok (.aload_n 0, 1) := by decide +kernel
theorem dX10_cleared_29 : decode cX10_cleared 29 = .ok (.aload_n 0, 1) := by decide +kernel
theorem dX10_cleared_30 : decode cX10_cleared 30 = .ok (.iload_n 1, 1) := by decide +kernel
theorem dX10_cleared_31 : decode cX10_cleared 31 = .ok (.iload_n 2, 1) := by decide +kernel
theorem dX10_cleared_32 : decode cX10_cleared 32 = .ok (.iload_n 3, 1) := by decide +kernel
theorem dX10_cleared_33 : decode cX10_cleared 33 = .ok (.iconst 0, 1) := by decide +kernel
theorem dX10_cleared_34 : decode cX10_cleared 34 = .ok (.invokevirtual 191, 3) := by decide +kernel
theorem dX10_cleared_37 : decode cX10_cleared 37 = .ok (.iload 4, 2) := by decide +kernel
theorem dX10_cleared_39 : decode cX10_cleared 39 = .ok (.invokevirtual 195, 3) := by decide +kernel
theorem dX10_cleared_42 : decode cX10_cleared 42 = .ok (.ireturn, 1) := by decide +kernel
theorem dX10_forged_0 : decode cX10_forged 0 = .ok (.aload_n 0, 1) := by decide +kernel
theorem dX10_forged_1 : decode cX10_forged 1 = .ok (.iload_n 1, 1) := by decide +kernel
theorem dX10_forged_2 : decode cX10_forged 2 = .ok (.invokevirtual 107, 3) := by decide +kernel
theorem dX10_forged_5 : decode cX10_forged 5 = .ok (.ifCond .eq 11, 3) := by decide +kernel
theorem dX10_forged_8 : decode cX10_forged 8 = .ok (.iload_n 2, 1) := by decide +kernel
theorem dX10_forged_9 : decode cX10_forged 9 = .ok (.iload_n 3, 1) := by decide +kernel
theorem dX10_forged_10 : decode cX10_forged 10 = .ok (.invokestatic 187, 3) := by decide +kernel
theorem dX10_forged_13 : decode cX10_forged 13 = .ok (.ifCond .ne 5, 3) := by decide +kernel
theorem dX10_forged_16 : decode cX10_forged 16 = .ok (.iconst (-1), 1) := by decide +kernel
theorem dX10_forged_17 : decode cX10_forged 17 = .ok (.ireturn, 1) := by decide +kernel
theorem dX10_forged_18 : decode cX10_forged 18 = .ok (.aload_n 0, 1) := by decide +kernel
theorem dX10_forged_19 : decode cX10_forged 19 = .ok (.invokevirtual 111, 3) := by decide +kernel
theorem dX10_forged_22 : decode cX10_forged 22 = .ok (.aload_n 0, 1) := by decide +kernel
theorem dX10_forged_23 : decode cX10_forged 23 = .ok (.getfield 73, 3) := by decide +kernel
theorem dX10_forged_26 : decode cX10_forged 26 = .ok (.getfield 198, 3) := by decide +kernel
theorem dX10_forged_29 : decode cX10_forged 29 = .ok (.aload_n 0, 1) := by decide +kernel
theorem dX10_forged_30 : decode cX10_forged 30 = .ok (.getfield 73, 3) := by decide +kernel
theorem dX10_forged_33 : decode cX10_forged 33 = .ok (.getfield 201, 3) := by decide +kernel
theorem dX10_forged_36 : decode cX10_forged 36 = .ok (.isub, 1) := by decide +kernel
theorem dX10_forged_37 : decode cX10_forged 37 = .ok (.iconst 1, 1) := by decide +kernel
theorem dX10_forged_38 : decode cX10_forged 38 = .ok (.iadd, 1) := by decide +kernel
theorem dX10_forged_39 : decode cX10_forged 39 = .ok (.aload_n 0, 1) := by decide +kernel
theorem dX10_forged_40 : decode cX10_forged 40 = .ok (.getfield 19, 3) := by decide +kernel
theorem dX10_forged_43 : decode cX10_forged 43 = .ok (.getfield 123, 3) := by decide +kernel
theorem dX10_forged_46 : decode cX10_forged 46 = .ok (.iload_n 1, 1) := by decide +kernel
theorem dX10_forged_47 : decode cX10_forged 47 = .ok (.iaload, 1) := by decide +kernel
theorem dX10_forged_48 : decode cX10_forged 48 = .ok (.isub, 1) := by decide +kernel
theorem dX10_forged_49 : decode cX10_forged 49 = .ok (.istore 4, 2) := by decide +kernel
theorem dX10_forged_51 : decode cX10_forged 51 = .ok (.iconst 0, 1) := by decide +kernel
theorem dX10_forged_52 : decode cX10_forged 52 = .ok (.istore 5, 2) := by decide +kernel
theorem dX10_forged_54 : decode cX10_forged 54 = .ok (.iload 5, 2) := by decide +kernel
theorem dX10_forged_56 : decode cX10_forged 56 = .ok (.iload 4, 2) := by decide +kernel
theorem dX10_forged_58 : decode cX10_forged 58 = .ok (.if_icmp .gt 64, 3) := by decide +kernel
theorem dX10_forged_61 : decode cX10_forged 61 = .ok (.iconst 0, 1) := by decide +kernel
theorem dX10_forged_62 : decode cX10_forged 62 = .ok (.aload_n 0, 1) := by decide +kernel
theorem dX10_forged_63 : decode cX10_forged 63 = .ok (.getfield 19, 3) := by decide +kernel
theorem dX10_forged_66 : decode cX10_forged 66 = .ok (.getfield 117, 3) := by decide +kernel
theorem dX10_forged_69 : decode cX10_forged 69 = .ok (.iload_n 1, 1) := by decide +kernel
theorem dX10_forged_70 : decode cX10_forged 70 = .ok (.iaload, 1) := by decide +kernel
theorem dX10_forged_71 : decode cX10_forged 71 = .ok (.iload 5, 2) := by decide +kernel
theorem dX10_forged_73 : decode cX10_forged 73 = .ok (.isub, 1) := by decide +kernel
theorem dX10_forged_74 : decode cX10_forged 74 = .ok (.invokestatic 204, 3) := by decide +kernel
theorem dX10_forged_77 : decode cX10_forged 77 = .ok (.istore 6, 2) := by decide +kernel
theorem dX10_forged_79 : decode cX10_forged 79 = .ok (.aload_n 0, 1) := by decide +kernel
theorem dX10_forged_80 : decode cX10_forged 80 = .ok (.getfield 19, 3) := by decide +kernel
theorem dX10_forged_83 : decode cX10_forged 83 = .ok (.getfield 178, 3) := by decide +kernel
theorem dX10_forged_86 : decode cX10_forged 86 = .ok (.aload_n 0, 1) := by decide +kernel
theorem dX10_forged_87 : decode cX10_forged 87 = .ok (.getfield 19, 3) := by decide +kernel
theorem dX10_forged_90 : decode cX10_forged 90 = .ok (.getfield 117, 3) := by decide +kernel
theorem dX10_forged_93 : decode cX10_forged 93 = .ok (.iload_n 1, 1) := by decide +kernel
theorem dX10_forged_94 : decode cX10_forged 94 = .ok (.iaload, 1) := by decide +kernel
theorem dX10_forged_95 : decode cX10_forged 95 = .ok (.isub, 1) := by decide +kernel
theorem dX10_forged_96 : decode cX10_forged 96 = .ok (.iload 6, 2) := by decide +kernel
theorem dX10_forged_98 : decode cX10_forged 98 = .ok (.iadd, 1) := by decide +kernel
theorem dX10_forged_99 : decode cX10_forged 99 = .ok (.istore 7, 2) := by decide +kernel
theorem dX10_forged_101 : decode cX10_forged 101 = .ok (.iload 6, 2) := by decide +kernel
theorem dX10_forged_103 : decode cX10_forged 103 = .ok (.iload 7, 2) := by decide +kernel
theorem dX10_forged_105 : decode cX10_forged 105 = .ok (.iload_n 2, 1) := by decide +kernel
theorem dX10_forged_106 : decode cX10_forged 106 = .ok (.iload_n 3, 1) := by decide +kernel
theorem dX10_forged_107 : decode cX10_forged 107 = .ok (.invokestatic 209, 3) := by decide +kernel
theorem dX10_forged_110 : decode cX10_forged 110 = .ok (.ifCond .eq 6, 3) := by decide +kernel
theorem dX10_forged_113 : decode cX10_forged 113 = .ok (.iload 5, 2) := by decide +kernel
theorem dX10_forged_115 : decode cX10_forged 115 = .ok (.ireturn, 1) := by decide +kernel
theorem dX10_forged_116 : decode cX10_forged 116 = .ok (.iinc 5 1, 3) := by decide +kernel
theorem dX10_forged_119 : decode cX10_forged 119 = .ok (.goto (-65), 3) := by decide +kernel
theorem dX10_forged_122 : decode cX10_forged 122 = .ok (.bipush (-9), 2) := by decide +kernel
theorem dX10_forged_124 : decode cX10_forged 124 = .ok (.ireturn, 1) := by decide +kernel
theorem dX10_clash_0 : decode cX10_clash 0 = .ok (.iload_n 1, 1) := by decide +kernel
theorem dX10_clash_1 : decode cX10_clash 1 = .ok (.iconst 0, 1) := by decide +kernel
theorem dX10_clash_2 : decode cX10_clash 2 = .ok (.iconst 1, 1) := by decide +kernel
theorem dX10_clash_3 : decode cX10_clash 3 = .ok (.invokestatic 90, 3) := by decide +kernel
theorem dX10_clash_6 : decode cX10_clash 6 = .ok (.ifCond .ne 5, 3) := by decide +kernel
theorem dX10_clash_9 : decode cX10_clash 9 = .ok (.iconst (-1), 1) := by decide +kernel
theorem dX10_clash_10 : decode cX10_clash 10 = .ok (.ireturn, 1) := by decide +kernel
theorem dX10_clash_11 : decode cX10_clash 11 = .ok (.aload_n 0, 1) := by decide +kernel
theorem dX10_clash_12 : decode cX10_clash 12 = .ok (.invokevirtual 213, 3) := by decide +kernel
theorem dX10_clash_15 : decode cX10_clash 15 = .ok (.istore_n 2, 1) := by decide +kernel
theorem dX10_clash_16 : decode cX10_clash 16 = .ok (.iload_n 1, 1) := by decide +kernel
theorem dX10_clash_17 : decode cX10_clash 17 = .ok (.ifCond .ne 7, 3) := by decide +kernel
theorem dX10_clash_20 : decode cX10_clash 20 = .ok (.iload_n 2, 1) := by decide +kernel
theorem dX10_clash_21 : decode cX10_clash 21 = .ok (.goto 7, 3) := by decide +kernel
theorem dX10_clash_24 : decode cX10_clash 24 = .ok (.aload_n 0, 1) := by decide +kernel
theorem dX10_clash_25 : decode cX10_clash 25 = .ok (.invokevirtual 216, 3) := by decide +kernel
theorem dX10_clash_28 : decode cX10_clash 28 = .ok (.ireturn, 1) := by decide +kernel
theorem dX10_rests_0 : decode cX10_rests 0 = .ok (.iload_n 1, 1) := by decide +kernel
theorem dX10_rests_1 : decode cX10_rests 1 = .ok (.iconst 0, 1) := by decide +kernel
theorem dX10_rests_2 : decode cX10_rests 2 = .ok (.iconst 1, 1) := by decide +kernel
theorem dX10_rests_3 : decode cX10_rests 3 = .ok (.invokestatic 90, 3) := by decide +kernel
theorem dX10_rests_6 : decode cX10_rests 6 = .ok (.ifCond .ne 5, 3) := by decide +kernel
theorem dX10_rests_9 : decode cX10_rests 9 = .ok (.iconst (-1), 1) := by decide +kernel
theorem dX10_rests_10 : decode cX10_rests 10 = .ok (.ireturn, 1) := by decide +kernel
theorem dX10_rests_11 : decode cX10_rests 11 = .ok (.aload_n 0, 1) := by decide +kernel
theorem dX10_rests_12 : decode cX10_rests 12 = .ok (.invokevirtual 111, 3) := by decide +kernel
theorem dX10_rests_15 : decode cX10_rests 15 = .ok (.iconst 0, 1) := by decide +kernel
theorem dX10_rests_16 : decode cX10_rests 16 = .ok (.istore_n 2, 1) := by decide +kernel
theorem dX10_rests_17 : decode cX10_rests 17 = .ok (.bipush (-9), 2) := by decide +kernel
theorem dX10_rests_19 : decode cX10_rests 19 = .ok (.istore_n 3, 1) := by decide +kernel
theorem dX10_rests_20 : decode cX10_rests 20 = .ok (.iconst 0, 1) := by decide +kernel
theorem dX10_rests_21 : decode cX10_rests 21 = .ok (.istore 4, 2) := by decide +kernel
theorem dX10_rests_23 : decode cX10_rests 23 = .ok (.iload 4, 2) := by decide +kernel
theorem dX10_rests_25 : decode cX10_rests 25 = .ok (.iconst 1, 1) := by decide +kernel
theorem dX10_rests_26 : decode cX10_rests 26 = .ok (.aload_n 0, 1) := by decide +kernel
theorem dX10_rests_27 : decode cX10_rests 27 = .ok (.getfield 73, 3) := by decide +kernel
theorem dX10_rests_30 : decode cX10_rests 30 = .ok (.getfield 219, 3) := by decide +kernel
theorem dX10_rests_33 : decode cX10_rests 33 = .ok (.ishl, 1) := by decide +kernel
theorem dX10_rests_34 : decode cX10_rests 34 = .ok (.if_icmp .ge 33, 3) := by decide +kernel
theorem dX10_rests_37 : decode cX10_rests 37 = .ok (.aload_n 0, 1) := by decide +kernel
theorem dX10_rests_38 : decode cX10_rests 38 = .ok (.iload 4, 2) := by decide +kernel
theorem dX10_rests_40 : decode cX10_rests 40 = .ok (.invokevirtual 222, 3) := by decide +kernel
theorem dX10_rests_43 : decode cX10_rests 43 = .ok (.bipush (-9), 2) := by decide +kernel
theorem dX10_rests_45 : decode cX10_rests 45 = .ok (.if_icmp .eq 6, 3) := by decide +kernel
theorem dX10_rests_48 : decode cX10_rests 48 = .ok (.goto 13, 3) := by decide +kernel
theorem dX10_rests_51 : decode cX10_rests 51 = .ok (.iload_n 2, 1) := by decide +kernel
theorem dX10_rests_52 : decode cX10_rests 52 = .ok (.ifCond .ne 6, 3) := by decide +kernel
theorem dX10_rests_55 : decode cX10_rests 55 = .ok (.iload 4, 2) := by decide +kernel
theorem dX10_rests_57 : decode cX10_rests 57 = .ok (.istore_n 3, 1) := by decide +kernel
theorem dX10_rests_58 : decode cX10_rests 58 = .ok (.iinc 2 1, 3) := by decide +kernel
theorem dX10_rests_61 : decode cX10_rests 61 = .ok (.iinc 4 1, 3) := by decide +kernel
theorem dX10_rests_64 : decode cX10_rests 64 = .ok (.goto (-41), 3) := by decide +kernel
theorem dX10_rests_67 : decode cX10_rests 67 = .ok (.iload_n 1, 1) := by decide +kernel
theorem dX10_rests_68 : decode cX10_rests 68 = .ok (.ifCond .ne 7, 3) := by decide +kernel
theorem dX10_rests_71 : decode cX10_rests 71 = .ok (.iload_n 2, 1) := by decide +kernel
theorem dX10_rests_72 : decode cX10_rests 72 = .ok (.goto 4, 3) := by decide +kernel
theorem dX10_rests_75 : decode cX10_rests 75 = .ok (.iload_n 3, 1) := by decide +kernel
theorem dX10_rests_76 : decode cX10_rests 76 = .ok (.ireturn, 1) := by decide +kernel
theorem dX10_gains_0 : decode cX10_gains 0 = .ok (.iload_n 1, 1) := by decide +kernel
theorem dX10_gains_1 : decode cX10_gains 1 = .ok (.iconst 0, 1) := by decide +kernel
theorem dX10_gains_2 : decode cX10_gains 2 = .ok (.iconst 1, 1) := by decide +kernel
theorem dX10_gains_3 : decode cX10_gains 3 = .ok (.aload_n 0, 1) := by decide +kernel
theorem dX10_gains_4 : decode cX10_gains 4 = .ok (.getfield 73, 3) := by decide +kernel
theorem dX10_gains_7 : decode cX10_gains 7 = .ok (.getfield 219, 3) := by decide +kernel
theorem dX10_gains_10 : decode cX10_gains 10 = .ok (.ishl, 1) := by decide +kernel
theorem dX10_gains_11 : decode cX10_gains 11 = .ok (.iconst 1, 1) := by decide +kernel
theorem dX10_gains_12 : decode cX10_gains 12 = .ok (.isub, 1) := by decide +kernel
theorem dX10_gains_13 : decode cX10_gains 13 = .ok (.invokestatic 90, 3) := by decide +kernel
theorem dX10_gains_16 : decode cX10_gains 16 = .ok (.ifCond .ne 5, 3) := by decide +kernel
theorem dX10_gains_19 : decode cX10_gains 19 = .ok (.iconst (-1), 1) := by decide +kernel
theorem dX10_gains_20 : decode cX10_gains 20 = .ok (.ireturn, 1) := by decide +kernel
theorem dX10_gains_21 : decode cX10_gains 21 = .ok (.aload_n 0, 1) := by decide +kernel
theorem dX10_gains_22 : decode cX10_gains 22 = .ok (.invokevirtual 111, 3) := by decide +kernel
theorem dX10_gains_25 : decode cX10_gains 25 = .ok (.aload_n 0, 1) := by decide +kernel
theorem dX10_gains_26 : decode cX10_gains 26 = .ok (.iload_n 1, 1) := by decide +kernel
theorem dX10_gains_27 : decode cX10_gains 27 = .ok (.invokevirtual 222, 3) := by decide +kernel
theorem dX10_gains_30 : decode cX10_gains 30 = .ok (.ireturn, 1) := by decide +kernel
theorem dX10_cellsFor_0 : decode cX10_cellsFor 0 = .ok (.iload_n 1, 1) := by decide +kernel
theorem dX10_cellsFor_1 : decode cX10_cellsFor 1 = .ok (.iconst 1, 1) := by decide +kernel
theorem dX10_cellsFor_2 : decode cX10_cellsFor 2 = .ok (.bipush 60, 2) := by decide +kernel
theorem dX10_cellsFor_4 : decode cX10_cellsFor 4 = .ok (.invokestatic 90, 3) := by decide +kernel
theorem dX10_cellsFor_7 : decode cX10_cellsFor 7 = .ok (.ifCond .ne 5, 3) := by decide +kernel
theorem dX10_cellsFor_10 : decode cX10_cellsFor 10 = .ok (.iconst (-1), 1) := by decide +kernel
theorem dX10_cellsFor_11 : decode cX10_cellsFor 11 = .ok (.ireturn, 1) := by decide +kernel
theorem dX10_cellsFor_12 : decode cX10_cellsFor 12 = .ok (.aload_n 0, 1) := by decide +kernel
theorem dX10_cellsFor_13 : decode cX10_cellsFor 13 = .ok (.invokevirtual 111, 3) := by decide +kernel
theorem dX10_cellsFor_16 : decode cX10_cellsFor 16 = .ok (.aload_n 0, 1) := by decide +kernel
theorem dX10_cellsFor_17 : decode cX10_cellsFor 17 = .ok (.iload_n 1, 1) := by decide +kernel
theorem dX10_cellsFor_18 : decode cX10_cellsFor 18 = .ok (.invokevirtual 226, 3) := by decide +kernel
theorem dX10_cellsFor_21 : decode cX10_cellsFor 21 = .ok (.ireturn, 1) := by decide +kernel
theorem dX10_sits_0 : decode cX10_sits 0 = .ok (.iload_n 1, 1) := by decide +kernel
theorem dX10_sits_1 : decode cX10_sits 1 = .ok (.iconst 1, 1) := by decide +kernel
theorem dX10_sits_2 : decode cX10_sits 2 = .ok (.bipush 60, 2) := by decide +kernel
theorem dX10_sits_4 : decode cX10_sits 4 = .ok (.invokestatic 90, 3) := by decide +kernel
theorem dX10_sits_7 : decode cX10_sits 7 = .ok (.ifCond .eq 22, 3) := by decide +kernel
theorem dX10_sits_10 : decode cX10_sits 10 = .ok (.aload_n 0, 1) := by decide +kernel
theorem dX10_sits_11 : decode cX10_sits 11 = .ok (.iload_n 2, 1) := by decide +kernel
theorem dX10_sits_12 : decode cX10_sits 12 = .ok (.invokevirtual 107, 3) := by decide +kernel
theorem dX10_sits_15 : decode cX10_sits 15 = .ok (.ifCond .eq 14, 3) := by decide +kernel
theorem dX10_sits_18 : decode cX10_sits 18 = .ok (.iload_n 3, 1) := by decide +kernel
theorem dX10_sits_19 : decode cX10_sits 19 = .ok (.iconst 0, 1) := by decide +kernel
theorem dX10_sits_20 : decode cX10_sits 20 = .ok (.iload_n 1, 1) := by decide +kernel
theorem dX10_sits_21 : decode cX10_sits 21 = .ok (.iconst 1, 1) := by decide +kernel
theorem dX10_sits_22 : decode cX10_sits 22 = .ok (.isub, 1) := by decide +kernel
theorem dX10_sits_23 : decode cX10_sits 23 = .ok (.invokestatic 90, 3) := by decide +kernel
theorem dX10_sits_26 : decode cX10_sits 26 = .ok (.ifCond .ne 5, 3) := by decide +kernel
theorem dX10_sits_29 : decode cX10_sits 29 = .ok (.iconst (-1), 1) := by decide +kernel
theorem dX10_sits_30 : decode cX10_sits 30 = .ok (.ireturn, 1) := by decide +kernel
theorem dX10_sits_31 : decode cX10_sits 31 = .ok (.aload_n 0, 1) := by decide +kernel
theorem dX10_sits_32 : decode cX10_sits 32 = .ok (.invokevirtual 111, 3) := by decide +kernel
theorem dX10_sits_35 : decode cX10_sits 35 = .ok (.aload_n 0, 1) := by decide +kernel
theorem dX10_sits_36 : decode cX10_sits 36 = .ok (.iload_n 1, 1) := by decide +kernel
theorem dX10_sits_37 : decode cX10_sits 37 = .ok (.invokevirtual 226, 3) := by decide +kernel
theorem dX10_sits_40 : decode cX10_sits 40 = .ok (.bipush (-9), 2) := by decide +kernel
theorem dX10_sits_42 : decode cX10_sits 42 = .ok (.if_icmp .ne 6, 3) := by decide +kernel
theorem dX10_sits_45 : decode cX10_sits 45 = .ok (.bipush (-9), 2) := by decide +kernel
theorem dX10_sits_47 : decode cX10_sits 47 = .ok (.ireturn, 1) := by decide +kernel
theorem dX10_sits_48 : decode cX10_sits 48 = .ok (.iconst 0, 1) := by decide +kernel
theorem dX10_sits_49 : decode cX10_sits 49 = .ok (.istore 4, 2) := by decide +kernel
theorem dX10_sits_51 : decode cX10_sits 51 = .ok (.iconst 0, 1) := by decide +kernel
theorem dX10_sits_52 : decode cX10_sits 52 = .ok (.istore 5, 2) := by decide +kernel
theorem dX10_sits_54 : decode cX10_sits 54 = .ok (.iload 5, 2) := by decide +kernel
theorem dX10_sits_56 : decode cX10_sits 56 = .ok (.iload_n 2, 1) := by decide +kernel
theorem dX10_sits_57 : decode cX10_sits 57 = .ok (.if_icmp .ge 24, 3) := by decide +kernel
theorem dX10_sits_60 : decode cX10_sits 60 = .ok (.iload 4, 2) := by decide +kernel
theorem dX10_sits_62 : decode cX10_sits 62 = .ok (.aload_n 0, 1) := by decide +kernel
theorem dX10_sits_63 : decode cX10_sits 63 = .ok (.getfield 19, 3) := by decide +kernel
theorem dX10_sits_66 : decode cX10_sits 66 = .ok (.getfield 120, 3) := by decide +kernel
theorem dX10_sits_69 : decode cX10_sits 69 = .ok (.iload 5, 2) := by decide +kernel
theorem dX10_sits_71 : decode cX10_sits 71 = .ok (.iaload, 1) := by decide +kernel
theorem dX10_sits_72 : decode cX10_sits 72 = .ok (.iadd, 1) := by decide +kernel
theorem dX10_sits_73 : decode cX10_sits 73 = .ok (.istore 4, 2) := by decide +kernel
theorem dX10_sits_75 : decode cX10_sits 75 = .ok (.iinc 5 1, 3) := by decide +kernel
theorem dX10_sits_78 : decode cX10_sits 78 = .ok (.goto (-24), 3) := by decide +kernel
theorem dX10_sits_81 : decode cX10_sits 81 = .ok (.iload_n 3, 1) := by decide +kernel
theorem dX10_sits_82 : decode cX10_sits 82 = .ok (.iload 4, 2) := by decide +kernel
theorem dX10_sits_84 : decode cX10_sits 84 = .ok (.iload_n 1, 1) := by decide +kernel
theorem dX10_sits_85 : decode cX10_sits 85 = .ok (.irem, 1) := by decide +kernel
theorem dX10_sits_86 : decode cX10_sits 86 = .ok (.isub, 1) := by decide +kernel
theorem dX10_sits_87 : decode cX10_sits 87 = .ok (.iload_n 1, 1) := by decide +kernel
theorem dX10_sits_88 : decode cX10_sits 88 = .ok (.iadd, 1) := by decide +kernel
theorem dX10_sits_89 : decode cX10_sits 89 = .ok (.iload_n 1, 1) := by decide +kernel
theorem dX10_sits_90 : decode cX10_sits 90 = .ok (.irem, 1) := by decide +kernel
theorem dX10_sits_91 : decode cX10_sits 91 = .ok (.istore 5, 2) := by decide +kernel
theorem dX10_sits_93 : decode cX10_sits 93 = .ok (.iload 5, 2) := by decide +kernel
theorem dX10_sits_95 : decode cX10_sits 95 = .ok (.aload_n 0, 1) := by decide +kernel
theorem dX10_sits_96 : decode cX10_sits 96 = .ok (.getfield 19, 3) := by decide +kernel
theorem dX10_sits_99 : decode cX10_sits 99 = .ok (.getfield 120, 3) := by decide +kernel
theorem dX10_sits_102 : decode cX10_sits 102 = .ok (.iload_n 2, 1) := by decide +kernel
theorem dX10_sits_103 : decode cX10_sits 103 = .ok (.iaload, 1) := by decide +kernel
theorem dX10_sits_104 : decode cX10_sits 104 = .ok (.if_icmp .ge 13, 3) := by decide +kernel
theorem dX10_sits_107 : decode cX10_sits 107 = .ok (.iload 4, 2) := by decide +kernel
theorem dX10_sits_109 : decode cX10_sits 109 = .ok (.iload 5, 2) := by decide +kernel
theorem dX10_sits_111 : decode cX10_sits 111 = .ok (.iadd, 1) := by decide +kernel
theorem dX10_sits_112 : decode cX10_sits 112 = .ok (.iload_n 1, 1) := by decide +kernel
theorem dX10_sits_113 : decode cX10_sits 113 = .ok (.idiv, 1) := by decide +kernel
theorem dX10_sits_114 : decode cX10_sits 114 = .ok (.goto 5, 3) := by decide +kernel
theorem dX10_sits_117 : decode cX10_sits 117 = .ok (.bipush (-9), 2) := by decide +kernel
theorem dX10_sits_119 : decode cX10_sits 119 = .ok (.ireturn, 1) := by decide +kernel
theorem dX10_wronged_0 : decode cX10_wronged 0 = .ok (.iload_n 1, 1) := by decide +kernel
theorem dX10_wronged_1 : decode cX10_wronged 1 = .ok (.iconst (-1), 1) := by decide +kernel
theorem dX10_wronged_2 : decode cX10_wronged 2 = .ok (.if_icmp .eq 14, 3) := by decide +kernel
theorem dX10_wronged_5 : decode cX10_wronged 5 = .ok (.aload_n 0, 1) := by decide +kernel
theorem dX10_wronged_6 : decode cX10_wronged 6 = .ok (.iload_n 1, 1) := by decide +kernel
theorem dX10_wronged_7 : decode cX10_wronged 7 = .ok (.invokevirtual 107, 3) := by decide +kernel
theorem dX10_wronged_10 : decode cX10_wronged 10 = .ok (.ifCond .ne 6, 3) := by decide +kernel
theorem dX10_wronged_13 : decode cX10_wronged 13 = .ok (.ldc 142, 2) := by decide +kernel
theorem dX10_wronged_15 : decode cX10_wronged 15 = .ok (.ireturn, 1) := by decide +kernel
theorem dX10_wronged_16 : decode cX10_wronged 16 = .ok (.aload_n 0, 1) := by decide +kernel
theorem dX10_wronged_17 : decode cX10_wronged 17 = .ok (.invokevirtual 111, 3) := by decide +kernel
theorem dX10_wronged_20 : decode cX10_wronged 20 = .ok (.iload_n 1, 1) := by decide +kernel
theorem dX10_wronged_21 : decode cX10_wronged 21 = .ok (.ifCond .lt 9, 3) := by decide +kernel
theorem dX10_wronged_24 : decode cX10_wronged 24 = .ok (.aload_n 0, 1) := by decide +kernel
theorem dX10_wronged_25 : decode cX10_wronged 25 = .ok (.iload_n 1, 1) := by decide +kernel
theorem dX10_wronged_26 : decode cX10_wronged 26 = .ok (.invokevirtual 229, 3) := by decide +kernel
theorem dX10_wronged_29 : decode cX10_wronged 29 = .ok (.ireturn, 1) := by decide +kernel
theorem dX10_wronged_30 : decode cX10_wronged 30 = .ok (.iconst 0, 1) := by decide +kernel
theorem dX10_wronged_31 : decode cX10_wronged 31 = .ok (.istore_n 2, 1) := by decide +kernel
theorem dX10_wronged_32 : decode cX10_wronged 32 = .ok (.iconst 0, 1) := by decide +kernel
theorem dX10_wronged_33 : decode cX10_wronged 33 = .ok (.istore_n 3, 1) := by decide +kernel
theorem dX10_wronged_34 : decode cX10_wronged 34 = .ok (.iload_n 3, 1) := by decide +kernel
theorem dX10_wronged_35 : decode cX10_wronged 35 = .ok (.aload_n 0, 1) := by decide +kernel
theorem dX10_wronged_36 : decode cX10_wronged 36 = .ok (.getfield 73, 3) := by decide +kernel
theorem dX10_wronged_39 : decode cX10_wronged 39 = .ok (.getfield 219, 3) := by decide +kernel
theorem dX10_wronged_42 : decode cX10_wronged 42 = .ok (.if_icmp .ge 20, 3) := by decide +kernel
theorem dX10_wronged_45 : decode cX10_wronged 45 = .ok (.iload_n 2, 1) := by decide +kernel
theorem dX10_wronged_46 : decode cX10_wronged 46 = .ok (.aload_n 0, 1) := by decide +kernel
theorem dX10_wronged_47 : decode cX10_wronged 47 = .ok (.iload_n 3, 1) := by decide +kernel
theorem dX10_wronged_48 : decode cX10_wronged 48 = .ok (.invokevirtual 229, 3) := by decide +kernel
theorem dX10_wronged_51 : decode cX10_wronged 51 = .ok (.invokestatic 232, 3) := by decide +kernel
theorem dX10_wronged_54 : decode cX10_wronged 54 = .ok (.iadd, 1) := by decide +kernel
theorem dX10_wronged_55 : decode cX10_wronged 55 = .ok (.istore_n 2, 1) := by decide +kernel
theorem dX10_wronged_56 : decode cX10_wronged 56 = .ok (.iinc 3 1, 3) := by decide +kernel
theorem dX10_wronged_59 : decode cX10_wronged 59 = .ok (.goto (-25), 3) := by decide +kernel
theorem dX10_wronged_62 : decode cX10_wronged 62 = .ok (.iload_n 2, 1) := by decide +kernel
theorem dX10_wronged_63 : decode cX10_wronged 63 = .ok (.ireturn, 1) := by decide +kernel
theorem dX10_book_0 : decode cX10_book 0 = .ok (.aload_n 0, 1) := by decide +kernel
theorem dX10_book_1 : decode cX10_book 1 = .ok (.iload_n 1, 1) := by decide +kernel
theorem dX10_book_2 : decode cX10_book 2 = .ok (.invokevirtual 107, 3) := by decide +kernel
theorem dX10_book_5 : decode cX10_book 5 = .ok (.ifCond .eq 13, 3) := by decide +kernel
theorem dX10_book_8 : decode cX10_book 8 = .ok (.iload_n 2, 1) := by decide +kernel
theorem dX10_book_9 : decode cX10_book 9 = .ok (.iconst 0, 1) := by decide +kernel
theorem dX10_book_10 : decode cX10_book 10 = .ok (.bipush 60, 2) := by decide +kernel
theorem dX10_book_12 : decode cX10_book 12 = .ok (.invokestatic 90, 3) := by decide +kernel
theorem dX10_book_15 : decode cX10_book 15 = .ok (.ifCond .ne 5, 3) := by decide +kernel
theorem dX10_book_18 : decode cX10_book 18 = .ok (.iconst (-1), 1) := by decide +kernel
theorem dX10_book_19 : decode cX10_book 19 = .ok (.ireturn, 1) := by decide +kernel
theorem dX10_book_20 : decode cX10_book 20 = .ok (.aload_n 0, 1) := by decide +kernel
theorem dX10_book_21 : decode cX10_book 21 = .ok (.getfield 104, 3) := by decide +kernel
theorem dX10_book_24 : decode cX10_book 24 = .ok (.bipush 6, 2) := by decide +kernel
theorem dX10_book_26 : decode cX10_book 26 = .ok (.if_icmp .lt 6, 3) := by decide +kernel
theorem dX10_book_29 : decode cX10_book 29 = .ok (.bipush (-3), 2) := by decide +kernel
theorem dX10_book_31 : decode cX10_book 31 = .ok (.ireturn, 1) := by decide +kernel
theorem dX10_book_32 : decode cX10_book 32 = .ok (.aload_n 0, 1) := by decide +kernel
theorem dX10_book_33 : decode cX10_book 33 = .ok (.getfield 64, 3) := by decide +kernel
theorem dX10_book_36 : decode cX10_book 36 = .ok (.aload_n 0, 1) := by decide +kernel
theorem dX10_book_37 : decode cX10_book 37 = .ok (.getfield 104, 3) := by decide +kernel
theorem dX10_book_40 : decode cX10_book 40 = .ok (.iload_n 1, 1) := by decide +kernel
theorem dX10_book_41 : decode cX10_book 41 = .ok (.iastore, 1) := by decide +kernel
theorem dX10_book_42 : decode cX10_book 42 = .ok (.aload_n 0, 1) := by decide +kernel
theorem dX10_book_43 : decode cX10_book 43 = .ok (.getfield 67, 3) := by decide +kernel
theorem dX10_book_46 : decode cX10_book 46 = .ok (.aload_n 0, 1) := by decide +kernel
theorem dX10_book_47 : decode cX10_book 47 = .ok (.getfield 104, 3) := by decide +kernel
theorem dX10_book_50 : decode cX10_book 50 = .ok (.iload_n 2, 1) := by decide +kernel
theorem dX10_book_51 : decode cX10_book 51 = .ok (.iastore, 1) := by decide +kernel
theorem dX10_book_52 : decode cX10_book 52 = .ok (.aload_n 0, 1) := by decide +kernel
theorem dX10_book_53 : decode cX10_book 53 = .ok (.dup, 1) := by decide +kernel
theorem dX10_book_54 : decode cX10_book 54 = .ok (.getfield 104, 3) := by decide +kernel
theorem dX10_book_57 : decode cX10_book 57 = .ok (.iconst 1, 1) := by decide +kernel
theorem dX10_book_58 : decode cX10_book 58 = .ok (.iadd, 1) := by decide +kernel
theorem dX10_book_59 : decode cX10_book 59 = .ok (.putfield 104, 3) := by decide +kernel
theorem dX10_book_62 : decode cX10_book 62 = .ok (.aload_n 0, 1) := by decide +kernel
theorem dX10_book_63 : decode cX10_book 63 = .ok (.getfield 104, 3) := by decide +kernel
theorem dX10_book_66 : decode cX10_book 66 = .ok (.ireturn, 1) := by decide +kernel
theorem dX10_burn_0 : decode cX10_burn 0 = .ok (.aload_n 0, 1) := by decide +kernel
theorem dX10_burn_1 : decode cX10_burn 1 = .ok (.getfield 104, 3) := by decide +kernel
theorem dX10_burn_4 : decode cX10_burn 4 = .ok (.istore_n 1, 1) := by decide +kernel
theorem dX10_burn_5 : decode cX10_burn 5 = .ok (.aload_n 0, 1) := by decide +kernel
theorem dX10_burn_6 : decode cX10_burn 6 = .ok (.iconst 0, 1) := by decide +kernel
theorem dX10_burn_7 : decode cX10_burn 7 = .ok (.putfield 104, 3) := by decide +kernel
theorem dX10_burn_10 : decode cX10_burn 10 = .ok (.iload_n 1, 1) := by decide +kernel
theorem dX10_burn_11 : decode cX10_burn 11 = .ok (.ireturn, 1) := by decide +kernel
theorem dX10_books_0 : decode cX10_books 0 = .ok (.iload_n 1, 1) := by decide +kernel
theorem dX10_books_1 : decode cX10_books 1 = .ok (.iconst 0, 1) := by decide +kernel
theorem dX10_books_2 : decode cX10_books 2 = .ok (.iconst 2, 1) := by decide +kernel
theorem dX10_books_3 : decode cX10_books 3 = .ok (.invokestatic 90, 3) := by decide +kernel
theorem dX10_books_6 : decode cX10_books 6 = .ok (.ifCond .ne 5, 3) := by decide +kernel
theorem dX10_books_9 : decode cX10_books 9 = .ok (.iconst (-1), 1) := by decide +kernel
theorem dX10_books_10 : decode cX10_books 10 = .ok (.ireturn, 1) := by decide +kernel
theorem dX10_books_11 : decode cX10_books 11 = .ok (.aload_n 0, 1) := by decide +kernel
theorem dX10_books_12 : decode cX10_books 12 = .ok (.getfield 19, 3) := by decide +kernel
theorem dX10_books_15 : decode cX10_books 15 = .ok (.aload_n 0, 1) := by decide +kernel
theorem dX10_books_16 : decode cX10_books 16 = .ok (.getfield 73, 3) := by decide +kernel
theorem dX10_books_19 : decode cX10_books 19 = .ok (.aload_n 0, 1) := by decide +kernel
theorem dX10_books_20 : decode cX10_books 20 = .ok (.getfield 26, 3) := by decide +kernel
theorem dX10_books_23 : decode cX10_books 23 = .ok (.getfield 161, 3) := by decide +kernel
theorem dX10_books_26 : decode cX10_books 26 = .ok (.invokevirtual 235, 3) := by decide +kernel
theorem dX10_books_29 : decode cX10_books 29 = .ok (.iconst 0, 1) := by decide +kernel
theorem dX10_books_30 : decode cX10_books 30 = .ok (.istore_n 2, 1) := by decide +kernel
theorem dX10_books_31 : decode cX10_books 31 = .ok (.bipush (-9), 2) := by decide +kernel
theorem dX10_books_33 : decode cX10_books 33 = .ok (.istore_n 3, 1) := by decide +kernel
theorem dX10_books_34 : decode cX10_books 34 = .ok (.bipush (-9), 2) := by decide +kernel
theorem dX10_books_36 : decode cX10_books 36 = .ok (.istore 4, 2) := by decide +kernel
theorem dX10_books_38 : decode cX10_books 38 = .ok (.iconst 0, 1) := by decide +kernel
theorem dX10_books_39 : decode cX10_books 39 = .ok (.istore 5, 2) := by decide +kernel
theorem dX10_books_41 : decode cX10_books 41 = .ok (.iload 5, 2) := by decide +kernel
theorem dX10_books_43 : decode cX10_books 43 = .ok (.iconst 1, 1) := by decide +kernel
theorem dX10_books_44 : decode cX10_books 44 = .ok (.aload_n 0, 1) := by decide +kernel
theorem dX10_books_45 : decode cX10_books 45 = .ok (.getfield 73, 3) := by decide +kernel
theorem dX10_books_48 : decode cX10_books 48 = .ok (.getfield 239, 3) := by decide +kernel
theorem dX10_books_51 : decode cX10_books 51 = .ok (.ishl, 1) := by decide +kernel
theorem dX10_books_52 : decode cX10_books 52 = .ok (.if_icmp .ge 42, 3) := by decide +kernel
theorem dX10_books_55 : decode cX10_books 55 = .ok (.aload_n 0, 1) := by decide +kernel
theorem dX10_books_56 : decode cX10_books 56 = .ok (.iload 5, 2) := by decide +kernel
theorem dX10_books_58 : decode cX10_books 58 = .ok (.invokevirtual 240, 3) := by decide +kernel
theorem dX10_books_61 : decode cX10_books 61 = .ok (.ifCond .ne 6, 3) := by decide +kernel
theorem dX10_books_64 : decode cX10_books 64 = .ok (.goto 24, 3) := by decide +kernel
theorem dX10_books_67 : decode cX10_books 67 = .ok (.iload_n 2, 1) := by decide +kernel
theorem dX10_books_68 : decode cX10_books 68 = .ok (.ifCond .ne 10, 3) := by decide +kernel
theorem dX10_books_71 : decode cX10_books 71 = .ok (.iload 5, 2) := by decide +kernel
theorem dX10_books_73 : decode cX10_books 73 = .ok (.istore_n 3, 1) := by decide +kernel
theorem dX10_books_74 : decode cX10_books 74 = .ok (.iload 5, 2) := by decide +kernel
theorem dX10_books_76 : decode cX10_books 76 = .ok (.istore 4, 2) := by decide +kernel
theorem dX10_books_78 : decode cX10_books 78 = .ok (.iload 4, 2) := by decide +kernel
theorem dX10_books_80 : decode cX10_books 80 = .ok (.iload 5, 2) := by decide +kernel
theorem dX10_books_82 : decode cX10_books 82 = .ok (.iand, 1) := by decide +kernel
theorem dX10_books_83 : decode cX10_books 83 = .ok (.istore 4, 2) := by decide +kernel
theorem dX10_books_85 : decode cX10_books 85 = .ok (.iinc 2 1, 3) := by decide +kernel
theorem dX10_books_88 : decode cX10_books 88 = .ok (.iinc 5 1, 3) := by decide +kernel
theorem dX10_books_91 : decode cX10_books 91 = .ok (.goto (-50), 3) := by decide +kernel
theorem dX10_books_94 : decode cX10_books 94 = .ok (.iload_n 1, 1) := by decide +kernel
theorem dX10_books_95 : decode cX10_books 95 = .ok (.ifCond .ne 5, 3) := by decide +kernel
theorem dX10_books_98 : decode cX10_books 98 = .ok (.iload_n 2, 1) := by decide +kernel
theorem dX10_books_99 : decode cX10_books 99 = .ok (.ireturn, 1) := by decide +kernel
theorem dX10_books_100 : decode cX10_books 100 = .ok (.iload_n 1, 1) := by decide +kernel
theorem dX10_books_101 : decode cX10_books 101 = .ok (.iconst 1, 1) := by decide +kernel
theorem dX10_books_102 : decode cX10_books 102 = .ok (.if_icmp .ne 7, 3) := by decide +kernel
theorem dX10_books_105 : decode cX10_books 105 = .ok (.iload_n 3, 1) := by decide +kernel
theorem dX10_books_106 : decode cX10_books 106 = .ok (.goto 5, 3) := by decide +kernel
theorem dX10_books_109 : decode cX10_books 109 = .ok (.iload 4, 2) := by decide +kernel
theorem dX10_books_111 : decode cX10_books 111 = .ok (.ireturn, 1) := by decide +kernel
theorem dX10_innocent_0 : decode cX10_innocent 0 = .ok (.aload_n 0, 1) := by decide +kernel
theorem dX10_innocent_1 : decode cX10_innocent 1 = .ok (.iload_n 1, 1) := by decide +kernel
theorem dX10_innocent_2 : decode cX10_innocent 2 = .ok (.invokevirtual 107, 3) := by decide +kernel
theorem dX10_innocent_5 : decode cX10_innocent 5 = .ok (.ifCond .ne 5, 3) := by decide +kernel
theorem dX10_innocent_8 : decode cX10_innocent 8 = .ok (.iconst (-1), 1) := by decide +kernel
theorem dX10_innocent_9 : decode cX10_innocent 9 = .ok (.ireturn, 1) := by decide +kernel
theorem dX10_innocent_10 : decode cX10_innocent 10 = .ok (.aload_n 0, 1) := by decide +kernel
theorem dX10_innocent_11 : decode cX10_innocent 11 = .ok (.getfield 19, 3) := by decide +kernel
theorem dX10_innocent_14 : decode cX10_innocent 14 = .ok (.aload_n 0, 1) := by decide +kernel
theorem dX10_innocent_15 : decode cX10_innocent 15 = .ok (.getfield 73, 3) := by decide +kernel
theorem dX10_innocent_18 : decode cX10_innocent 18 = .ok (.aload_n 0, 1) := by decide +kernel
theorem dX10_innocent_19 : decode cX10_innocent 19 = .ok (.getfield 26, 3) := by decide +kernel
theorem dX10_innocent_22 : decode cX10_innocent 22 = .ok (.getfield 161, 3) := by decide +kernel
theorem dX10_innocent_25 : decode cX10_innocent 25 = .ok (.invokevirtual 235, 3) := by decide +kernel
theorem dX10_innocent_28 : decode cX10_innocent 28 = .ok (.iconst 0, 1) := by decide +kernel
theorem dX10_innocent_29 : decode cX10_innocent 29 = .ok (.istore_n 2, 1) := by decide +kernel
theorem dX10_innocent_30 : decode cX10_innocent 30 = .ok (.iconst 0, 1) := by decide +kernel
theorem dX10_innocent_31 : decode cX10_innocent 31 = .ok (.istore_n 3, 1) := by decide +kernel
theorem dX10_innocent_32 : decode cX10_innocent 32 = .ok (.iload_n 3, 1) := by decide +kernel
theorem dX10_innocent_33 : decode cX10_innocent 33 = .ok (.iconst 1, 1) := by decide +kernel
theorem dX10_innocent_34 : decode cX10_innocent 34 = .ok (.aload_n 0, 1) := by decide +kernel
theorem dX10_innocent_35 : decode cX10_innocent 35 = .ok (.getfield 73, 3) := by decide +kernel
theorem dX10_innocent_38 : decode cX10_innocent 38 = .ok (.getfield 239, 3) := by decide +kernel
theorem dX10_innocent_41 : decode cX10_innocent 41 = .ok (.ishl, 1) := by decide +kernel
theorem dX10_innocent_42 : decode cX10_innocent 42 = .ok (.if_icmp .ge 28, 3) := by decide +kernel
theorem dX10_innocent_45 : decode cX10_innocent 45 = .ok (.aload_n 0, 1) := by decide +kernel
theorem dX10_innocent_46 : decode cX10_innocent 46 = .ok (.getfield 19, 3) := by decide +kernel
theorem dX10_innocent_49 : decode cX10_innocent 49 = .ok (.aload_n 0, 1) := by decide +kernel
theorem dX10_innocent_50 : decode cX10_innocent 50 = .ok (.getfield 73, 3) := by decide +kernel
theorem dX10_innocent_53 : decode cX10_innocent 53 = .ok (.iload_n 3, 1) := by decide +kernel
theorem dX10_innocent_54 : decode cX10_innocent 54 = .ok (.iload_n 1, 1) := by decide +kernel
theorem dX10_innocent_55 : decode cX10_innocent 55 = .ok (.invokevirtual 243, 3) := by decide +kernel
theorem dX10_innocent_58 : decode cX10_innocent 58 = .ok (.ifCond .ne 6, 3) := by decide +kernel
theorem dX10_innocent_61 : decode cX10_innocent 61 = .ok (.iinc 2 1, 3) := by decide +kernel
theorem dX10_innocent_64 : decode cX10_innocent 64 = .ok (.iinc 3 1, 3) := by decide +kernel
theorem dX10_innocent_67 : decode cX10_innocent 67 = .ok (.goto (-35), 3) := by decide +kernel
theorem dX10_innocent_70 : decode cX10_innocent 70 = .ok (.iload_n 2, 1) := by decide +kernel
theorem dX10_innocent_71 : decode cX10_innocent 71 = .ok (.ireturn, 1) := by decide +kernel
theorem dX10_mark_0 : decode cX10_mark 0 = .ok (.iload_n 1, 1) := by decide +kernel
theorem dX10_mark_1 : decode cX10_mark 1 = .ok (.iconst 0, 1) := by decide +kernel
theorem dX10_mark_2 : decode cX10_mark 2 = .ok (.aload_n 0, 1) := by decide +kernel
theorem dX10_mark_3 : decode cX10_mark 3 = .ok (.getfield 56, 3) := by decide +kernel
theorem dX10_mark_6 : decode cX10_mark 6 = .ok (.arraylength, 1) := by decide +kernel
theorem dX10_mark_7 : decode cX10_mark 7 = .ok (.iconst 1, 1) := by decide +kernel
theorem dX10_mark_8 : decode cX10_mark 8 = .ok (.isub, 1) := by decide +kernel
theorem dX10_mark_9 : decode cX10_mark 9 = .ok (.invokestatic 90, 3) := by decide +kernel
theorem dX10_mark_12 : decode cX10_mark 12 = .ok (.ifCond .eq 11, 3) := by decide +kernel
theorem dX10_mark_15 : decode cX10_mark 15 = .ok (.aload_n 0, 1) := by decide +kernel
theorem dX10_mark_16 : decode cX10_mark 16 = .ok (.iload_n 2, 1) := by decide +kernel
theorem dX10_mark_17 : decode cX10_mark 17 = .ok (.invokevirtual 107, 3) := by decide +kernel
theorem dX10_mark_20 : decode cX10_mark 20 = .ok (.ifCond .ne 6, 3) := by decide +kernel
theorem dX10_mark_23 : decode cX10_mark 23 = .ok (.ldc 142, 2) := by decide +kernel
theorem dX10_mark_25 : decode cX10_mark 25 = .ok (.ireturn, 1) := by decide +kernel
theorem dX10_mark_26 : decode cX10_mark 26 = .ok (.aload_n 0, 1) := by decide +kernel
theorem dX10_mark_27 : decode cX10_mark 27 = .ok (.invokevirtual 111, 3) := by decide +kernel
theorem dX10_mark_30 : decode cX10_mark 30 = .ok (.aload_n 0, 1) := by decide +kernel
theorem dX10_mark_31 : decode cX10_mark 31 = .ok (.getfield 56, 3) := by decide +kernel
theorem dX10_mark_34 : decode cX10_mark 34 = .ok (.iload_n 1, 1) := by decide +kernel
theorem dX10_mark_35 : decode cX10_mark 35 = .ok (.aaload, 1) := by decide +kernel
theorem dX10_mark_36 : decode cX10_mark 36 = .ok (.aload_n 0, 1) := by decide +kernel
theorem dX10_mark_37 : decode cX10_mark 37 = .ok (.iload_n 2, 1) := by decide +kernel
theorem dX10_mark_38 : decode cX10_mark 38 = .ok (.invokevirtual 247, 3) := by decide +kernel
theorem dX10_mark_41 : decode cX10_mark 41 = .ok (.ireturn, 1) := by decide +kernel
theorem dX10_keep_0 : decode cX10_keep 0 = .ok (.iload_n 1, 1) := by decide +kernel
theorem dX10_keep_1 : decode cX10_keep 1 = .ok (.iconst 0, 1) := by decide +kernel
theorem dX10_keep_2 : decode cX10_keep 2 = .ok (.iconst 1, 1) := by decide +kernel
theorem dX10_keep_3 : decode cX10_keep 3 = .ok (.invokestatic 90, 3) := by decide +kernel
theorem dX10_keep_6 : decode cX10_keep 6 = .ok (.ifCond .ne 5, 3) := by decide +kernel
theorem dX10_keep_9 : decode cX10_keep 9 = .ok (.iconst (-1), 1) := by decide +kernel
theorem dX10_keep_10 : decode cX10_keep 10 = .ok (.ireturn, 1) := by decide +kernel
theorem dX10_keep_11 : decode cX10_keep 11 = .ok (.aload_n 0, 1) := by decide +kernel
theorem dX10_keep_12 : decode cX10_keep 12 = .ok (.getfield 30, 3) := by decide +kernel
theorem dX10_keep_15 : decode cX10_keep 15 = .ok (.iload_n 1, 1) := by decide +kernel
theorem dX10_keep_16 : decode cX10_keep 16 = .ok (.aaload, 1) := by decide +kernel
theorem dX10_keep_17 : decode cX10_keep 17 = .ok (.aload_n 0, 1) := by decide +kernel
theorem dX10_keep_18 : decode cX10_keep 18 = .ok (.getfield 26, 3) := by decide +kernel
theorem dX10_keep_21 : decode cX10_keep 21 = .ok (.invokevirtual 251, 3) := by decide +kernel
theorem dX10_keep_24 : decode cX10_keep 24 = .ok (.aload_n 0, 1) := by decide +kernel
theorem dX10_keep_25 : decode cX10_keep 25 = .ok (.getfield 34, 3) := by decide +kernel
theorem dX10_keep_28 : decode cX10_keep 28 = .ok (.iload_n 1, 1) := by decide +kernel
theorem dX10_keep_29 : decode cX10_keep 29 = .ok (.iconst 1, 1) := by decide +kernel
theorem dX10_keep_30 : decode cX10_keep 30 = .ok (.bastore, 1) := by decide +kernel
theorem dX10_keep_31 : decode cX10_keep 31 = .ok (.aload_n 0, 1) := by decide +kernel
theorem dX10_keep_32 : decode cX10_keep 32 = .ok (.invokevirtual 167, 3) := by decide +kernel
theorem dX10_keep_35 : decode cX10_keep 35 = .ok (.ireturn, 1) := by decide +kernel
theorem dX10_back_0 : decode cX10_back 0 = .ok (.iload_n 1, 1) := by decide +kernel
theorem dX10_back_1 : decode cX10_back 1 = .ok (.iconst 0, 1) := by decide +kernel
theorem dX10_back_2 : decode cX10_back 2 = .ok (.iconst 1, 1) := by decide +kernel
theorem dX10_back_3 : decode cX10_back 3 = .ok (.invokestatic 90, 3) := by decide +kernel
theorem dX10_back_6 : decode cX10_back 6 = .ok (.ifCond .ne 5, 3) := by decide +kernel
theorem dX10_back_9 : decode cX10_back 9 = .ok (.iconst (-1), 1) := by decide +kernel
theorem dX10_back_10 : decode cX10_back 10 = .ok (.ireturn, 1) := by decide +kernel
theorem dX10_back_11 : decode cX10_back 11 = .ok (.aload_n 0, 1) := by decide +kernel
theorem dX10_back_12 : decode cX10_back 12 = .ok (.getfield 34, 3) := by decide +kernel
theorem dX10_back_15 : decode cX10_back 15 = .ok (.iload_n 1, 1) := by decide +kernel
theorem dX10_back_16 : decode cX10_back 16 = .ok (.baload, 1) := by decide +kernel
theorem dX10_back_17 : decode cX10_back 17 = .ok (.ifCond .ne 6, 3) := by decide +kernel
theorem dX10_back_20 : decode cX10_back 20 = .ok (.bipush (-2), 2) := by decide +kernel
theorem dX10_back_22 : decode cX10_back 22 = .ok (.ireturn, 1) := by decide +kernel
theorem dX10_back_23 : decode cX10_back 23 = .ok (.aload_n 0, 1) := by decide +kernel
theorem dX10_back_24 : decode cX10_back 24 = .ok (.getfield 26, 3) := by decide +kernel
theorem dX10_back_27 : decode cX10_back 27 = .ok (.aload_n 0, 1) := by decide +kernel
theorem dX10_back_28 : decode cX10_back 28 = .ok (.getfield 30, 3) := by decide +kernel
theorem dX10_back_31 : decode cX10_back 31 = .ok (.iload_n 1, 1) := by decide +kernel
theorem dX10_back_32 : decode cX10_back 32 = .ok (.aaload, 1) := by decide +kernel
theorem dX10_back_33 : decode cX10_back 33 = .ok (.invokevirtual 251, 3) := by decide +kernel
theorem dX10_back_36 : decode cX10_back 36 = .ok (.aload_n 0, 1) := by decide +kernel
theorem dX10_back_37 : decode cX10_back 37 = .ok (.invokevirtual 167, 3) := by decide +kernel
theorem dX10_back_40 : decode cX10_back 40 = .ok (.ireturn, 1) := by decide +kernel
theorem dX10_count_0 : decode cX10_count 0 = .ok (.iload_n 1, 1) := by decide +kernel
theorem dX10_count_1 : decode cX10_count 1 = .ok (.tableswitch 84 0 5 #[39, 47, 55, 63, 68, 76], 39) := by decide +kernel
theorem dX10_count_40 : decode cX10_count 40 = .ok (.aload_n 0, 1) := by decide +kernel
theorem dX10_count_41 : decode cX10_count 41 = .ok (.getfield 73, 3) := by decide +kernel
theorem dX10_count_44 : decode cX10_count 44 = .ok (.getfield 219, 3) := by decide +kernel
theorem dX10_count_47 : decode cX10_count 47 = .ok (.ireturn, 1) := by decide +kernel
theorem dX10_count_48 : decode cX10_count 48 = .ok (.aload_n 0, 1) := by decide +kernel
theorem dX10_count_49 : decode cX10_count 49 = .ok (.getfield 73, 3) := by decide +kernel
theorem dX10_count_52 : decode cX10_count 52 = .ok (.getfield 239, 3) := by decide +kernel
theorem dX10_count_55 : decode cX10_count 55 = .ok (.ireturn, 1) := by decide +kernel
theorem dX10_count_56 : decode cX10_count 56 = .ok (.aload_n 0, 1) := by decide +kernel
theorem dX10_count_57 : decode cX10_count 57 = .ok (.getfield 73, 3) := by decide +kernel
theorem dX10_count_60 : decode cX10_count 60 = .ok (.getfield 255, 3) := by decide +kernel
theorem dX10_count_63 : decode cX10_count 63 = .ok (.ireturn, 1) := by decide +kernel
theorem dX10_count_64 : decode cX10_count 64 = .ok (.aload_n 0, 1) := by decide +kernel
theorem dX10_count_65 : decode cX10_count 65 = .ok (.getfield 104, 3) := by decide +kernel
theorem dX10_count_68 : decode cX10_count 68 = .ok (.ireturn, 1) := by decide +kernel
theorem dX10_count_69 : decode cX10_count 69 = .ok (.aload_n 0, 1) := by decide +kernel
theorem dX10_count_70 : decode cX10_count 70 = .ok (.getfield 26, 3) := by decide +kernel
theorem dX10_count_73 : decode cX10_count 73 = .ok (.getfield 172, 3) := by decide +kernel
theorem dX10_count_76 : decode cX10_count 76 = .ok (.ireturn, 1) := by decide +kernel
theorem dX10_count_77 : decode cX10_count 77 = .ok (.aload_n 0, 1) := by decide +kernel
theorem dX10_count_78 : decode cX10_count 78 = .ok (.getfield 10, 3) := by decide +kernel
theorem dX10_count_81 : decode cX10_count 81 = .ok (.getfield 94, 3) := by decide +kernel
theorem dX10_count_84 : decode cX10_count 84 = .ok (.ireturn, 1) := by decide +kernel
theorem dX10_count_85 : decode cX10_count 85 = .ok (.iconst (-1), 1) := by decide +kernel
theorem dX10_count_86 : decode cX10_count 86 = .ok (.ireturn, 1) := by decide +kernel
theorem dX10_trace_0 : decode cX10_trace 0 = .ok (.aload_n 0, 1) := by decide +kernel
theorem dX10_trace_1 : decode cX10_trace 1 = .ok (.getfield 256, 3) := by decide +kernel
theorem dX10_trace_4 : decode cX10_trace 4 = .ok (.lreturn, 1) := by decide +kernel
theorem dX10_within_0 : decode cX10_within 0 = .ok (.iload_n 0, 1) := by decide +kernel
theorem dX10_within_1 : decode cX10_within 1 = .ok (.iload_n 1, 1) := by decide +kernel
theorem dX10_within_2 : decode cX10_within 2 = .ok (.if_icmp .lt 12, 3) := by decide +kernel
theorem dX10_within_5 : decode cX10_within 5 = .ok (.iload_n 0, 1) := by decide +kernel
theorem dX10_within_6 : decode cX10_within 6 = .ok (.iload_n 2, 1) := by decide +kernel
theorem dX10_within_7 : decode cX10_within 7 = .ok (.if_icmp .gt 7, 3) := by decide +kernel
theorem dX10_within_10 : decode cX10_within 10 = .ok (.iconst 1, 1) := by decide +kernel
theorem dX10_within_11 : decode cX10_within 11 = .ok (.goto 4, 3) := by decide +kernel
theorem dX10_within_14 : decode cX10_within 14 = .ok (.iconst 0, 1) := by decide +kernel
theorem dX10_within_15 : decode cX10_within 15 = .ok (.ireturn, 1) := by decide +kernel
theorem dX10_bit_0 : decode cX10_bit 0 = .ok (.iload_n 0, 1) := by decide +kernel
theorem dX10_bit_1 : decode cX10_bit 1 = .ok (.iload_n 1, 1) := by decide +kernel
theorem dX10_bit_2 : decode cX10_bit 2 = .ok (.ishr, 1) := by decide +kernel
theorem dX10_bit_3 : decode cX10_bit 3 = .ok (.iconst 1, 1) := by decide +kernel
theorem dX10_bit_4 : decode cX10_bit 4 = .ok (.iand, 1) := by decide +kernel
theorem dX10_bit_5 : decode cX10_bit 5 = .ok (.ireturn, 1) := by decide +kernel
theorem dX10_isSuspect_0 : decode cX10_isSuspect 0 = .ok (.iload_n 1, 1) := by decide +kernel
theorem dX10_isSuspect_1 : decode cX10_isSuspect 1 = .ok (.iconst 0, 1) := by decide +kernel
theorem dX10_isSuspect_2 : decode cX10_isSuspect 2 = .ok (.aload_n 0, 1) := by decide +kernel
theorem dX10_isSuspect_3 : decode cX10_isSuspect 3 = .ok (.getfield 73, 3) := by decide +kernel
theorem dX10_isSuspect_6 : decode cX10_isSuspect 6 = .ok (.getfield 219, 3) := by decide +kernel
theorem dX10_isSuspect_9 : decode cX10_isSuspect 9 = .ok (.iconst 1, 1) := by decide +kernel
theorem dX10_isSuspect_10 : decode cX10_isSuspect 10 = .ok (.isub, 1) := by decide +kernel
theorem dX10_isSuspect_11 : decode cX10_isSuspect 11 = .ok (.invokestatic 90, 3) := by decide +kernel
theorem dX10_isSuspect_14 : decode cX10_isSuspect 14 = .ok (.ireturn, 1) := by decide +kernel
theorem dX10_isFact_0 : decode cX10_isFact 0 = .ok (.iload_n 1, 1) := by decide +kernel
theorem dX10_isFact_1 : decode cX10_isFact 1 = .ok (.iconst 0, 1) := by decide +kernel
theorem dX10_isFact_2 : decode cX10_isFact 2 = .ok (.aload_n 0, 1) := by decide +kernel
theorem dX10_isFact_3 : decode cX10_isFact 3 = .ok (.getfield 73, 3) := by decide +kernel
theorem dX10_isFact_6 : decode cX10_isFact 6 = .ok (.getfield 239, 3) := by decide +kernel
theorem dX10_isFact_9 : decode cX10_isFact 9 = .ok (.iconst 1, 1) := by decide +kernel
theorem dX10_isFact_10 : decode cX10_isFact 10 = .ok (.isub, 1) := by decide +kernel
theorem dX10_isFact_11 : decode cX10_isFact 11 = .ok (.invokestatic 90, 3) := by decide +kernel
theorem dX10_isFact_14 : decode cX10_isFact 14 = .ok (.ireturn, 1) := by decide +kernel
theorem dX10_isAlibi_0 : decode cX10_isAlibi 0 = .ok (.iload_n 1, 1) := by decide +kernel
theorem dX10_isAlibi_1 : decode cX10_isAlibi 1 = .ok (.iconst 0, 1) := by decide +kernel
theorem dX10_isAlibi_2 : decode cX10_isAlibi 2 = .ok (.aload_n 0, 1) := by decide +kernel
theorem dX10_isAlibi_3 : decode cX10_isAlibi 3 = .ok (.getfield 73, 3) := by decide +kernel
theorem dX10_isAlibi_6 : decode cX10_isAlibi 6 = .ok (.getfield 255, 3) := by decide +kernel
theorem dX10_isAlibi_9 : decode cX10_isAlibi 9 = .ok (.iconst 1, 1) := by decide +kernel
theorem dX10_isAlibi_10 : decode cX10_isAlibi 10 = .ok (.isub, 1) := by decide +kernel
theorem dX10_isAlibi_11 : decode cX10_isAlibi 11 = .ok (.invokestatic 90, 3) := by decide +kernel
theorem dX10_isAlibi_14 : decode cX10_isAlibi 14 = .ok (.ireturn, 1) := by decide +kernel
theorem dX10_isFraction_0 : decode cX10_isFraction 0 = .ok (.iload_n 1, 1) := by decide +kernel
theorem dX10_isFraction_1 : decode cX10_isFraction 1 = .ok (.iconst 1, 1) := by decide +kernel
theorem dX10_isFraction_2 : decode cX10_isFraction 2 = .ok (.bipush 20, 2) := by decide +kernel
theorem dX10_isFraction_4 : decode cX10_isFraction 4 = .ok (.invokestatic 90, 3) := by decide +kernel
theorem dX10_isFraction_7 : decode cX10_isFraction 7 = .ok (.ifCond .eq 16, 3) := by decide +kernel
theorem dX10_isFraction_10 : decode cX10_isFraction 10 = .ok (.iload_n 0, 1) := by decide +kernel
theorem dX10_isFraction_11 : decode cX10_isFraction 11 = .ok (.iconst 0, 1) := by decide +kernel
theorem dX10_isFraction_12 : decode cX10_isFraction 12 = .ok (.iload_n 1, 1) := by decide +kernel
theorem dX10_isFraction_13 : decode cX10_isFraction 13 = .ok (.invokestatic 90, 3) := by decide +kernel
theorem dX10_isFraction_16 : decode cX10_isFraction 16 = .ok (.ifCond .eq 7, 3) := by decide +kernel
theorem dX10_isFraction_19 : decode cX10_isFraction 19 = .ok (.iconst 1, 1) := by decide +kernel
theorem dX10_isFraction_20 : decode cX10_isFraction 20 = .ok (.goto 4, 3) := by decide +kernel
theorem dX10_isFraction_23 : decode cX10_isFraction 23 = .ok (.iconst 0, 1) := by decide +kernel
theorem dX10_isFraction_24 : decode cX10_isFraction 24 = .ok (.ireturn, 1) := by decide +kernel
theorem dX10_weighNow_0 : decode cX10_weighNow 0 = .ok (.aload_n 0, 1) := by decide +kernel
theorem dX10_weighNow_1 : decode cX10_weighNow 1 = .ok (.getfield 19, 3) := by decide +kernel
theorem dX10_weighNow_4 : decode cX10_weighNow 4 = .ok (.aload_n 0, 1) := by decide +kernel
theorem dX10_weighNow_5 : decode cX10_weighNow 5 = .ok (.getfield 73, 3) := by decide +kernel
theorem dX10_weighNow_8 : decode cX10_weighNow 8 = .ok (.aload_n 0, 1) := by decide +kernel
theorem dX10_weighNow_9 : decode cX10_weighNow 9 = .ok (.getfield 26, 3) := by decide +kernel
theorem dX10_weighNow_12 : decode cX10_weighNow 12 = .ok (.getfield 161, 3) := by decide +kernel
theorem dX10_weighNow_15 : decode cX10_weighNow 15 = .ok (.invokevirtual 235, 3) := by decide +kernel
theorem dX10_weighNow_18 : decode cX10_weighNow 18 = .ok (.aload_n 0, 1) := by decide +kernel
theorem dX10_weighNow_19 : decode cX10_weighNow 19 = .ok (.getfield 19, 3) := by decide +kernel
theorem dX10_weighNow_22 : decode cX10_weighNow 22 = .ok (.aload_n 0, 1) := by decide +kernel
theorem dX10_weighNow_23 : decode cX10_weighNow 23 = .ok (.getfield 73, 3) := by decide +kernel
theorem dX10_weighNow_26 : decode cX10_weighNow 26 = .ok (.aload_n 0, 1) := by decide +kernel
theorem dX10_weighNow_27 : decode cX10_weighNow 27 = .ok (.getfield 26, 3) := by decide +kernel
theorem dX10_weighNow_30 : decode cX10_weighNow 30 = .ok (.getfield 135, 3) := by decide +kernel
theorem dX10_weighNow_33 : decode cX10_weighNow 33 = .ok (.invokevirtual 260, 3) := by decide +kernel
theorem dX10_weighNow_36 : decode cX10_weighNow 36 = .ok (.aload_n 0, 1) := by decide +kernel
theorem dX10_weighNow_37 : decode cX10_weighNow 37 = .ok (.getfield 19, 3) := by decide +kernel
theorem dX10_weighNow_40 : decode cX10_weighNow 40 = .ok (.aload_n 0, 1) := by decide +kernel
theorem dX10_weighNow_41 : decode cX10_weighNow 41 = .ok (.getfield 26, 3) := by decide +kernel
theorem dX10_weighNow_44 : decode cX10_weighNow 44 = .ok (.getfield 171, 3) := by decide +kernel
theorem dX10_weighNow_47 : decode cX10_weighNow 47 = .ok (.invokevirtual 263, 3) := by decide +kernel
theorem dX10_weighNow_50 : decode cX10_weighNow 50 = .ok (.return_, 1) := by decide +kernel
theorem dX10_caseNow_0 : decode cX10_caseNow 0 = .ok (.aload_n 0, 1) := by decide +kernel
theorem dX10_caseNow_1 : decode cX10_caseNow 1 = .ok (.invokevirtual 111, 3) := by decide +kernel
theorem dX10_caseNow_4 : decode cX10_caseNow 4 = .ok (.aload_n 0, 1) := by decide +kernel
theorem dX10_caseNow_5 : decode cX10_caseNow 5 = .ok (.getfield 19, 3) := by decide +kernel
theorem dX10_caseNow_8 : decode cX10_caseNow 8 = .ok (.getfield 178, 3) := by decide +kernel
theorem dX10_caseNow_11 : decode cX10_caseNow 11 = .ok (.ireturn, 1) := by decide +kernel
theorem dX10_commonDivisor_0 : decode cX10_commonDivisor 0 = .ok (.iload_n 0, 1) := by decide +kernel
theorem dX10_commonDivisor_1 : decode cX10_commonDivisor 1 = .ok (.istore_n 2, 1) := by decide +kernel
theorem dX10_commonDivisor_2 : decode cX10_commonDivisor 2 = .ok (.iload_n 1, 1) := by decide +kernel
theorem dX10_commonDivisor_3 : decode cX10_commonDivisor 3 = .ok (.istore_n 3, 1) := by decide +kernel
theorem dX10_commonDivisor_4 : decode cX10_commonDivisor 4 = .ok (.iconst 0, 1) := by decide +kernel
theorem dX10_commonDivisor_5 : decode cX10_commonDivisor 5 = .ok (.istore 4, 2) := by decide +kernel
theorem dX10_commonDivisor_7 : decode cX10_commonDivisor 7 = .ok (.iload 4, 2) := by decide +kernel
theorem dX10_commonDivisor_9 : decode cX10_commonDivisor 9 = .ok (.bipush 64, 2) := by decide +kernel
theorem dX10_commonDivisor_11 : decode cX10_commonDivisor 11 = .ok (.if_icmp .ge 23, 3) := by decide +kernel
theorem dX10_commonDivisor_14 : decode cX10_commonDivisor 14 = .ok (.iload_n 3, 1) := by decide +kernel
theorem dX10_commonDivisor_15 : decode cX10_commonDivisor 15 = .ok (.ifCond .eq 19, 3) := by decide +kernel
theorem dX10_commonDivisor_18 : decode cX10_commonDivisor 18 = .ok (.iload_n 2, 1) := by decide +kernel
theorem dX10_commonDivisor_19 : decode cX10_commonDivisor 19 = .ok (.iload_n 3, 1) := by decide +kernel
theorem dX10_commonDivisor_20 : decode cX10_commonDivisor 20 = .ok (.irem, 1) := by decide +kernel
theorem dX10_commonDivisor_21 : decode cX10_commonDivisor 21 = .ok (.istore 5, 2) := by decide +kernel
theorem dX10_commonDivisor_23 : decode cX10_commonDivisor 23 = .ok (.iload_n 3, 1) := by decide +kernel
theorem dX10_commonDivisor_24 : decode cX10_commonDivisor 24 = .ok (.istore_n 2, 1) := by decide +kernel
theorem dX10_commonDivisor_25 : decode cX10_commonDivisor 25 = .ok (.iload 5, 2) := by decide +kernel
theorem dX10_commonDivisor_27 : decode cX10_commonDivisor 27 = .ok (.istore_n 3, 1) := by decide +kernel
theorem dX10_commonDivisor_28 : decode cX10_commonDivisor 28 = .ok (.iinc 4 1, 3) := by decide +kernel
theorem dX10_commonDivisor_31 : decode cX10_commonDivisor 31 = .ok (.goto (-24), 3) := by decide +kernel
theorem dX10_commonDivisor_34 : decode cX10_commonDivisor 34 = .ok (.iconst 1, 1) := by decide +kernel
theorem dX10_commonDivisor_35 : decode cX10_commonDivisor 35 = .ok (.iload_n 2, 1) := by decide +kernel
theorem dX10_commonDivisor_36 : decode cX10_commonDivisor 36 = .ok (.invokestatic 204, 3) := by decide +kernel
theorem dX10_commonDivisor_39 : decode cX10_commonDivisor 39 = .ok (.ireturn, 1) := by decide +kernel
theorem dX10_isNoMore_0 : decode cX10_isNoMore 0 = .ok (.iload_n 1, 1) := by decide +kernel
theorem dX10_isNoMore_1 : decode cX10_isNoMore 1 = .ok (.ifCond .eq 12, 3) := by decide +kernel
theorem dX10_isNoMore_4 : decode cX10_isNoMore 4 = .ok (.iload_n 0, 1) := by decide +kernel
theorem dX10_isNoMore_5 : decode cX10_isNoMore 5 = .ok (.iload_n 3, 1) := by decide +kernel
theorem dX10_isNoMore_6 : decode cX10_isNoMore 6 = .ok (.imul, 1) := by decide +kernel
theorem dX10_isNoMore_7 : decode cX10_isNoMore 7 = .ok (.iload_n 2, 1) := by decide +kernel
theorem dX10_isNoMore_8 : decode cX10_isNoMore 8 = .ok (.iload_n 1, 1) := by decide +kernel
theorem dX10_isNoMore_9 : decode cX10_isNoMore 9 = .ok (.imul, 1) := by decide +kernel
theorem dX10_isNoMore_10 : decode cX10_isNoMore 10 = .ok (.if_icmp .gt 7, 3) := by decide +kernel
theorem dX10_isNoMore_13 : decode cX10_isNoMore 13 = .ok (.iconst 1, 1) := by decide +kernel
theorem dX10_isNoMore_14 : decode cX10_isNoMore 14 = .ok (.goto 4, 3) := by decide +kernel
theorem dX10_isNoMore_17 : decode cX10_isNoMore 17 = .ok (.iconst 0, 1) := by decide +kernel
theorem dX10_isNoMore_18 : decode cX10_isNoMore 18 = .ok (.ireturn, 1) := by decide +kernel
theorem dX10_isNoLess_0 : decode cX10_isNoLess 0 = .ok (.iload_n 1, 1) := by decide +kernel
theorem dX10_isNoLess_1 : decode cX10_isNoLess 1 = .ok (.ifCond .eq 16, 3) := by decide +kernel
theorem dX10_isNoLess_4 : decode cX10_isNoLess 4 = .ok (.iload_n 0, 1) := by decide +kernel
theorem dX10_isNoLess_5 : decode cX10_isNoLess 5 = .ok (.iload_n 3, 1) := by decide +kernel
theorem dX10_isNoLess_6 : decode cX10_isNoLess 6 = .ok (.imul, 1) := by decide +kernel
theorem dX10_isNoLess_7 : decode cX10_isNoLess 7 = .ok (.iload_n 2, 1) := by decide +kernel
theorem dX10_isNoLess_8 : decode cX10_isNoLess 8 = .ok (.iload_n 1, 1) := by decide +kernel
theorem dX10_isNoLess_9 : decode cX10_isNoLess 9 = .ok (.imul, 1) := by decide +kernel
theorem dX10_isNoLess_10 : decode cX10_isNoLess 10 = .ok (.if_icmp .lt 7, 3) := by decide +kernel
theorem dX10_isNoLess_13 : decode cX10_isNoLess 13 = .ok (.iconst 1, 1) := by decide +kernel
theorem dX10_isNoLess_14 : decode cX10_isNoLess 14 = .ok (.goto 4, 3) := by decide +kernel
theorem dX10_isNoLess_17 : decode cX10_isNoLess 17 = .ok (.iconst 0, 1) := by decide +kernel
theorem dX10_isNoLess_18 : decode cX10_isNoLess 18 = .ok (.ireturn, 1) := by decide +kernel
theorem dX10_cheapest_0 : decode cX10_cheapest 0 = .ok (.aload_n 0, 1) := by decide +kernel
theorem dX10_cheapest_1 : decode cX10_cheapest 1 = .ok (.getfield 19, 3) := by decide +kernel
theorem dX10_cheapest_4 : decode cX10_cheapest 4 = .ok (.aload_n 0, 1) := by decide +kernel
theorem dX10_cheapest_5 : decode cX10_cheapest 5 = .ok (.getfield 73, 3) := by decide +kernel
theorem dX10_cheapest_8 : decode cX10_cheapest 8 = .ok (.aload_n 0, 1) := by decide +kernel
theorem dX10_cheapest_9 : decode cX10_cheapest 9 = .ok (.getfield 26, 3) := by decide +kernel
theorem dX10_cheapest_12 : decode cX10_cheapest 12 = .ok (.getfield 161, 3) := by decide +kernel
theorem dX10_cheapest_15 : decode cX10_cheapest 15 = .ok (.invokevirtual 235, 3) := by decide +kernel
theorem dX10_cheapest_18 : decode cX10_cheapest 18 = .ok (.bipush (-9), 2) := by decide +kernel
theorem dX10_cheapest_20 : decode cX10_cheapest 20 = .ok (.istore 5, 2) := by decide +kernel
theorem dX10_cheapest_22 : decode cX10_cheapest 22 = .ok (.iconst 0, 1) := by decide +kernel
theorem dX10_cheapest_23 : decode cX10_cheapest 23 = .ok (.istore 6, 2) := by decide +kernel
theorem dX10_cheapest_25 : decode cX10_cheapest 25 = .ok (.iconst 0, 1) := by decide +kernel
theorem dX10_cheapest_26 : decode cX10_cheapest 26 = .ok (.istore 7, 2) := by decide +kernel
theorem dX10_cheapest_28 : decode cX10_cheapest 28 = .ok (.iload 7, 2) := by decide +kernel
theorem dX10_cheapest_30 : decode cX10_cheapest 30 = .ok (.iconst 1, 1) := by decide +kernel
theorem dX10_cheapest_31 : decode cX10_cheapest 31 = .ok (.aload_n 0, 1) := by decide +kernel
theorem dX10_cheapest_32 : decode cX10_cheapest 32 = .ok (.getfield 73, 3) := by decide +kernel
theorem dX10_cheapest_35 : decode cX10_cheapest 35 = .ok (.getfield 239, 3) := by decide +kernel
theorem dX10_cheapest_38 : decode cX10_cheapest 38 = .ok (.ishl, 1) := by decide +kernel
theorem dX10_cheapest_39 : decode cX10_cheapest 39 = .ok (.if_icmp .ge 135, 3) := by decide +kernel
theorem dX10_cheapest_42 : decode cX10_cheapest 42 = .ok (.iload 7, 2) := by decide +kernel
theorem dX10_cheapest_44 : decode cX10_cheapest 44 = .ok (.aload_n 0, 1) := by decide +kernel
theorem dX10_cheapest_45 : decode cX10_cheapest 45 = .ok (.getfield 26, 3) := by decide +kernel
theorem dX10_cheapest_48 : decode cX10_cheapest 48 = .ok (.getfield 135, 3) := by decide +kernel
theorem dX10_cheapest_51 : decode cX10_cheapest 51 = .ok (.iand, 1) := by decide +kernel
theorem dX10_cheapest_52 : decode cX10_cheapest 52 = .ok (.ifCond .eq 6, 3) := by decide +kernel
theorem dX10_cheapest_55 : decode cX10_cheapest 55 = .ok (.goto 113, 3) := by decide +kernel
theorem dX10_cheapest_58 : decode cX10_cheapest 58 = .ok (.aload_n 0, 1) := by decide +kernel
theorem dX10_cheapest_59 : decode cX10_cheapest 59 = .ok (.getfield 73, 3) := by decide +kernel
theorem dX10_cheapest_62 : decode cX10_cheapest 62 = .ok (.iload 7, 2) := by decide +kernel
theorem dX10_cheapest_64 : decode cX10_cheapest 64 = .ok (.invokevirtual 266, 3) := by decide +kernel
theorem dX10_cheapest_67 : decode cX10_cheapest 67 = .ok (.istore 8, 2) := by decide +kernel
theorem dX10_cheapest_69 : decode cX10_cheapest 69 = .ok (.iload 5, 2) := by decide +kernel
theorem dX10_cheapest_71 : decode cX10_cheapest 71 = .ok (.bipush (-9), 2) := by decide +kernel
theorem dX10_cheapest_73 : decode cX10_cheapest 73 = .ok (.if_icmp .eq 13, 3) := by decide +kernel
theorem dX10_cheapest_76 : decode cX10_cheapest 76 = .ok (.iload 8, 2) := by decide +kernel
theorem dX10_cheapest_78 : decode cX10_cheapest 78 = .ok (.iload 6, 2) := by decide +kernel
theorem dX10_cheapest_80 : decode cX10_cheapest 80 = .ok (.if_icmp .lt 6, 3) := by decide +kernel
theorem dX10_cheapest_83 : decode cX10_cheapest 83 = .ok (.goto 85, 3) := by decide +kernel
theorem dX10_cheapest_86 : decode cX10_cheapest 86 = .ok (.aload_n 0, 1) := by decide +kernel
theorem dX10_cheapest_87 : decode cX10_cheapest 87 = .ok (.getfield 19, 3) := by decide +kernel
theorem dX10_cheapest_90 : decode cX10_cheapest 90 = .ok (.aload_n 0, 1) := by decide +kernel
theorem dX10_cheapest_91 : decode cX10_cheapest 91 = .ok (.getfield 73, 3) := by decide +kernel
theorem dX10_cheapest_94 : decode cX10_cheapest 94 = .ok (.iload 7, 2) := by decide +kernel
theorem dX10_cheapest_96 : decode cX10_cheapest 96 = .ok (.aload_n 0, 1) := by decide +kernel
theorem dX10_cheapest_97 : decode cX10_cheapest 97 = .ok (.getfield 26, 3) := by decide +kernel
theorem dX10_cheapest_100 : decode cX10_cheapest 100 = .ok (.getfield 135, 3) := by decide +kernel
theorem dX10_cheapest_103 : decode cX10_cheapest 103 = .ok (.ior, 1) := by decide +kernel
theorem dX10_cheapest_104 : decode cX10_cheapest 104 = .ok (.invokevirtual 260, 3) := by decide +kernel
theorem dX10_cheapest_107 : decode cX10_cheapest 107 = .ok (.aload_n 0, 1) := by decide +kernel
theorem dX10_cheapest_108 : decode cX10_cheapest 108 = .ok (.getfield 19, 3) := by decide +kernel
theorem dX10_cheapest_111 : decode cX10_cheapest 111 = .ok (.getfield 117, 3) := by decide +kernel
theorem dX10_cheapest_114 : decode cX10_cheapest 114 = .ok (.iload_n 1, 1) := by decide +kernel
theorem dX10_cheapest_115 : decode cX10_cheapest 115 = .ok (.iaload, 1) := by decide +kernel
theorem dX10_cheapest_116 : decode cX10_cheapest 116 = .ok (.istore 9, 2) := by decide +kernel
theorem dX10_cheapest_118 : decode cX10_cheapest 118 = .ok (.iload 4, 2) := by decide +kernel
theorem dX10_cheapest_120 : decode cX10_cheapest 120 = .ok (.ifCond .eq 23, 3) := by decide +kernel
theorem dX10_cheapest_123 : decode cX10_cheapest 123 = .ok (.iload 9, 2) := by decide +kernel
theorem dX10_cheapest_125 : decode cX10_cheapest 125 = .ok (.aload_n 0, 1) := by decide +kernel
theorem dX10_cheapest_126 : decode cX10_cheapest 126 = .ok (.getfield 19, 3) := by decide +kernel
theorem dX10_cheapest_129 : decode cX10_cheapest 129 = .ok (.getfield 178, 3) := by decide +kernel
theorem dX10_cheapest_132 : decode cX10_cheapest 132 = .ok (.iload_n 2, 1) := by decide +kernel
theorem dX10_cheapest_133 : decode cX10_cheapest 133 = .ok (.iload_n 3, 1) := by decide +kernel
theorem dX10_cheapest_134 : decode cX10_cheapest 134 = .ok (.invokestatic 269, 3) := by decide +kernel
theorem dX10_cheapest_137 : decode cX10_cheapest 137 = .ok (.ifCond .eq 31, 3) := by decide +kernel
theorem dX10_cheapest_140 : decode cX10_cheapest 140 = .ok (.goto 20, 3) := by decide +kernel
theorem dX10_cheapest_143 : decode cX10_cheapest 143 = .ok (.iload 9, 2) := by decide +kernel
theorem dX10_cheapest_145 : decode cX10_cheapest 145 = .ok (.aload_n 0, 1) := by decide +kernel
theorem dX10_cheapest_146 : decode cX10_cheapest 146 = .ok (.getfield 19, 3) := by decide +kernel
theorem dX10_cheapest_149 : decode cX10_cheapest 149 = .ok (.getfield 178, 3) := by decide +kernel
theorem dX10_cheapest_152 : decode cX10_cheapest 152 = .ok (.iload_n 2, 1) := by decide +kernel
theorem dX10_cheapest_153 : decode cX10_cheapest 153 = .ok (.iload_n 3, 1) := by decide +kernel
theorem dX10_cheapest_154 : decode cX10_cheapest 154 = .ok (.invokestatic 209, 3) := by decide +kernel
theorem dX10_cheapest_157 : decode cX10_cheapest 157 = .ok (.ifCond .eq 11, 3) := by decide +kernel
theorem dX10_cheapest_160 : decode cX10_cheapest 160 = .ok (.iload 7, 2) := by decide +kernel
theorem dX10_cheapest_162 : decode cX10_cheapest 162 = .ok (.istore 5, 2) := by decide +kernel
theorem dX10_cheapest_164 : decode cX10_cheapest 164 = .ok (.iload 8, 2) := by decide +kernel
theorem dX10_cheapest_166 : decode cX10_cheapest 166 = .ok (.istore 6, 2) := by decide +kernel
theorem dX10_cheapest_168 : decode cX10_cheapest 168 = .ok (.iinc 7 1, 3) := by decide +kernel
theorem dX10_cheapest_171 : decode cX10_cheapest 171 = .ok (.goto (-143), 3) := by decide +kernel
theorem dX10_cheapest_174 : decode cX10_cheapest 174 = .ok (.iload 5, 2) := by decide +kernel
theorem dX10_cheapest_176 : decode cX10_cheapest 176 = .ok (.ireturn, 1) := by decide +kernel
theorem dX10_costOrSet_0 : decode cX10_costOrSet 0 = .ok (.iload_n 1, 1) := by decide +kernel
theorem dX10_costOrSet_1 : decode cX10_costOrSet 1 = .ok (.bipush (-9), 2) := by decide +kernel
theorem dX10_costOrSet_3 : decode cX10_costOrSet 3 = .ok (.if_icmp .eq 8, 3) := by decide +kernel
theorem dX10_costOrSet_6 : decode cX10_costOrSet 6 = .ok (.iload_n 2, 1) := by decide +kernel
theorem dX10_costOrSet_7 : decode cX10_costOrSet 7 = .ok (.iconst 1, 1) := by decide +kernel
theorem dX10_costOrSet_8 : decode cX10_costOrSet 8 = .ok (.if_icmp .ne 5, 3) := by decide +kernel
theorem dX10_costOrSet_11 : decode cX10_costOrSet 11 = .ok (.iload_n 1, 1) := by decide +kernel
theorem dX10_costOrSet_12 : decode cX10_costOrSet 12 = .ok (.ireturn, 1) := by decide +kernel
theorem dX10_costOrSet_13 : decode cX10_costOrSet 13 = .ok (.aload_n 0, 1) := by decide +kernel
theorem dX10_costOrSet_14 : decode cX10_costOrSet 14 = .ok (.getfield 73, 3) := by decide +kernel
theorem dX10_costOrSet_17 : decode cX10_costOrSet 17 = .ok (.iload_n 1, 1) := by decide +kernel
theorem dX10_costOrSet_18 : decode cX10_costOrSet 18 = .ok (.invokevirtual 266, 3) := by decide +kernel
theorem dX10_costOrSet_21 : decode cX10_costOrSet 21 = .ok (.ireturn, 1) := by decide +kernel
theorem dX10_matchClashers_0 : decode cX10_matchClashers 0 = .ok (.iconst 0, 1) := by decide +kernel
theorem dX10_matchClashers_1 : decode cX10_matchClashers 1 = .ok (.istore_n 1, 1) := by decide +kernel
theorem dX10_matchClashers_2 : decode cX10_matchClashers 2 = .ok (.iconst 0, 1) := by decide +kernel
theorem dX10_matchClashers_3 : decode cX10_matchClashers 3 = .ok (.istore_n 2, 1) := by decide +kernel
theorem dX10_matchClashers_4 : decode cX10_matchClashers 4 = .ok (.iload_n 2, 1) := by decide +kernel
theorem dX10_matchClashers_5 : decode cX10_matchClashers 5 = .ok (.aload_n 0, 1) := by decide +kernel
theorem dX10_matchClashers_6 : decode cX10_matchClashers 6 = .ok (.getfield 73, 3) := by decide +kernel
theorem dX10_matchClashers_9 : decode cX10_matchClashers 9 = .ok (.getfield 255, 3) := by decide +kernel
theorem dX10_matchClashers_12 : decode cX10_matchClashers 12 = .ok (.if_icmp .ge 64, 3) := by decide +kernel
theorem dX10_matchClashers_15 : decode cX10_matchClashers 15 = .ok (.aload_n 0, 1) := by decide +kernel
theorem dX10_matchClashers_16 : decode cX10_matchClashers 16 = .ok (.getfield 60, 3) := by decide +kernel
theorem dX10_matchClashers_19 : decode cX10_matchClashers 19 = .ok (.iload_n 2, 1) := by decide +kernel
theorem dX10_matchClashers_20 : decode cX10_matchClashers 20 = .ok (.iconst 0, 1) := by decide +kernel
theorem dX10_matchClashers_21 : decode cX10_matchClashers 21 = .ok (.iastore, 1) := by decide +kernel
theorem dX10_matchClashers_22 : decode cX10_matchClashers 22 = .ok (.iload_n 2, 1) := by decide +kernel
theorem dX10_matchClashers_23 : decode cX10_matchClashers 23 = .ok (.iconst 1, 1) := by decide +kernel
theorem dX10_matchClashers_24 : decode cX10_matchClashers 24 = .ok (.iadd, 1) := by decide +kernel
theorem dX10_matchClashers_25 : decode cX10_matchClashers 25 = .ok (.istore_n 3, 1) := by decide +kernel
theorem dX10_matchClashers_26 : decode cX10_matchClashers 26 = .ok (.iload_n 3, 1) := by decide +kernel
theorem dX10_matchClashers_27 : decode cX10_matchClashers 27 = .ok (.aload_n 0, 1) := by decide +kernel
theorem dX10_matchClashers_28 : decode cX10_matchClashers 28 = .ok (.getfield 73, 3) := by decide +kernel
theorem dX10_matchClashers_31 : decode cX10_matchClashers 31 = .ok (.getfield 255, 3) := by decide +kernel
theorem dX10_matchClashers_34 : decode cX10_matchClashers 34 = .ok (.if_icmp .ge 36, 3) := by decide +kernel
theorem dX10_matchClashers_37 : decode cX10_matchClashers 37 = .ok (.aload_n 0, 1) := by decide +kernel
theorem dX10_matchClashers_38 : decode cX10_matchClashers 38 = .ok (.getfield 73, 3) := by decide +kernel
theorem dX10_matchClashers_41 : decode cX10_matchClashers 41 = .ok (.iload_n 2, 1) := by decide +kernel
theorem dX10_matchClashers_42 : decode cX10_matchClashers 42 = .ok (.iload_n 3, 1) := by decide +kernel
theorem dX10_matchClashers_43 : decode cX10_matchClashers 43 = .ok (.invokevirtual 272, 3) := by decide +kernel
theorem dX10_matchClashers_46 : decode cX10_matchClashers 46 = .ok (.ifCond .eq 18, 3) := by decide +kernel
theorem dX10_matchClashers_49 : decode cX10_matchClashers 49 = .ok (.aload_n 0, 1) := by decide +kernel
theorem dX10_matchClashers_50 : decode cX10_matchClashers 50 = .ok (.getfield 60, 3) := by decide +kernel
theorem dX10_matchClashers_53 : decode cX10_matchClashers 53 = .ok (.iload_n 2, 1) := by decide +kernel
theorem dX10_matchClashers_54 : decode cX10_matchClashers 54 = .ok (.dup2, 1) := by decide +kernel
theorem dX10_matchClashers_55 : decode cX10_matchClashers 55 = .ok (.iaload, 1) := by decide +kernel
theorem dX10_matchClashers_56 : decode cX10_matchClashers 56 = .ok (.iconst 1, 1) := by decide +kernel
theorem dX10_matchClashers_57 : decode cX10_matchClashers 57 = .ok (.iload_n 3, 1) := by decide +kernel
theorem dX10_matchClashers_58 : decode cX10_matchClashers 58 = .ok (.ishl, 1) := by decide +kernel
theorem dX10_matchClashers_59 : decode cX10_matchClashers 59 = .ok (.ior, 1) := by decide +kernel
theorem dX10_matchClashers_60 : decode cX10_matchClashers 60 = .ok (.iastore, 1) := by decide +kernel
theorem dX10_matchClashers_61 : decode cX10_matchClashers 61 = .ok (.iinc 1 1, 3) := by decide +kernel
theorem dX10_matchClashers_64 : decode cX10_matchClashers 64 = .ok (.iinc 3 1, 3) := by decide +kernel
theorem dX10_matchClashers_67 : decode cX10_matchClashers 67 = .ok (.goto (-41), 3) := by decide +kernel
theorem dX10_matchClashers_70 : decode cX10_matchClashers 70 = .ok (.iinc 2 1, 3) := by decide +kernel
theorem dX10_matchClashers_73 : decode cX10_matchClashers 73 = .ok (.goto (-69), 3) := by decide +kernel
theorem dX10_matchClashers_76 : decode cX10_matchClashers 76 = .ok (.iload_n 1, 1) := by decide +kernel
theorem dX10_matchClashers_77 : decode cX10_matchClashers 77 = .ok (.ireturn, 1) := by decide +kernel
theorem dX10_fewestFalse_0 : decode cX10_fewestFalse 0 = .ok (.iconst 1, 1) := by decide +kernel
theorem dX10_fewestFalse_1 : decode cX10_fewestFalse 1 = .ok (.aload_n 0, 1) := by decide +kernel
theorem dX10_fewestFalse_2 : decode cX10_fewestFalse 2 = .ok (.getfield 73, 3) := by decide +kernel
theorem dX10_fewestFalse_5 : decode cX10_fewestFalse 5 = .ok (.getfield 255, 3) := by decide +kernel
theorem dX10_fewestFalse_8 : decode cX10_fewestFalse 8 = .ok (.ishl, 1) := by decide +kernel
theorem dX10_fewestFalse_9 : decode cX10_fewestFalse 9 = .ok (.iconst 1, 1) := by decide +kernel
theorem dX10_fewestFalse_10 : decode cX10_fewestFalse 10 = .ok (.isub, 1) := by decide +kernel
theorem dX10_fewestFalse_11 : decode cX10_fewestFalse 11 = .ok (.istore_n 1, 1) := by decide +kernel
theorem dX10_fewestFalse_12 : decode cX10_fewestFalse 12 = .ok (.iconst 0, 1) := by decide +kernel
theorem dX10_fewestFalse_13 : decode cX10_fewestFalse 13 = .ok (.istore_n 2, 1) := by decide +kernel
theorem dX10_fewestFalse_14 : decode cX10_fewestFalse 14 = .ok (.iload_n 2, 1) := by decide +kernel
theorem dX10_fewestFalse_15 : decode cX10_fewestFalse 15 = .ok (.iconst 1, 1) := by decide +kernel
theorem dX10_fewestFalse_16 : decode cX10_fewestFalse 16 = .ok (.aload_n 0, 1) := by decide +kernel
theorem dX10_fewestFalse_17 : decode cX10_fewestFalse 17 = .ok (.getfield 73, 3) := by decide +kernel
theorem dX10_fewestFalse_20 : decode cX10_fewestFalse 20 = .ok (.getfield 255, 3) := by decide +kernel
theorem dX10_fewestFalse_23 : decode cX10_fewestFalse 23 = .ok (.ishl, 1) := by decide +kernel
theorem dX10_fewestFalse_24 : decode cX10_fewestFalse 24 = .ok (.if_icmp .ge 30, 3) := by decide +kernel
theorem dX10_fewestFalse_27 : decode cX10_fewestFalse 27 = .ok (.iload_n 2, 1) := by decide +kernel
theorem dX10_fewestFalse_28 : decode cX10_fewestFalse 28 = .ok (.invokestatic 275, 3) := by decide +kernel
theorem dX10_fewestFalse_31 : decode cX10_fewestFalse 31 = .ok (.iload_n 1, 1) := by decide +kernel
theorem dX10_fewestFalse_32 : decode cX10_fewestFalse 32 = .ok (.invokestatic 275, 3) := by decide +kernel
theorem dX10_fewestFalse_35 : decode cX10_fewestFalse 35 = .ok (.if_icmp .ge 13, 3) := by decide +kernel
theorem dX10_fewestFalse_38 : decode cX10_fewestFalse 38 = .ok (.aload_n 0, 1) := by decide +kernel
theorem dX10_fewestFalse_39 : decode cX10_fewestFalse 39 = .ok (.iload_n 2, 1) := by decide +kernel
theorem dX10_fewestFalse_40 : decode cX10_fewestFalse 40 = .ok (.invokevirtual 280, 3) := by decide +kernel
theorem dX10_fewestFalse_43 : decode cX10_fewestFalse 43 = .ok (.ifCond .eq 5, 3) := by decide +kernel
theorem dX10_fewestFalse_46 : decode cX10_fewestFalse 46 = .ok (.iload_n 2, 1) := by decide +kernel
theorem dX10_fewestFalse_47 : decode cX10_fewestFalse 47 = .ok (.istore_n 1, 1) := by decide +kernel
theorem dX10_fewestFalse_48 : decode cX10_fewestFalse 48 = .ok (.iinc 2 1, 3) := by decide +kernel
theorem dX10_fewestFalse_51 : decode cX10_fewestFalse 51 = .ok (.goto (-37), 3) := by decide +kernel
theorem dX10_fewestFalse_54 : decode cX10_fewestFalse 54 = .ok (.iload_n 1, 1) := by decide +kernel
theorem dX10_fewestFalse_55 : decode cX10_fewestFalse 55 = .ok (.ireturn, 1) := by decide +kernel
theorem dX10_leavesNoClash_0 : decode cX10_leavesNoClash 0 = .ok (.iconst 0, 1) := by decide +kernel
theorem dX10_leavesNoClash_1 : decode cX10_leavesNoClash 1 = .ok (.istore_n 2, 1) := by decide +kernel
theorem dX10_leavesNoClash_2 : decode cX10_leavesNoClash 2 = .ok (.iload_n 2, 1) := by decide +kernel
theorem dX10_leavesNoClash_3 : decode cX10_leavesNoClash 3 = .ok (.aload_n 0, 1) := by decide +kernel
theorem dX10_leavesNoClash_4 : decode cX10_leavesNoClash 4 = .ok (.getfield 73, 3) := by decide +kernel
theorem dX10_leavesNoClash_7 : decode cX10_leavesNoClash 7 = .ok (.getfield 255, 3) := by decide +kernel
theorem dX10_leavesNoClash_10 : decode cX10_leavesNoClash 10 = .ok (.if_icmp .ge 32, 3) := by decide +kernel
theorem dX10_leavesNoClash_13 : decode cX10_leavesNoClash 13 = .ok (.iload_n 1, 1) := by decide +kernel
theorem dX10_leavesNoClash_14 : decode cX10_leavesNoClash 14 = .ok (.iload_n 2, 1) := by decide +kernel
theorem dX10_leavesNoClash_15 : decode cX10_leavesNoClash 15 = .ok (.invokestatic 138, 3) := by decide +kernel
theorem dX10_leavesNoClash_18 : decode cX10_leavesNoClash 18 = .ok (.ifCond .ne 18, 3) := by decide +kernel
theorem dX10_leavesNoClash_21 : decode cX10_leavesNoClash 21 = .ok (.aload_n 0, 1) := by decide +kernel
theorem dX10_leavesNoClash_22 : decode cX10_leavesNoClash 22 = .ok (.getfield 60, 3) := by decide +kernel
theorem dX10_leavesNoClash_25 : decode cX10_leavesNoClash 25 = .ok (.iload_n 2, 1) := by decide +kernel
theorem dX10_leavesNoClash_26 : decode cX10_leavesNoClash 26 = .ok (.iaload, 1) := by decide +kernel
theorem dX10_leavesNoClash_27 : decode cX10_leavesNoClash 27 = .ok (.iload_n 1, 1) := by decide +kernel
theorem dX10_leavesNoClash_28 : decode cX10_leavesNoClash 28 = .ok (.iconst (-1), 1) := by decide +kernel
theorem dX10_leavesNoClash_29 : decode cX10_leavesNoClash 29 = .ok (.ixor, 1) := by decide +kernel
theorem dX10_leavesNoClash_30 : decode cX10_leavesNoClash 30 = .ok (.iand, 1) := by decide +kernel
theorem dX10_leavesNoClash_31 : decode cX10_leavesNoClash 31 = .ok (.ifCond .eq 5, 3) := by decide +kernel
theorem dX10_leavesNoClash_34 : decode cX10_leavesNoClash 34 = .ok (.iconst 0, 1) := by decide +kernel
theorem dX10_leavesNoClash_35 : decode cX10_leavesNoClash 35 = .ok (.ireturn, 1) := by decide +kernel
theorem dX10_leavesNoClash_36 : decode cX10_leavesNoClash 36 = .ok (.iinc 2 1, 3) := by decide +kernel
theorem dX10_leavesNoClash_39 : decode cX10_leavesNoClash 39 = .ok (.goto (-37), 3) := by decide +kernel
theorem dX10_leavesNoClash_42 : decode cX10_leavesNoClash 42 = .ok (.iconst 1, 1) := by decide +kernel
theorem dX10_leavesNoClash_43 : decode cX10_leavesNoClash 43 = .ok (.ireturn, 1) := by decide +kernel
theorem dX10_bandHeld_0 : decode cX10_bandHeld 0 = .ok (.iload_n 1, 1) := by decide +kernel
theorem dX10_bandHeld_1 : decode cX10_bandHeld 1 = .ok (.iload_n 2, 1) := by decide +kernel
theorem dX10_bandHeld_2 : decode cX10_bandHeld 2 = .ok (.invokestatic 138, 3) := by decide +kernel
theorem dX10_bandHeld_5 : decode cX10_bandHeld 5 = .ok (.istore_n 3, 1) := by decide +kernel
theorem dX10_bandHeld_6 : decode cX10_bandHeld 6 = .ok (.iload_n 3, 1) := by decide +kernel
theorem dX10_bandHeld_7 : decode cX10_bandHeld 7 = .ok (.iconst 1, 1) := by decide +kernel
theorem dX10_bandHeld_8 : decode cX10_bandHeld 8 = .ok (.if_icmp .ne 17, 3) := by decide +kernel
theorem dX10_bandHeld_11 : decode cX10_bandHeld 11 = .ok (.aload_n 0, 1) := by decide +kernel
theorem dX10_bandHeld_12 : decode cX10_bandHeld 12 = .ok (.getfield 19, 3) := by decide +kernel
theorem dX10_bandHeld_15 : decode cX10_bandHeld 15 = .ok (.getfield 117, 3) := by decide +kernel
theorem dX10_bandHeld_18 : decode cX10_bandHeld 18 = .ok (.iload_n 2, 1) := by decide +kernel
theorem dX10_bandHeld_19 : decode cX10_bandHeld 19 = .ok (.iaload, 1) := by decide +kernel
theorem dX10_bandHeld_20 : decode cX10_bandHeld 20 = .ok (.iconst 2, 1) := by decide +kernel
theorem dX10_bandHeld_21 : decode cX10_bandHeld 21 = .ok (.idiv, 1) := by decide +kernel
theorem dX10_bandHeld_22 : decode cX10_bandHeld 22 = .ok (.goto 12, 3) := by decide +kernel
theorem dX10_bandHeld_25 : decode cX10_bandHeld 25 = .ok (.aload_n 0, 1) := by decide +kernel
theorem dX10_bandHeld_26 : decode cX10_bandHeld 26 = .ok (.getfield 19, 3) := by decide +kernel
theorem dX10_bandHeld_29 : decode cX10_bandHeld 29 = .ok (.getfield 117, 3) := by decide +kernel
theorem dX10_bandHeld_32 : decode cX10_bandHeld 32 = .ok (.iload_n 2, 1) := by decide +kernel
theorem dX10_bandHeld_33 : decode cX10_bandHeld 33 = .ok (.iaload, 1) := by decide +kernel
theorem dX10_bandHeld_34 : decode cX10_bandHeld 34 = .ok (.istore 4, 2) := by decide +kernel
theorem dX10_bandHeld_36 : decode cX10_bandHeld 36 = .ok (.iload 4, 2) := by decide +kernel
theorem dX10_bandHeld_38 : decode cX10_bandHeld 38 = .ok (.iconst 3, 1) := by decide +kernel
theorem dX10_bandHeld_39 : decode cX10_bandHeld 39 = .ok (.iload_n 1, 1) := by decide +kernel
theorem dX10_bandHeld_40 : decode cX10_bandHeld 40 = .ok (.invokestatic 275, 3) := by decide +kernel
theorem dX10_bandHeld_43 : decode cX10_bandHeld 43 = .ok (.iload_n 3, 1) := by decide +kernel
theorem dX10_bandHeld_44 : decode cX10_bandHeld 44 = .ok (.isub, 1) := by decide +kernel
theorem dX10_bandHeld_45 : decode cX10_bandHeld 45 = .ok (.imul, 1) := by decide +kernel
theorem dX10_bandHeld_46 : decode cX10_bandHeld 46 = .ok (.iadd, 1) := by decide +kernel
theorem dX10_bandHeld_47 : decode cX10_bandHeld 47 = .ok (.ireturn, 1) := by decide +kernel
theorem dX10_bandDays_0 : decode cX10_bandDays 0 = .ok (.iconst 0, 1) := by decide +kernel
theorem dX10_bandDays_1 : decode cX10_bandDays 1 = .ok (.istore_n 3, 1) := by decide +kernel
theorem dX10_bandDays_2 : decode cX10_bandDays 2 = .ok (.iconst 0, 1) := by decide +kernel
theorem dX10_bandDays_3 : decode cX10_bandDays 3 = .ok (.istore 4, 2) := by decide +kernel
theorem dX10_bandDays_5 : decode cX10_bandDays 5 = .ok (.iload 4, 2) := by decide +kernel
theorem dX10_bandDays_7 : decode cX10_bandDays 7 = .ok (.aload_n 0, 1) := by decide +kernel
theorem dX10_bandDays_8 : decode cX10_bandDays 8 = .ok (.getfield 73, 3) := by decide +kernel
theorem dX10_bandDays_11 : decode cX10_bandDays 11 = .ok (.getfield 219, 3) := by decide +kernel
theorem dX10_bandDays_14 : decode cX10_bandDays 14 = .ok (.if_icmp .ge 19, 3) := by decide +kernel
theorem dX10_bandDays_17 : decode cX10_bandDays 17 = .ok (.iload_n 3, 1) := by decide +kernel
theorem dX10_bandDays_18 : decode cX10_bandDays 18 = .ok (.aload_n 0, 1) := by decide +kernel
theorem dX10_bandDays_19 : decode cX10_bandDays 19 = .ok (.iload_n 1, 1) := by decide +kernel
theorem dX10_bandDays_20 : decode cX10_bandDays 20 = .ok (.iload 4, 2) := by decide +kernel
theorem dX10_bandDays_22 : decode cX10_bandDays 22 = .ok (.invokevirtual 283, 3) := by decide +kernel
theorem dX10_bandDays_25 : decode cX10_bandDays 25 = .ok (.iadd, 1) := by decide +kernel
theorem dX10_bandDays_26 : decode cX10_bandDays 26 = .ok (.istore_n 3, 1) := by decide +kernel
theorem dX10_bandDays_27 : decode cX10_bandDays 27 = .ok (.iinc 4 1, 3) := by decide +kernel
theorem dX10_bandDays_30 : decode cX10_bandDays 30 = .ok (.goto (-25), 3) := by decide +kernel
theorem dX10_bandDays_33 : decode cX10_bandDays 33 = .ok (.iload_n 3, 1) := by decide +kernel
theorem dX10_bandDays_34 : decode cX10_bandDays 34 = .ok (.ifCond .ne 7, 3) := by decide +kernel
theorem dX10_bandDays_37 : decode cX10_bandDays 37 = .ok (.iconst 0, 1) := by decide +kernel
theorem dX10_bandDays_38 : decode cX10_bandDays 38 = .ok (.goto 19, 3) := by decide +kernel
theorem dX10_bandDays_41 : decode cX10_bandDays 41 = .ok (.aload_n 0, 1) := by decide +kernel
theorem dX10_bandDays_42 : decode cX10_bandDays 42 = .ok (.getfield 26, 3) := by decide +kernel
theorem dX10_bandDays_45 : decode cX10_bandDays 45 = .ok (.getfield 171, 3) := by decide +kernel
theorem dX10_bandDays_48 : decode cX10_bandDays 48 = .ok (.aload_n 0, 1) := by decide +kernel
theorem dX10_bandDays_49 : decode cX10_bandDays 49 = .ok (.iload_n 1, 1) := by decide +kernel
theorem dX10_bandDays_50 : decode cX10_bandDays 50 = .ok (.iload_n 2, 1) := by decide +kernel
theorem dX10_bandDays_51 : decode cX10_bandDays 51 = .ok (.invokevirtual 283, 3) := by decide +kernel
theorem dX10_bandDays_54 : decode cX10_bandDays 54 = .ok (.imul, 1) := by decide +kernel
theorem dX10_bandDays_55 : decode cX10_bandDays 55 = .ok (.iload_n 3, 1) := by decide +kernel
theorem dX10_bandDays_56 : decode cX10_bandDays 56 = .ok (.idiv, 1) := by decide +kernel
theorem dX10_bandDays_57 : decode cX10_bandDays 57 = .ok (.ireturn, 1) := by decide +kernel
theorem dX10_firstGainer_0 : decode cX10_firstGainer 0 = .ok (.iconst 0, 1) := by decide +kernel
theorem dX10_firstGainer_1 : decode cX10_firstGainer 1 = .ok (.istore_n 2, 1) := by decide +kernel
theorem dX10_firstGainer_2 : decode cX10_firstGainer 2 = .ok (.iload_n 2, 1) := by decide +kernel
theorem dX10_firstGainer_3 : decode cX10_firstGainer 3 = .ok (.aload_n 0, 1) := by decide +kernel
theorem dX10_firstGainer_4 : decode cX10_firstGainer 4 = .ok (.getfield 73, 3) := by decide +kernel
theorem dX10_firstGainer_7 : decode cX10_firstGainer 7 = .ok (.getfield 219, 3) := by decide +kernel
theorem dX10_firstGainer_10 : decode cX10_firstGainer 10 = .ok (.if_icmp .ge 30, 3) := by decide +kernel
theorem dX10_firstGainer_13 : decode cX10_firstGainer 13 = .ok (.aload_n 0, 1) := by decide +kernel
theorem dX10_firstGainer_14 : decode cX10_firstGainer 14 = .ok (.iload_n 1, 1) := by decide +kernel
theorem dX10_firstGainer_15 : decode cX10_firstGainer 15 = .ok (.iconst 1, 1) := by decide +kernel
theorem dX10_firstGainer_16 : decode cX10_firstGainer 16 = .ok (.iload_n 2, 1) := by decide +kernel
theorem dX10_firstGainer_17 : decode cX10_firstGainer 17 = .ok (.ishl, 1) := by decide +kernel
theorem dX10_firstGainer_18 : decode cX10_firstGainer 18 = .ok (.ixor, 1) := by decide +kernel
theorem dX10_firstGainer_19 : decode cX10_firstGainer 19 = .ok (.iload_n 2, 1) := by decide +kernel
theorem dX10_firstGainer_20 : decode cX10_firstGainer 20 = .ok (.invokevirtual 286, 3) := by decide +kernel
theorem dX10_firstGainer_23 : decode cX10_firstGainer 23 = .ok (.aload_n 0, 1) := by decide +kernel
theorem dX10_firstGainer_24 : decode cX10_firstGainer 24 = .ok (.iload_n 1, 1) := by decide +kernel
theorem dX10_firstGainer_25 : decode cX10_firstGainer 25 = .ok (.iload_n 2, 1) := by decide +kernel
theorem dX10_firstGainer_26 : decode cX10_firstGainer 26 = .ok (.invokevirtual 286, 3) := by decide +kernel
theorem dX10_firstGainer_29 : decode cX10_firstGainer 29 = .ok (.if_icmp .ge 5, 3) := by decide +kernel
theorem dX10_firstGainer_32 : decode cX10_firstGainer 32 = .ok (.iload_n 2, 1) := by decide +kernel
theorem dX10_firstGainer_33 : decode cX10_firstGainer 33 = .ok (.ireturn, 1) := by decide +kernel
theorem dX10_firstGainer_34 : decode cX10_firstGainer 34 = .ok (.iinc 2 1, 3) := by decide +kernel
theorem dX10_firstGainer_37 : decode cX10_firstGainer 37 = .ok (.goto (-35), 3) := by decide +kernel
theorem dX10_firstGainer_40 : decode cX10_firstGainer 40 = .ok (.bipush (-9), 2) := by decide +kernel
theorem dX10_firstGainer_42 : decode cX10_firstGainer 42 = .ok (.ireturn, 1) := by decide +kernel
theorem dX10_cellsNeeded_0 : decode cX10_cellsNeeded 0 = .ok (.iconst 0, 1) := by decide +kernel
theorem dX10_cellsNeeded_1 : decode cX10_cellsNeeded 1 = .ok (.istore_n 2, 1) := by decide +kernel
theorem dX10_cellsNeeded_2 : decode cX10_cellsNeeded 2 = .ok (.iload_n 2, 1) := by decide +kernel
theorem dX10_cellsNeeded_3 : decode cX10_cellsNeeded 3 = .ok (.aload_n 0, 1) := by decide +kernel
theorem dX10_cellsNeeded_4 : decode cX10_cellsNeeded 4 = .ok (.getfield 73, 3) := by decide +kernel
theorem dX10_cellsNeeded_7 : decode cX10_cellsNeeded 7 = .ok (.getfield 219, 3) := by decide +kernel
theorem dX10_cellsNeeded_10 : decode cX10_cellsNeeded 10 = .ok (.if_icmp .ge 25, 3) := by decide +kernel
theorem dX10_cellsNeeded_13 : decode cX10_cellsNeeded 13 = .ok (.aload_n 0, 1) := by decide +kernel
theorem dX10_cellsNeeded_14 : decode cX10_cellsNeeded 14 = .ok (.getfield 19, 3) := by decide +kernel
theorem dX10_cellsNeeded_17 : decode cX10_cellsNeeded 17 = .ok (.getfield 120, 3) := by decide +kernel
theorem dX10_cellsNeeded_20 : decode cX10_cellsNeeded 20 = .ok (.iload_n 2, 1) := by decide +kernel
theorem dX10_cellsNeeded_21 : decode cX10_cellsNeeded 21 = .ok (.iaload, 1) := by decide +kernel
theorem dX10_cellsNeeded_22 : decode cX10_cellsNeeded 22 = .ok (.iload_n 1, 1) := by decide +kernel
theorem dX10_cellsNeeded_23 : decode cX10_cellsNeeded 23 = .ok (.if_icmp .le 6, 3) := by decide +kernel
theorem dX10_cellsNeeded_26 : decode cX10_cellsNeeded 26 = .ok (.bipush (-9), 2) := by decide +kernel
theorem dX10_cellsNeeded_28 : decode cX10_cellsNeeded 28 = .ok (.ireturn, 1) := by decide +kernel
theorem dX10_cellsNeeded_29 : decode cX10_cellsNeeded 29 = .ok (.iinc 2 1, 3) := by decide +kernel
theorem dX10_cellsNeeded_32 : decode cX10_cellsNeeded 32 = .ok (.goto (-30), 3) := by decide +kernel
theorem dX10_cellsNeeded_35 : decode cX10_cellsNeeded 35 = .ok (.aload_n 0, 1) := by decide +kernel
theorem dX10_cellsNeeded_36 : decode cX10_cellsNeeded 36 = .ok (.getfield 19, 3) := by decide +kernel
theorem dX10_cellsNeeded_39 : decode cX10_cellsNeeded 39 = .ok (.invokevirtual 184, 3) := by decide +kernel
theorem dX10_cellsNeeded_42 : decode cX10_cellsNeeded 42 = .ok (.iload_n 1, 1) := by decide +kernel
theorem dX10_cellsNeeded_43 : decode cX10_cellsNeeded 43 = .ok (.iadd, 1) := by decide +kernel
theorem dX10_cellsNeeded_44 : decode cX10_cellsNeeded 44 = .ok (.iconst 1, 1) := by decide +kernel
theorem dX10_cellsNeeded_45 : decode cX10_cellsNeeded 45 = .ok (.isub, 1) := by decide +kernel
theorem dX10_cellsNeeded_46 : decode cX10_cellsNeeded 46 = .ok (.iload_n 1, 1) := by decide +kernel
theorem dX10_cellsNeeded_47 : decode cX10_cellsNeeded 47 = .ok (.idiv, 1) := by decide +kernel
theorem dX10_cellsNeeded_48 : decode cX10_cellsNeeded 48 = .ok (.ireturn, 1) := by decide +kernel
theorem dX10_wrongTo_0 : decode cX10_wrongTo 0 = .ok (.aload_n 0, 1) := by decide +kernel
theorem dX10_wrongTo_1 : decode cX10_wrongTo 1 = .ok (.getfield 26, 3) := by decide +kernel
theorem dX10_wrongTo_4 : decode cX10_wrongTo 4 = .ok (.getfield 171, 3) := by decide +kernel
theorem dX10_wrongTo_7 : decode cX10_wrongTo 7 = .ok (.aload_n 0, 1) := by decide +kernel
theorem dX10_wrongTo_8 : decode cX10_wrongTo 8 = .ok (.getfield 26, 3) := by decide +kernel
theorem dX10_wrongTo_11 : decode cX10_wrongTo 11 = .ok (.getfield 171, 3) := by decide +kernel
theorem dX10_wrongTo_14 : decode cX10_wrongTo 14 = .ok (.aload_n 0, 1) := by decide +kernel
theorem dX10_wrongTo_15 : decode cX10_wrongTo 15 = .ok (.getfield 19, 3) := by decide +kernel
theorem dX10_wrongTo_18 : decode cX10_wrongTo 18 = .ok (.getfield 117, 3) := by decide +kernel
theorem dX10_wrongTo_21 : decode cX10_wrongTo 21 = .ok (.iload_n 1, 1) := by decide +kernel
theorem dX10_wrongTo_22 : decode cX10_wrongTo 22 = .ok (.iaload, 1) := by decide +kernel
theorem dX10_wrongTo_23 : decode cX10_wrongTo 23 = .ok (.imul, 1) := by decide +kernel
theorem dX10_wrongTo_24 : decode cX10_wrongTo 24 = .ok (.bipush 20, 2) := by decide +kernel
theorem dX10_wrongTo_26 : decode cX10_wrongTo 26 = .ok (.idiv, 1) := by decide +kernel
theorem dX10_wrongTo_27 : decode cX10_wrongTo 27 = .ok (.invokestatic 289, 3) := by decide +kernel
theorem dX10_wrongTo_30 : decode cX10_wrongTo 30 = .ok (.istore_n 2, 1) := by decide +kernel
theorem dX10_wrongTo_31 : decode cX10_wrongTo 31 = .ok (.aload_n 0, 1) := by decide +kernel
theorem dX10_wrongTo_32 : decode cX10_wrongTo 32 = .ok (.getfield 19, 3) := by decide +kernel
theorem dX10_wrongTo_35 : decode cX10_wrongTo 35 = .ok (.getfield 120, 3) := by decide +kernel
theorem dX10_wrongTo_38 : decode cX10_wrongTo 38 = .ok (.iload_n 1, 1) := by decide +kernel
theorem dX10_wrongTo_39 : decode cX10_wrongTo 39 = .ok (.iaload, 1) := by decide +kernel
theorem dX10_wrongTo_40 : decode cX10_wrongTo 40 = .ok (.iload_n 2, 1) := by decide +kernel
theorem dX10_wrongTo_41 : decode cX10_wrongTo 41 = .ok (.isub, 1) := by decide +kernel
theorem dX10_wrongTo_42 : decode cX10_wrongTo 42 = .ok (.ireturn, 1) := by decide +kernel
theorem dX10_fitsBook_0 : decode cX10_fitsBook 0 = .ok (.aload_n 0, 1) := by decide +kernel
theorem dX10_fitsBook_1 : decode cX10_fitsBook 1 = .ok (.getfield 19, 3) := by decide +kernel
theorem dX10_fitsBook_4 : decode cX10_fitsBook 4 = .ok (.aload_n 0, 1) := by decide +kernel
theorem dX10_fitsBook_5 : decode cX10_fitsBook 5 = .ok (.getfield 73, 3) := by decide +kernel
theorem dX10_fitsBook_8 : decode cX10_fitsBook 8 = .ok (.iload_n 1, 1) := by decide +kernel
theorem dX10_fitsBook_9 : decode cX10_fitsBook 9 = .ok (.invokevirtual 260, 3) := by decide +kernel
theorem dX10_fitsBook_12 : decode cX10_fitsBook 12 = .ok (.aload_n 0, 1) := by decide +kernel
theorem dX10_fitsBook_13 : decode cX10_fitsBook 13 = .ok (.getfield 19, 3) := by decide +kernel
theorem dX10_fitsBook_16 : decode cX10_fitsBook 16 = .ok (.aload_n 0, 1) := by decide +kernel
theorem dX10_fitsBook_17 : decode cX10_fitsBook 17 = .ok (.getfield 26, 3) := by decide +kernel
theorem dX10_fitsBook_20 : decode cX10_fitsBook 20 = .ok (.getfield 171, 3) := by decide +kernel
theorem dX10_fitsBook_23 : decode cX10_fitsBook 23 = .ok (.invokevirtual 263, 3) := by decide +kernel
theorem dX10_fitsBook_26 : decode cX10_fitsBook 26 = .ok (.iconst 0, 1) := by decide +kernel
theorem dX10_fitsBook_27 : decode cX10_fitsBook 27 = .ok (.istore_n 2, 1) := by decide +kernel
theorem dX10_fitsBook_28 : decode cX10_fitsBook 28 = .ok (.iload_n 2, 1) := by decide +kernel
theorem dX10_fitsBook_29 : decode cX10_fitsBook 29 = .ok (.aload_n 0, 1) := by decide +kernel
theorem dX10_fitsBook_30 : decode cX10_fitsBook 30 = .ok (.getfield 104, 3) := by decide +kernel
theorem dX10_fitsBook_33 : decode cX10_fitsBook 33 = .ok (.if_icmp .ge 34, 3) := by decide +kernel
theorem dX10_fitsBook_36 : decode cX10_fitsBook 36 = .ok (.aload_n 0, 1) := by decide +kernel
theorem dX10_fitsBook_37 : decode cX10_fitsBook 37 = .ok (.getfield 19, 3) := by decide +kernel
theorem dX10_fitsBook_40 : decode cX10_fitsBook 40 = .ok (.getfield 120, 3) := by decide +kernel
theorem dX10_fitsBook_43 : decode cX10_fitsBook 43 = .ok (.aload_n 0, 1) := by decide +kernel
theorem dX10_fitsBook_44 : decode cX10_fitsBook 44 = .ok (.getfield 64, 3) := by decide +kernel
theorem dX10_fitsBook_47 : decode cX10_fitsBook 47 = .ok (.iload_n 2, 1) := by decide +kernel
theorem dX10_fitsBook_48 : decode cX10_fitsBook 48 = .ok (.iaload, 1) := by decide +kernel
theorem dX10_fitsBook_49 : decode cX10_fitsBook 49 = .ok (.iaload, 1) := by decide +kernel
theorem dX10_fitsBook_50 : decode cX10_fitsBook 50 = .ok (.aload_n 0, 1) := by decide +kernel
theorem dX10_fitsBook_51 : decode cX10_fitsBook 51 = .ok (.getfield 67, 3) := by decide +kernel
theorem dX10_fitsBook_54 : decode cX10_fitsBook 54 = .ok (.iload_n 2, 1) := by decide +kernel
theorem dX10_fitsBook_55 : decode cX10_fitsBook 55 = .ok (.iaload, 1) := by decide +kernel
theorem dX10_fitsBook_56 : decode cX10_fitsBook 56 = .ok (.if_icmp .eq 5, 3) := by decide +kernel
theorem dX10_fitsBook_59 : decode cX10_fitsBook 59 = .ok (.iconst 0, 1) := by decide +kernel
theorem dX10_fitsBook_60 : decode cX10_fitsBook 60 = .ok (.ireturn, 1) := by decide +kernel
theorem dX10_fitsBook_61 : decode cX10_fitsBook 61 = .ok (.iinc 2 1, 3) := by decide +kernel
theorem dX10_fitsBook_64 : decode cX10_fitsBook 64 = .ok (.goto (-36), 3) := by decide +kernel
theorem dX10_fitsBook_67 : decode cX10_fitsBook 67 = .ok (.iconst 1, 1) := by decide +kernel
theorem dX10_fitsBook_68 : decode cX10_fitsBook 68 = .ok (.ireturn, 1) := by decide +kernel
end
section
theorem dX11_init_0 : decode cX11_init 0 = .ok (.aload_n 0, 1) := by decide +kernel
theorem dX11_init_1 : decode cX11_init 1 = .ok (.invokespecial 1, 3) := by decide +kernel
theorem dX11_init_4 : decode cX11_init 4 = .ok (.aload_n 0, 1) := by decide +kernel
theorem dX11_init_5 : decode cX11_init 5 = .ok (.sipush 200, 3) := by decide +kernel
theorem dX11_init_8 : decode cX11_init 8 = .ok (.newarray .byte, 2) := by decide +kernel
theorem dX11_init_10 : decode cX11_init 10 = .ok (.putfield 7, 3) := by decide +kernel
theorem dX11_init_13 : decode cX11_init 13 = .ok (.aload_n 0, 1) := by decide +kernel
theorem dX11_init_14 : decode cX11_init 14 = .ok (.iconst 2, 1) := by decide +kernel
theorem dX11_init_15 : decode cX11_init 15 = .ok (.newarray .int, 2) := by decide +kernel
theorem dX11_init_17 : decode cX11_init 17 = .ok (.putfield 13, 3) := by decide +kernel
theorem dX11_init_20 : decode cX11_init 20 = .ok (.aload_n 0, 1) := by decide +kernel
theorem dX11_init_21 : decode cX11_init 21 = .ok (.bipush 12, 2) := by decide +kernel
theorem dX11_init_23 : decode cX11_init 23 = .ok (.newarray .int, 2) := by decide +kernel
theorem dX11_init_25 : decode cX11_init 25 = .ok (.putfield 17, 3) := by decide +kernel
theorem dX11_init_28 : decode cX11_init 28 = .ok (.aload_n 0, 1) := by decide +kernel
theorem dX11_init_29 : decode cX11_init 29 = .ok (.iconst 2, 1) := by decide +kernel
theorem dX11_init_30 : decode cX11_init 30 = .ok (.newarray .int, 2) := by decide +kernel
theorem dX11_init_32 : decode cX11_init 32 = .ok (.putfield 20, 3) := by decide +kernel
theorem dX11_init_35 : decode cX11_init 35 = .ok (.aload_n 0, 1) := by decide +kernel
theorem dX11_init_36 : decode cX11_init 36 = .ok (.bipush 16, 2) := by decide +kernel
theorem dX11_init_38 : decode cX11_init 38 = .ok (.newarray .int, 2) := by decide +kernel
theorem dX11_init_40 : decode cX11_init 40 = .ok (.putfield 23, 3) := by decide +kernel
theorem dX11_init_43 : decode cX11_init 43 = .ok (.aload_n 0, 1) := by decide +kernel
theorem dX11_init_44 : decode cX11_init 44 = .ok (.bipush 16, 2) := by decide +kernel
theorem dX11_init_46 : decode cX11_init 46 = .ok (.newarray .int, 2) := by decide +kernel
theorem dX11_init_48 : decode cX11_init 48 = .ok (.putfield 26, 3) := by decide +kernel
theorem dX11_init_51 : decode cX11_init 51 = .ok (.aload_n 0, 1) := by decide +kernel
theorem dX11_init_52 : decode cX11_init 52 = .ok (.bipush 96, 2) := by decide +kernel
theorem dX11_init_54 : decode cX11_init 54 = .ok (.newarray .int, 2) := by decide +kernel
theorem dX11_init_56 : decode cX11_init 56 = .ok (.putfield 29, 3) := by decide +kernel
theorem dX11_init_59 : decode cX11_init 59 = .ok (.aload_n 0, 1) := by decide +kernel
theorem dX11_init_60 : decode cX11_init 60 = .ok (.iconst 2, 1) := by decide +kernel
theorem dX11_init_61 : decode cX11_init 61 = .ok (.newarray .int, 2) := by decide +kernel
theorem dX11_init_63 : decode cX11_init 63 = .ok (.putfield 32, 3) := by decide +kernel
theorem dX11_init_66 : decode cX11_init 66 = .ok (.aload_n 0, 1) := by decide +kernel
theorem dX11_init_67 : decode cX11_init 67 = .ok (.bipush 16, 2) := by decide +kernel
theorem dX11_init_69 : decode cX11_init 69 = .ok (.newarray .int, 2) := by decide +kernel
theorem dX11_init_71 : decode cX11_init 71 = .ok (.putfield 35, 3) := by decide +kernel
theorem dX11_init_74 : decode cX11_init 74 = .ok (.aload_n 0, 1) := by decide +kernel
theorem dX11_init_75 : decode cX11_init 75 = .ok (.bipush 16, 2) := by decide +kernel
theorem dX11_init_77 : decode cX11_init 77 = .ok (.newarray .int, 2) := by decide +kernel
theorem dX11_init_79 : decode cX11_init 79 = .ok (.putfield 38, 3) := by decide +kernel
theorem dX11_init_82 : decode cX11_init 82 = .ok (.aload_n 0, 1) := by decide +kernel
theorem dX11_init_83 : decode cX11_init 83 = .ok (.bipush 16, 2) := by decide +kernel
theorem dX11_init_85 : decode cX11_init 85 = .ok (.newarray .int, 2) := by decide +kernel
theorem dX11_init_87 : decode cX11_init 87 = .ok (.putfield 41, 3) := by decide +kernel
theorem dX11_init_90 : decode cX11_init 90 = .ok (.aload_n 0, 1) := by decide +kernel
theorem dX11_init_91 : decode cX11_init 91 = .ok (.bipush 16, 2) := by decide +kernel
theorem dX11_init_93 : decode cX11_init 93 = .ok (.newarray .int, 2) := by decide +kernel
theorem dX11_init_95 : decode cX11_init 95 = .ok (.putfield 44, 3) := by decide +kernel
theorem dX11_init_98 : decode cX11_init 98 = .ok (.aload_n 0, 1) := by decide +kernel
theorem dX11_init_99 : decode cX11_init 99 = .ok (.iconst 2, 1) := by decide +kernel
theorem dX11_init_100 : decode cX11_init 100 = .ok (.newarray .int, 2) := by decide +kernel
theorem dX11_init_102 : decode cX11_init 102 = .ok (.putfield 47, 3) := by decide +kernel
theorem dX11_init_105 : decode cX11_init 105 = .ok (.aload_n 0, 1) := by decide +kernel
theorem dX11_init_106 : decode cX11_init 106 = .ok (.iconst 2, 1) := by decide +kernel
theorem dX11_init_107 : decode cX11_init 107 = .ok (.newarray .int, 2) := by decide +kernel
theorem dX11_init_109 : decode cX11_init 109 = .ok (.putfield 50, 3) := by decide +kernel
theorem dX11_init_112 : decode cX11_init 112 = .ok (.aload_n 0, 1) := by decide +kernel
theorem dX11_init_113 : decode cX11_init 113 = .ok (.bipush 102, 2) := by decide +kernel
theorem dX11_init_115 : decode cX11_init 115 = .ok (.newarray .int, 2) := by decide +kernel
theorem dX11_init_117 : decode cX11_init 117 = .ok (.putfield 53, 3) := by decide +kernel
theorem dX11_init_120 : decode cX11_init 120 = .ok (.aload_n 0, 1) := by decide +kernel
theorem dX11_init_121 : decode cX11_init 121 = .ok (.iconst 2, 1) := by decide +kernel
theorem dX11_init_122 : decode cX11_init 122 = .ok (.newarray .boolean, 2) := by decide +kernel
theorem dX11_init_124 : decode cX11_init 124 = .ok (.putfield 56, 3) := by decide +kernel
theorem dX11_init_127 : decode cX11_init 127 = .ok (.aload_n 0, 1) := by decide +kernel
theorem dX11_init_128 : decode cX11_init 128 = .ok (.bipush 6, 2) := by decide +kernel
theorem dX11_init_130 : decode cX11_init 130 = .ok (.newarray .int, 2) := by decide +kernel
theorem dX11_init_132 : decode cX11_init 132 = .ok (.putfield 60, 3) := by decide +kernel
theorem dX11_init_135 : decode cX11_init 135 = .ok (.aload_n 0, 1) := by decide +kernel
theorem dX11_init_136 : decode cX11_init 136 = .ok (.bipush 6, 2) := by decide +kernel
theorem dX11_init_138 : decode cX11_init 138 = .ok (.newarray .int, 2) := by decide +kernel
theorem dX11_init_140 : decode cX11_init 140 = .ok (.putfield 63, 3) := by decide +kernel
theorem dX11_init_143 : decode cX11_init 143 = .ok (.aload_n 0, 1) := by decide +kernel
theorem dX11_init_144 : decode cX11_init 144 = .ok (.bipush 6, 2) := by decide +kernel
theorem dX11_init_146 : decode cX11_init 146 = .ok (.newarray .int, 2) := by decide +kernel
theorem dX11_init_148 : decode cX11_init 148 = .ok (.putfield 66, 3) := by decide +kernel
theorem dX11_init_151 : decode cX11_init 151 = .ok (.aload_n 0, 1) := by decide +kernel
theorem dX11_init_152 : decode cX11_init 152 = .ok (.bipush 6, 2) := by decide +kernel
theorem dX11_init_154 : decode cX11_init 154 = .ok (.newarray .int, 2) := by decide +kernel
theorem dX11_init_156 : decode cX11_init 156 = .ok (.putfield 69, 3) := by decide +kernel
theorem dX11_init_159 : decode cX11_init 159 = .ok (.aload_n 0, 1) := by decide +kernel
theorem dX11_init_160 : decode cX11_init 160 = .ok (.getfield 47, 3) := by decide +kernel
theorem dX11_init_163 : decode cX11_init 163 = .ok (.iconst 0, 1) := by decide +kernel
theorem dX11_init_164 : decode cX11_init 164 = .ok (.bipush 8, 2) := by decide +kernel
theorem dX11_init_166 : decode cX11_init 166 = .ok (.iastore, 1) := by decide +kernel
theorem dX11_init_167 : decode cX11_init 167 = .ok (.aload_n 0, 1) := by decide +kernel
theorem dX11_init_168 : decode cX11_init 168 = .ok (.getfield 50, 3) := by decide +kernel
theorem dX11_init_171 : decode cX11_init 171 = .ok (.iconst 0, 1) := by decide +kernel
theorem dX11_init_172 : decode cX11_init 172 = .ok (.bipush 15, 2) := by decide +kernel
theorem dX11_init_174 : decode cX11_init 174 = .ok (.iastore, 1) := by decide +kernel
theorem dX11_init_175 : decode cX11_init 175 = .ok (.aload_n 0, 1) := by decide +kernel
theorem dX11_init_176 : decode cX11_init 176 = .ok (.getfield 53, 3) := by decide +kernel
theorem dX11_init_179 : decode cX11_init 179 = .ok (.iconst 2, 1) := by decide +kernel
theorem dX11_init_180 : decode cX11_init 180 = .ok (.bipush 10, 2) := by decide +kernel
theorem dX11_init_182 : decode cX11_init 182 = .ok (.iastore, 1) := by decide +kernel
theorem dX11_init_183 : decode cX11_init 183 = .ok (.return_, 1) := by decide +kernel
theorem dX11_in_0 : decode cX11_in 0 = .ok (.iload_n 0, 1) := by decide +kernel
theorem dX11_in_1 : decode cX11_in 1 = .ok (.iload_n 1, 1) := by decide +kernel
theorem dX11_in_2 : decode cX11_in 2 = .ok (.if_icmp .lt 12, 3) := by decide +kernel
theorem dX11_in_5 : decode cX11_in 5 = .ok (.iload_n 0, 1) := by decide +kernel
theorem dX11_in_6 : decode cX11_in 6 = .ok (.iload_n 2, 1) := by decide +kernel
theorem dX11_in_7 : decode cX11_in 7 = .ok (.if_icmp .gt 7, 3) := by decide +kernel
theorem dX11_in_10 : decode cX11_in 10 = .ok (.iconst 1, 1) := by decide +kernel
theorem dX11_in_11 : decode cX11_in 11 = .ok (.goto 4, 3) := by decide +kernel
theorem dX11_in_14 : decode cX11_in 14 = .ok (.iconst 0, 1) := by decide +kernel
theorem dX11_in_15 : decode cX11_in 15 = .ok (.ireturn, 1) := by decide +kernel
theorem dX11_type_0 : decode cX11_type 0 = .ok (.iload_n 1, 1) := by decide +kernel
theorem dX11_type_1 : decode cX11_type 1 = .ok (.iconst 0, 1) := by decide +kernel
theorem dX11_type_2 : decode cX11_type 2 = .ok (.sipush 255, 3) := by decide +kernel
theorem dX11_type_5 : decode cX11_type 5 = .ok (.invokestatic 72, 3) := by decide +kernel
theorem dX11_type_8 : decode cX11_type 8 = .ok (.ifCond .ne 5, 3) := by decide +kernel
theorem dX11_type_11 : decode cX11_type 11 = .ok (.iconst (-1), 1) := by decide +kernel
theorem dX11_type_12 : decode cX11_type 12 = .ok (.ireturn, 1) := by decide +kernel
theorem dX11_type_13 : decode cX11_type 13 = .ok (.aload_n 0, 1) := by decide +kernel
theorem dX11_type_14 : decode cX11_type 14 = .ok (.getfield 76, 3) := by decide +kernel
theorem dX11_type_17 : decode cX11_type 17 = .ok (.sipush 200, 3) := by decide +kernel
theorem dX11_type_20 : decode cX11_type 20 = .ok (.if_icmp .ne 6, 3) := by decide +kernel
theorem dX11_type_23 : decode cX11_type 23 = .ok (.bipush (-3), 2) := by decide +kernel
theorem dX11_type_25 : decode cX11_type 25 = .ok (.ireturn, 1) := by decide +kernel
theorem dX11_type_26 : decode cX11_type 26 = .ok (.aload_n 0, 1) := by decide +kernel
theorem dX11_type_27 : decode cX11_type 27 = .ok (.getfield 7, 3) := by decide +kernel
theorem dX11_type_30 : decode cX11_type 30 = .ok (.aload_n 0, 1) := by decide +kernel
theorem dX11_type_31 : decode cX11_type 31 = .ok (.getfield 76, 3) := by decide +kernel
theorem dX11_type_34 : decode cX11_type 34 = .ok (.iload_n 1, 1) := by decide +kernel
theorem dX11_type_35 : decode cX11_type 35 = .ok (.i2b, 1) := by decide +kernel
theorem dX11_type_36 : decode cX11_type 36 = .ok (.bastore, 1) := by decide +kernel
theorem dX11_type_37 : decode cX11_type 37 = .ok (.aload_n 0, 1) := by decide +kernel
theorem dX11_type_38 : decode cX11_type 38 = .ok (.dup, 1) := by decide +kernel
theorem dX11_type_39 : decode cX11_type 39 = .ok (.getfield 76, 3) := by decide +kernel
theorem dX11_type_42 : decode cX11_type 42 = .ok (.iconst 1, 1) := by decide +kernel
theorem dX11_type_43 : decode cX11_type 43 = .ok (.iadd, 1) := by decide +kernel
theorem dX11_type_44 : decode cX11_type 44 = .ok (.putfield 76, 3) := by decide +kernel
theorem dX11_type_47 : decode cX11_type 47 = .ok (.aload_n 0, 1) := by decide +kernel
theorem dX11_type_48 : decode cX11_type 48 = .ok (.getfield 76, 3) := by decide +kernel
theorem dX11_type_51 : decode cX11_type 51 = .ok (.ireturn, 1) := by decide +kernel
theorem dX11_clear_0 : decode cX11_clear 0 = .ok (.aload_n 0, 1) := by decide +kernel
theorem dX11_clear_1 : decode cX11_clear 1 = .ok (.getfield 76, 3) := by decide +kernel
theorem dX11_clear_4 : decode cX11_clear 4 = .ok (.istore_n 1, 1) := by decide +kernel
theorem dX11_clear_5 : decode cX11_clear 5 = .ok (.aload_n 0, 1) := by decide +kernel
theorem dX11_clear_6 : decode cX11_clear 6 = .ok (.iconst 0, 1) := by decide +kernel
theorem dX11_clear_7 : decode cX11_clear 7 = .ok (.putfield 76, 3) := by decide +kernel
theorem dX11_clear_10 : decode cX11_clear 10 = .ok (.iload_n 1, 1) := by decide +kernel
theorem dX11_clear_11 : decode cX11_clear 11 = .ok (.ireturn, 1) := by decide +kernel
theorem dX11_here_0 : decode cX11_here 0 = .ok (.aload_n 0, 1) := by decide +kernel
theorem dX11_here_1 : decode cX11_here 1 = .ok (.getfield 80, 3) := by decide +kernel
theorem dX11_here_4 : decode cX11_here 4 = .ok (.aload_n 0, 1) := by decide +kernel
theorem dX11_here_5 : decode cX11_here 5 = .ok (.getfield 76, 3) := by decide +kernel
theorem dX11_here_8 : decode cX11_here 8 = .ok (.if_icmp .ge 19, 3) := by decide +kernel
theorem dX11_here_11 : decode cX11_here 11 = .ok (.aload_n 0, 1) := by decide +kernel
theorem dX11_here_12 : decode cX11_here 12 = .ok (.getfield 7, 3) := by decide +kernel
theorem dX11_here_15 : decode cX11_here 15 = .ok (.aload_n 0, 1) := by decide +kernel
theorem dX11_here_16 : decode cX11_here 16 = .ok (.getfield 80, 3) := by decide +kernel
theorem dX11_here_19 : decode cX11_here 19 = .ok (.baload, 1) := by decide +kernel
theorem dX11_here_20 : decode cX11_here 20 = .ok (.sipush 255, 3) := by decide +kernel
theorem dX11_here_23 : decode cX11_here 23 = .ok (.iand, 1) := by decide +kernel
theorem dX11_here_24 : decode cX11_here 24 = .ok (.goto 4, 3) := by decide +kernel
theorem dX11_here_27 : decode cX11_here 27 = .ok (.iconst (-1), 1) := by decide +kernel
theorem dX11_here_28 : decode cX11_here 28 = .ok (.ireturn, 1) := by decide +kernel
theorem dX11_next_0 : decode cX11_next 0 = .ok (.aload_n 0, 1) := by decide +kernel
theorem dX11_next_1 : decode cX11_next 1 = .ok (.invokevirtual 83, 3) := by decide +kernel
theorem dX11_next_4 : decode cX11_next 4 = .ok (.bipush 32, 2) := by decide +kernel
theorem dX11_next_6 : decode cX11_next 6 = .ok (.if_icmp .ne 16, 3) := by decide +kernel
theorem dX11_next_9 : decode cX11_next 9 = .ok (.aload_n 0, 1) := by decide +kernel
theorem dX11_next_10 : decode cX11_next 10 = .ok (.dup, 1) := by decide +kernel
theorem dX11_next_11 : decode cX11_next 11 = .ok (.getfield 80, 3) := by decide +kernel
theorem dX11_next_14 : decode cX11_next 14 = .ok (.iconst 1, 1) := by decide +kernel
theorem dX11_next_15 : decode cX11_next 15 = .ok (.iadd, 1) := by decide +kernel
theorem dX11_next_16 : decode cX11_next 16 = .ok (.putfield 80, 3) := by decide +kernel
theorem dX11_next_19 : decode cX11_next 19 = .ok (.goto (-19), 3) := by decide +kernel
theorem dX11_next_22 : decode cX11_next 22 = .ok (.aload_n 0, 1) := by decide +kernel
theorem dX11_next_23 : decode cX11_next 23 = .ok (.aload_n 0, 1) := by decide +kernel
theorem dX11_next_24 : decode cX11_next 24 = .ok (.getfield 80, 3) := by decide +kernel
theorem dX11_next_27 : decode cX11_next 27 = .ok (.putfield 87, 3) := by decide +kernel
theorem dX11_next_30 : decode cX11_next 30 = .ok (.aload_n 0, 1) := by decide +kernel
theorem dX11_next_31 : decode cX11_next 31 = .ok (.iconst 0, 1) := by decide +kernel
theorem dX11_next_32 : decode cX11_next 32 = .ok (.putfield 90, 3) := by decide +kernel
theorem dX11_next_35 : decode cX11_next 35 = .ok (.aload_n 0, 1) := by decide +kernel
theorem dX11_next_36 : decode cX11_next 36 = .ok (.invokevirtual 83, 3) := by decide +kernel
theorem dX11_next_39 : decode cX11_next 39 = .ok (.istore_n 1, 1) := by decide +kernel
theorem dX11_next_40 : decode cX11_next 40 = .ok (.iload_n 1, 1) := by decide +kernel
theorem dX11_next_41 : decode cX11_next 41 = .ok (.ifCond .ge 11, 3) := by decide +kernel
theorem dX11_next_44 : decode cX11_next 44 = .ok (.aload_n 0, 1) := by decide +kernel
theorem dX11_next_45 : decode cX11_next 45 = .ok (.iconst 3, 1) := by decide +kernel
theorem dX11_next_46 : decode cX11_next 46 = .ok (.putfield 93, 3) := by decide +kernel
theorem dX11_next_49 : decode cX11_next 49 = .ok (.goto 204, 3) := by decide +kernel
theorem dX11_next_52 : decode cX11_next 52 = .ok (.iload_n 1, 1) := by decide +kernel
theorem dX11_next_53 : decode cX11_next 53 = .ok (.bipush 97, 2) := by decide +kernel
theorem dX11_next_55 : decode cX11_next 55 = .ok (.bipush 122, 2) := by decide +kernel
theorem dX11_next_57 : decode cX11_next 57 = .ok (.invokestatic 72, 3) := by decide +kernel
theorem dX11_next_60 : decode cX11_next 60 = .ok (.ifCond .eq 55, 3) := by decide +kernel
theorem dX11_next_63 : decode cX11_next 63 = .ok (.aload_n 0, 1) := by decide +kernel
theorem dX11_next_64 : decode cX11_next 64 = .ok (.invokevirtual 83, 3) := by decide +kernel
theorem dX11_next_67 : decode cX11_next 67 = .ok (.bipush 97, 2) := by decide +kernel
theorem dX11_next_69 : decode cX11_next 69 = .ok (.bipush 122, 2) := by decide +kernel
theorem dX11_next_71 : decode cX11_next 71 = .ok (.invokestatic 72, 3) := by decide +kernel
theorem dX11_next_74 : decode cX11_next 74 = .ok (.ifCond .eq 16, 3) := by decide +kernel
theorem dX11_next_77 : decode cX11_next 77 = .ok (.aload_n 0, 1) := by decide +kernel
theorem dX11_next_78 : decode cX11_next 78 = .ok (.dup, 1) := by decide +kernel
theorem dX11_next_79 : decode cX11_next 79 = .ok (.getfield 80, 3) := by decide +kernel
theorem dX11_next_82 : decode cX11_next 82 = .ok (.iconst 1, 1) := by decide +kernel
theorem dX11_next_83 : decode cX11_next 83 = .ok (.iadd, 1) := by decide +kernel
theorem dX11_next_84 : decode cX11_next 84 = .ok (.putfield 80, 3) := by decide +kernel
theorem dX11_next_87 : decode cX11_next 87 = .ok (.goto (-24), 3) := by decide +kernel
theorem dX11_next_90 : decode cX11_next 90 = .ok (.aload_n 0, 1) := by decide +kernel
theorem dX11_next_91 : decode cX11_next 91 = .ok (.aload_n 0, 1) := by decide +kernel
theorem dX11_next_92 : decode cX11_next 92 = .ok (.getfield 80, 3) := by decide +kernel
theorem dX11_next_95 : decode cX11_next 95 = .ok (.aload_n 0, 1) := by decide +kernel
theorem dX11_next_96 : decode cX11_next 96 = .ok (.getfield 87, 3) := by decide +kernel
theorem dX11_next_99 : decode cX11_next 99 = .ok (.isub, 1) := by decide +kernel
theorem dX11_next_100 : decode cX11_next 100 = .ok (.iconst 1, 1) := by decide +kernel
theorem dX11_next_101 : decode cX11_next 101 = .ok (.if_icmp .ne 7, 3) := by decide +kernel
theorem dX11_next_104 : decode cX11_next 104 = .ok (.iload_n 1, 1) := by decide +kernel
theorem dX11_next_105 : decode cX11_next 105 = .ok (.goto 4, 3) := by decide +kernel
theorem dX11_next_108 : decode cX11_next 108 = .ok (.iconst 4, 1) := by decide +kernel
theorem dX11_next_109 : decode cX11_next 109 = .ok (.putfield 93, 3) := by decide +kernel
theorem dX11_next_112 : decode cX11_next 112 = .ok (.goto 141, 3) := by decide +kernel
theorem dX11_next_115 : decode cX11_next 115 = .ok (.iload_n 1, 1) := by decide +kernel
theorem dX11_next_116 : decode cX11_next 116 = .ok (.bipush 48, 2) := by decide +kernel
theorem dX11_next_118 : decode cX11_next 118 = .ok (.bipush 57, 2) := by decide +kernel
theorem dX11_next_120 : decode cX11_next 120 = .ok (.invokestatic 72, 3) := by decide +kernel
theorem dX11_next_123 : decode cX11_next 123 = .ok (.ifCond .eq 105, 3) := by decide +kernel
theorem dX11_next_126 : decode cX11_next 126 = .ok (.aload_n 0, 1) := by decide +kernel
theorem dX11_next_127 : decode cX11_next 127 = .ok (.invokevirtual 83, 3) := by decide +kernel
theorem dX11_next_130 : decode cX11_next 130 = .ok (.bipush 48, 2) := by decide +kernel
theorem dX11_next_132 : decode cX11_next 132 = .ok (.bipush 57, 2) := by decide +kernel
theorem dX11_next_134 : decode cX11_next 134 = .ok (.invokestatic 72, 3) := by decide +kernel
theorem dX11_next_137 : decode cX11_next 137 = .ok (.ifCond .eq 51, 3) := by decide +kernel
theorem dX11_next_140 : decode cX11_next 140 = .ok (.aload_n 0, 1) := by decide +kernel
theorem dX11_next_141 : decode cX11_next 141 = .ok (.aload_n 0, 1) := by decide +kernel
theorem dX11_next_142 : decode cX11_next 142 = .ok (.getfield 90, 3) := by decide +kernel
theorem dX11_next_145 : decode cX11_next 145 = .ok (.bipush 99, 2) := by decide +kernel
theorem dX11_next_147 : decode cX11_next 147 = .ok (.if_icmp .le 10, 3) := by decide +kernel
theorem dX11_next_150 : decode cX11_next 150 = .ok (.aload_n 0, 1) := by decide +kernel
theorem dX11_next_151 : decode cX11_next 151 = .ok (.getfield 90, 3) := by decide +kernel
theorem dX11_next_154 : decode cX11_next 154 = .ok (.goto 18, 3) := by decide +kernel
theorem dX11_next_157 : decode cX11_next 157 = .ok (.bipush 10, 2) := by decide +kernel
theorem dX11_next_159 : decode cX11_next 159 = .ok (.aload_n 0, 1) := by decide +kernel
theorem dX11_next_160 : decode cX11_next 160 = .ok (.getfield 90, 3) := by decide +kernel
theorem dX11_next_163 : decode cX11_next 163 = .ok (.imul, 1) := by decide +kernel
theorem dX11_next_164 : decode cX11_next 164 = .ok (.aload_n 0, 1) := by decide +kernel
theorem dX11_next_165 : decode cX11_next 165 = .ok (.invokevirtual 83, 3) := by decide +kernel
theorem dX11_next_168 : decode cX11_next 168 = .ok (.iadd, 1) := by decide +kernel
theorem dX11_next_169 : decode cX11_next 169 = .ok (.bipush 48, 2) := by decide +kernel
theorem dX11_next_171 : decode cX11_next 171 = .ok (.isub, 1) := by decide +kernel
theorem dX11_next_172 : decode cX11_next 172 = .ok (.putfield 90, 3) := by decide +kernel
theorem dX11_next_175 : decode cX11_next 175 = .ok (.aload_n 0, 1) := by decide +kernel
theorem dX11_next_176 : decode cX11_next 176 = .ok (.dup, 1) := by decide +kernel
theorem dX11_next_177 : decode cX11_next 177 = .ok (.getfield 80, 3) := by decide +kernel
theorem dX11_next_180 : decode cX11_next 180 = .ok (.iconst 1, 1) := by decide +kernel
theorem dX11_next_181 : decode cX11_next 181 = .ok (.iadd, 1) := by decide +kernel
theorem dX11_next_182 : decode cX11_next 182 = .ok (.putfield 80, 3) := by decide +kernel
theorem dX11_next_185 : decode cX11_next 185 = .ok (.goto (-59), 3) := by decide +kernel
theorem dX11_next_188 : decode cX11_next 188 = .ok (.aload_n 0, 1) := by decide +kernel
theorem dX11_next_189 : decode cX11_next 189 = .ok (.aload_n 0, 1) := by decide +kernel
theorem dX11_next_190 : decode cX11_next 190 = .ok (.getfield 90, 3) := by decide +kernel
theorem dX11_next_193 : decode cX11_next 193 = .ok (.bipush 99, 2) := by decide +kernel
theorem dX11_next_195 : decode cX11_next 195 = .ok (.if_icmp .gt 22, 3) := by decide +kernel
theorem dX11_next_198 : decode cX11_next 198 = .ok (.iload_n 1, 1) := by decide +kernel
theorem dX11_next_199 : decode cX11_next 199 = .ok (.bipush 48, 2) := by decide +kernel
theorem dX11_next_201 : decode cX11_next 201 = .ok (.if_icmp .ne 20, 3) := by decide +kernel
theorem dX11_next_204 : decode cX11_next 204 = .ok (.aload_n 0, 1) := by decide +kernel
theorem dX11_next_205 : decode cX11_next 205 = .ok (.getfield 80, 3) := by decide +kernel
theorem dX11_next_208 : decode cX11_next 208 = .ok (.aload_n 0, 1) := by decide +kernel
theorem dX11_next_209 : decode cX11_next 209 = .ok (.getfield 87, 3) := by decide +kernel
theorem dX11_next_212 : decode cX11_next 212 = .ok (.isub, 1) := by decide +kernel
theorem dX11_next_213 : decode cX11_next 213 = .ok (.iconst 1, 1) := by decide +kernel
theorem dX11_next_214 : decode cX11_next 214 = .ok (.if_icmp .le 7, 3) := by decide +kernel
theorem dX11_next_217 : decode cX11_next 217 = .ok (.iconst 4, 1) := by decide +kernel
theorem dX11_next_218 : decode cX11_next 218 = .ok (.goto 4, 3) := by decide +kernel
theorem dX11_next_221 : decode cX11_next 221 = .ok (.iconst 1, 1) := by decide +kernel
theorem dX11_next_222 : decode cX11_next 222 = .ok (.putfield 93, 3) := by decide +kernel
theorem dX11_next_225 : decode cX11_next 225 = .ok (.goto 28, 3) := by decide +kernel
theorem dX11_next_228 : decode cX11_next 228 = .ok (.aload_n 0, 1) := by decide +kernel
theorem dX11_next_229 : decode cX11_next 229 = .ok (.dup, 1) := by decide +kernel
theorem dX11_next_230 : decode cX11_next 230 = .ok (.getfield 80, 3) := by decide +kernel
theorem dX11_next_233 : decode cX11_next 233 = .ok (.iconst 1, 1) := by decide +kernel
theorem dX11_next_234 : decode cX11_next 234 = .ok (.iadd, 1) := by decide +kernel
theorem dX11_next_235 : decode cX11_next 235 = .ok (.putfield 80, 3) := by decide +kernel
theorem dX11_next_238 : decode cX11_next 238 = .ok (.aload_n 0, 1) := by decide +kernel
theorem dX11_next_239 : decode cX11_next 239 = .ok (.iload_n 1, 1) := by decide +kernel
theorem dX11_next_240 : decode cX11_next 240 = .ok (.bipush 59, 2) := by decide +kernel
theorem dX11_next_242 : decode cX11_next 242 = .ok (.if_icmp .ne 7, 3) := by decide +kernel
theorem dX11_next_245 : decode cX11_next 245 = .ok (.iconst 2, 1) := by decide +kernel
theorem dX11_next_246 : decode cX11_next 246 = .ok (.goto 4, 3) := by decide +kernel
theorem dX11_next_249 : decode cX11_next 249 = .ok (.iconst 4, 1) := by decide +kernel
theorem dX11_next_250 : decode cX11_next 250 = .ok (.putfield 93, 3) := by decide +kernel
theorem dX11_next_253 : decode cX11_next 253 = .ok (.return_, 1) := by decide +kernel
theorem dX11_due_0 : decode cX11_due 0 = .ok (.aload_n 0, 1) := by decide +kernel
theorem dX11_due_1 : decode cX11_due 1 = .ok (.getfield 90, 3) := by decide +kernel
theorem dX11_due_4 : decode cX11_due 4 = .ok (.istore_n 2, 1) := by decide +kernel
theorem dX11_due_5 : decode cX11_due 5 = .ok (.aload_n 0, 1) := by decide +kernel
theorem dX11_due_6 : decode cX11_due 6 = .ok (.getfield 96, 3) := by decide +kernel
theorem dX11_due_9 : decode cX11_due 9 = .ok (.bipush (-9), 2) := by decide +kernel
theorem dX11_due_11 : decode cX11_due 11 = .ok (.if_icmp .ne 22, 3) := by decide +kernel
theorem dX11_due_14 : decode cX11_due 14 = .ok (.iload_n 1, 1) := by decide +kernel
theorem dX11_due_15 : decode cX11_due 15 = .ok (.ifCond .eq 10, 3) := by decide +kernel
theorem dX11_due_18 : decode cX11_due 18 = .ok (.aload_n 0, 1) := by decide +kernel
theorem dX11_due_19 : decode cX11_due 19 = .ok (.invokevirtual 99, 3) := by decide +kernel
theorem dX11_due_22 : decode cX11_due 22 = .ok (.goto 11, 3) := by decide +kernel
theorem dX11_due_25 : decode cX11_due 25 = .ok (.aload_n 0, 1) := by decide +kernel
theorem dX11_due_26 : decode cX11_due 26 = .ok (.aload_n 0, 1) := by decide +kernel
theorem dX11_due_27 : decode cX11_due 27 = .ok (.getfield 87, 3) := by decide +kernel
theorem dX11_due_30 : decode cX11_due 30 = .ok (.putfield 96, 3) := by decide +kernel
theorem dX11_due_33 : decode cX11_due 33 = .ok (.iload_n 2, 1) := by decide +kernel
theorem dX11_due_34 : decode cX11_due 34 = .ok (.ireturn, 1) := by decide +kernel
theorem dX11_number_0 : decode cX11_number 0 = .ok (.aload_n 0, 1) := by decide +kernel
theorem dX11_number_1 : decode cX11_number 1 = .ok (.aload_n 0, 1) := by decide +kernel
theorem dX11_number_2 : decode cX11_number 2 = .ok (.getfield 93, 3) := by decide +kernel
theorem dX11_number_5 : decode cX11_number 5 = .ok (.iconst 1, 1) := by decide +kernel
theorem dX11_number_6 : decode cX11_number 6 = .ok (.if_icmp .ne 19, 3) := by decide +kernel
theorem dX11_number_9 : decode cX11_number 9 = .ok (.aload_n 0, 1) := by decide +kernel
theorem dX11_number_10 : decode cX11_number 10 = .ok (.getfield 90, 3) := by decide +kernel
theorem dX11_number_13 : decode cX11_number 13 = .ok (.iload_n 1, 1) := by decide +kernel
theorem dX11_number_14 : decode cX11_number 14 = .ok (.iload_n 2, 1) := by decide +kernel
theorem dX11_number_15 : decode cX11_number 15 = .ok (.invokestatic 72, 3) := by decide +kernel
theorem dX11_number_18 : decode cX11_number 18 = .ok (.ifCond .eq 7, 3) := by decide +kernel
theorem dX11_number_21 : decode cX11_number 21 = .ok (.iconst 1, 1) := by decide +kernel
theorem dX11_number_22 : decode cX11_number 22 = .ok (.goto 4, 3) := by decide +kernel
theorem dX11_number_25 : decode cX11_number 25 = .ok (.iconst 0, 1) := by decide +kernel
theorem dX11_number_26 : decode cX11_number 26 = .ok (.invokevirtual 102, 3) := by decide +kernel
theorem dX11_number_29 : decode cX11_number 29 = .ok (.ireturn, 1) := by decide +kernel
theorem dX11_mayBe_0 : decode cX11_mayBe 0 = .ok (.iload_n 1, 1) := by decide +kernel
theorem dX11_mayBe_1 : decode cX11_mayBe 1 = .ok (.lookupswitch 128 #[(97, 85), (100, 115), (102, 68), (115, 51), (116, 102)], 51) := by decide +kernel
theorem dX11_mayBe_52 : decode cX11_mayBe 52 = .ok (.aload_n 0, 1) := by decide +kernel
theorem dX11_mayBe_53 : decode cX11_mayBe 53 = .ok (.getfield 13, 3) := by decide +kernel
theorem dX11_mayBe_56 : decode cX11_mayBe 56 = .ok (.iconst 1, 1) := by decide +kernel
theorem dX11_mayBe_57 : decode cX11_mayBe 57 = .ok (.iaload, 1) := by decide +kernel
theorem dX11_mayBe_58 : decode cX11_mayBe 58 = .ok (.bipush 6, 2) := by decide +kernel
theorem dX11_mayBe_60 : decode cX11_mayBe 60 = .ok (.if_icmp .ge 7, 3) := by decide +kernel
theorem dX11_mayBe_63 : decode cX11_mayBe 63 = .ok (.iconst 1, 1) := by decide +kernel
theorem dX11_mayBe_64 : decode cX11_mayBe 64 = .ok (.goto 4, 3) := by decide +kernel
theorem dX11_mayBe_67 : decode cX11_mayBe 67 = .ok (.iconst 0, 1) := by decide +kernel
theorem dX11_mayBe_68 : decode cX11_mayBe 68 = .ok (.ireturn, 1) := by decide +kernel
theorem dX11_mayBe_69 : decode cX11_mayBe 69 = .ok (.aload_n 0, 1) := by decide +kernel
theorem dX11_mayBe_70 : decode cX11_mayBe 70 = .ok (.getfield 20, 3) := by decide +kernel
theorem dX11_mayBe_73 : decode cX11_mayBe 73 = .ok (.iconst 1, 1) := by decide +kernel
theorem dX11_mayBe_74 : decode cX11_mayBe 74 = .ok (.iaload, 1) := by decide +kernel
theorem dX11_mayBe_75 : decode cX11_mayBe 75 = .ok (.bipush 8, 2) := by decide +kernel
theorem dX11_mayBe_77 : decode cX11_mayBe 77 = .ok (.if_icmp .ge 7, 3) := by decide +kernel
theorem dX11_mayBe_80 : decode cX11_mayBe 80 = .ok (.iconst 1, 1) := by decide +kernel
theorem dX11_mayBe_81 : decode cX11_mayBe 81 = .ok (.goto 4, 3) := by decide +kernel
theorem dX11_mayBe_84 : decode cX11_mayBe 84 = .ok (.iconst 0, 1) := by decide +kernel
theorem dX11_mayBe_85 : decode cX11_mayBe 85 = .ok (.ireturn, 1) := by decide +kernel
theorem dX11_mayBe_86 : decode cX11_mayBe 86 = .ok (.aload_n 0, 1) := by decide +kernel
theorem dX11_mayBe_87 : decode cX11_mayBe 87 = .ok (.getfield 32, 3) := by decide +kernel
theorem dX11_mayBe_90 : decode cX11_mayBe 90 = .ok (.iconst 1, 1) := by decide +kernel
theorem dX11_mayBe_91 : decode cX11_mayBe 91 = .ok (.iaload, 1) := by decide +kernel
theorem dX11_mayBe_92 : decode cX11_mayBe 92 = .ok (.bipush 8, 2) := by decide +kernel
theorem dX11_mayBe_94 : decode cX11_mayBe 94 = .ok (.if_icmp .ge 7, 3) := by decide +kernel
theorem dX11_mayBe_97 : decode cX11_mayBe 97 = .ok (.iconst 1, 1) := by decide +kernel
theorem dX11_mayBe_98 : decode cX11_mayBe 98 = .ok (.goto 4, 3) := by decide +kernel
theorem dX11_mayBe_101 : decode cX11_mayBe 101 = .ok (.iconst 0, 1) := by decide +kernel
theorem dX11_mayBe_102 : decode cX11_mayBe 102 = .ok (.ireturn, 1) := by decide +kernel
theorem dX11_mayBe_103 : decode cX11_mayBe 103 = .ok (.aload_n 0, 1) := by decide +kernel
theorem dX11_mayBe_104 : decode cX11_mayBe 104 = .ok (.getfield 106, 3) := by decide +kernel
theorem dX11_mayBe_107 : decode cX11_mayBe 107 = .ok (.ifCond .ne 7, 3) := by decide +kernel
theorem dX11_mayBe_110 : decode cX11_mayBe 110 = .ok (.iconst 1, 1) := by decide +kernel
theorem dX11_mayBe_111 : decode cX11_mayBe 111 = .ok (.goto 4, 3) := by decide +kernel
theorem dX11_mayBe_114 : decode cX11_mayBe 114 = .ok (.iconst 0, 1) := by decide +kernel
theorem dX11_mayBe_115 : decode cX11_mayBe 115 = .ok (.ireturn, 1) := by decide +kernel
theorem dX11_mayBe_116 : decode cX11_mayBe 116 = .ok (.aload_n 0, 1) := by decide +kernel
theorem dX11_mayBe_117 : decode cX11_mayBe 117 = .ok (.getfield 110, 3) := by decide +kernel
theorem dX11_mayBe_120 : decode cX11_mayBe 120 = .ok (.ifCond .ne 7, 3) := by decide +kernel
theorem dX11_mayBe_123 : decode cX11_mayBe 123 = .ok (.iconst 1, 1) := by decide +kernel
theorem dX11_mayBe_124 : decode cX11_mayBe 124 = .ok (.goto 4, 3) := by decide +kernel
theorem dX11_mayBe_127 : decode cX11_mayBe 127 = .ok (.iconst 0, 1) := by decide +kernel
theorem dX11_mayBe_128 : decode cX11_mayBe 128 = .ok (.ireturn, 1) := by decide +kernel
theorem dX11_mayBe_129 : decode cX11_mayBe 129 = .ok (.iconst 0, 1) := by decide +kernel
theorem dX11_mayBe_130 : decode cX11_mayBe 130 = .ok (.ireturn, 1) := by decide +kernel
theorem dX11_readFact_0 : decode cX11_readFact 0 = .ok (.bipush 8, 2) := by decide +kernel
theorem dX11_readFact_2 : decode cX11_readFact 2 = .ok (.aload_n 0, 1) := by decide +kernel
theorem dX11_readFact_3 : decode cX11_readFact 3 = .ok (.getfield 20, 3) := by decide +kernel
theorem dX11_readFact_6 : decode cX11_readFact 6 = .ok (.iconst 1, 1) := by decide +kernel
theorem dX11_readFact_7 : decode cX11_readFact 7 = .ok (.iaload, 1) := by decide +kernel
theorem dX11_readFact_8 : decode cX11_readFact 8 = .ok (.iadd, 1) := by decide +kernel
theorem dX11_readFact_9 : decode cX11_readFact 9 = .ok (.istore_n 1, 1) := by decide +kernel
theorem dX11_readFact_10 : decode cX11_readFact 10 = .ok (.aload_n 0, 1) := by decide +kernel
theorem dX11_readFact_11 : decode cX11_readFact 11 = .ok (.getfield 23, 3) := by decide +kernel
theorem dX11_readFact_14 : decode cX11_readFact 14 = .ok (.iload_n 1, 1) := by decide +kernel
theorem dX11_readFact_15 : decode cX11_readFact 15 = .ok (.aload_n 0, 1) := by decide +kernel
theorem dX11_readFact_16 : decode cX11_readFact 16 = .ok (.iconst 1, 1) := by decide +kernel
theorem dX11_readFact_17 : decode cX11_readFact 17 = .ok (.bipush 9, 2) := by decide +kernel
theorem dX11_readFact_19 : decode cX11_readFact 19 = .ok (.invokevirtual 113, 3) := by decide +kernel
theorem dX11_readFact_22 : decode cX11_readFact 22 = .ok (.iastore, 1) := by decide +kernel
theorem dX11_readFact_23 : decode cX11_readFact 23 = .ok (.aload_n 0, 1) := by decide +kernel
theorem dX11_readFact_24 : decode cX11_readFact 24 = .ok (.getfield 26, 3) := by decide +kernel
theorem dX11_readFact_27 : decode cX11_readFact 27 = .ok (.iload_n 1, 1) := by decide +kernel
theorem dX11_readFact_28 : decode cX11_readFact 28 = .ok (.aload_n 0, 1) := by decide +kernel
theorem dX11_readFact_29 : decode cX11_readFact 29 = .ok (.iconst 0, 1) := by decide +kernel
theorem dX11_readFact_30 : decode cX11_readFact 30 = .ok (.bipush 10, 2) := by decide +kernel
theorem dX11_readFact_32 : decode cX11_readFact 32 = .ok (.invokevirtual 113, 3) := by decide +kernel
theorem dX11_readFact_35 : decode cX11_readFact 35 = .ok (.iastore, 1) := by decide +kernel
theorem dX11_readFact_36 : decode cX11_readFact 36 = .ok (.iconst 0, 1) := by decide +kernel
theorem dX11_readFact_37 : decode cX11_readFact 37 = .ok (.istore_n 2, 1) := by decide +kernel
theorem dX11_readFact_38 : decode cX11_readFact 38 = .ok (.iload_n 2, 1) := by decide +kernel
theorem dX11_readFact_39 : decode cX11_readFact 39 = .ok (.bipush 6, 2) := by decide +kernel
theorem dX11_readFact_41 : decode cX11_readFact 41 = .ok (.if_icmp .ge 44, 3) := by decide +kernel
theorem dX11_readFact_44 : decode cX11_readFact 44 = .ok (.aload_n 0, 1) := by decide +kernel
theorem dX11_readFact_45 : decode cX11_readFact 45 = .ok (.getfield 29, 3) := by decide +kernel
theorem dX11_readFact_48 : decode cX11_readFact 48 = .ok (.bipush 6, 2) := by decide +kernel
theorem dX11_readFact_50 : decode cX11_readFact 50 = .ok (.iload_n 1, 1) := by decide +kernel
theorem dX11_readFact_51 : decode cX11_readFact 51 = .ok (.imul, 1) := by decide +kernel
theorem dX11_readFact_52 : decode cX11_readFact 52 = .ok (.iload_n 2, 1) := by decide +kernel
theorem dX11_readFact_53 : decode cX11_readFact 53 = .ok (.iadd, 1) := by decide +kernel
theorem dX11_readFact_54 : decode cX11_readFact 54 = .ok (.iload_n 2, 1) := by decide +kernel
theorem dX11_readFact_55 : decode cX11_readFact 55 = .ok (.aload_n 0, 1) := by decide +kernel
theorem dX11_readFact_56 : decode cX11_readFact 56 = .ok (.getfield 13, 3) := by decide +kernel
theorem dX11_readFact_59 : decode cX11_readFact 59 = .ok (.iconst 1, 1) := by decide +kernel
theorem dX11_readFact_60 : decode cX11_readFact 60 = .ok (.iaload, 1) := by decide +kernel
theorem dX11_readFact_61 : decode cX11_readFact 61 = .ok (.if_icmp .ge 16, 3) := by decide +kernel
theorem dX11_readFact_64 : decode cX11_readFact 64 = .ok (.aload_n 0, 1) := by decide +kernel
theorem dX11_readFact_65 : decode cX11_readFact 65 = .ok (.iconst 0, 1) := by decide +kernel
theorem dX11_readFact_66 : decode cX11_readFact 66 = .ok (.bipush 18, 2) := by decide +kernel
theorem dX11_readFact_68 : decode cX11_readFact 68 = .ok (.invokevirtual 113, 3) := by decide +kernel
theorem dX11_readFact_71 : decode cX11_readFact 71 = .ok (.bipush 9, 2) := by decide +kernel
theorem dX11_readFact_73 : decode cX11_readFact 73 = .ok (.isub, 1) := by decide +kernel
theorem dX11_readFact_74 : decode cX11_readFact 74 = .ok (.goto 4, 3) := by decide +kernel
theorem dX11_readFact_77 : decode cX11_readFact 77 = .ok (.iconst 0, 1) := by decide +kernel
theorem dX11_readFact_78 : decode cX11_readFact 78 = .ok (.iastore, 1) := by decide +kernel
theorem dX11_readFact_79 : decode cX11_readFact 79 = .ok (.iinc 2 1, 3) := by decide +kernel
theorem dX11_readFact_82 : decode cX11_readFact 82 = .ok (.goto (-44), 3) := by decide +kernel
theorem dX11_readFact_85 : decode cX11_readFact 85 = .ok (.aload_n 0, 1) := by decide +kernel
theorem dX11_readFact_86 : decode cX11_readFact 86 = .ok (.getfield 20, 3) := by decide +kernel
theorem dX11_readFact_89 : decode cX11_readFact 89 = .ok (.iconst 1, 1) := by decide +kernel
theorem dX11_readFact_90 : decode cX11_readFact 90 = .ok (.dup2, 1) := by decide +kernel
theorem dX11_readFact_91 : decode cX11_readFact 91 = .ok (.iaload, 1) := by decide +kernel
theorem dX11_readFact_92 : decode cX11_readFact 92 = .ok (.iconst 1, 1) := by decide +kernel
theorem dX11_readFact_93 : decode cX11_readFact 93 = .ok (.iadd, 1) := by decide +kernel
theorem dX11_readFact_94 : decode cX11_readFact 94 = .ok (.iastore, 1) := by decide +kernel
theorem dX11_readFact_95 : decode cX11_readFact 95 = .ok (.return_, 1) := by decide +kernel
theorem dX11_readRow_0 : decode cX11_readRow 0 = .ok (.iload_n 1, 1) := by decide +kernel
theorem dX11_readRow_1 : decode cX11_readRow 1 = .ok (.bipush 115, 2) := by decide +kernel
theorem dX11_readRow_3 : decode cX11_readRow 3 = .ok (.if_icmp .ne 37, 3) := by decide +kernel
theorem dX11_readRow_6 : decode cX11_readRow 6 = .ok (.aload_n 0, 1) := by decide +kernel
theorem dX11_readRow_7 : decode cX11_readRow 7 = .ok (.getfield 17, 3) := by decide +kernel
theorem dX11_readRow_10 : decode cX11_readRow 10 = .ok (.bipush 6, 2) := by decide +kernel
theorem dX11_readRow_12 : decode cX11_readRow 12 = .ok (.aload_n 0, 1) := by decide +kernel
theorem dX11_readRow_13 : decode cX11_readRow 13 = .ok (.getfield 13, 3) := by decide +kernel
theorem dX11_readRow_16 : decode cX11_readRow 16 = .ok (.iconst 1, 1) := by decide +kernel
theorem dX11_readRow_17 : decode cX11_readRow 17 = .ok (.iaload, 1) := by decide +kernel
theorem dX11_readRow_18 : decode cX11_readRow 18 = .ok (.iadd, 1) := by decide +kernel
theorem dX11_readRow_19 : decode cX11_readRow 19 = .ok (.aload_n 0, 1) := by decide +kernel
theorem dX11_readRow_20 : decode cX11_readRow 20 = .ok (.iconst 0, 1) := by decide +kernel
theorem dX11_readRow_21 : decode cX11_readRow 21 = .ok (.bipush 20, 2) := by decide +kernel
theorem dX11_readRow_23 : decode cX11_readRow 23 = .ok (.invokevirtual 113, 3) := by decide +kernel
theorem dX11_readRow_26 : decode cX11_readRow 26 = .ok (.iastore, 1) := by decide +kernel
theorem dX11_readRow_27 : decode cX11_readRow 27 = .ok (.aload_n 0, 1) := by decide +kernel
theorem dX11_readRow_28 : decode cX11_readRow 28 = .ok (.getfield 13, 3) := by decide +kernel
theorem dX11_readRow_31 : decode cX11_readRow 31 = .ok (.iconst 1, 1) := by decide +kernel
theorem dX11_readRow_32 : decode cX11_readRow 32 = .ok (.dup2, 1) := by decide +kernel
theorem dX11_readRow_33 : decode cX11_readRow 33 = .ok (.iaload, 1) := by decide +kernel
theorem dX11_readRow_34 : decode cX11_readRow 34 = .ok (.iconst 1, 1) := by decide +kernel
theorem dX11_readRow_35 : decode cX11_readRow 35 = .ok (.iadd, 1) := by decide +kernel
theorem dX11_readRow_36 : decode cX11_readRow 36 = .ok (.iastore, 1) := by decide +kernel
theorem dX11_readRow_37 : decode cX11_readRow 37 = .ok (.goto 168, 3) := by decide +kernel
theorem dX11_readRow_40 : decode cX11_readRow 40 = .ok (.iload_n 1, 1) := by decide +kernel
theorem dX11_readRow_41 : decode cX11_readRow 41 = .ok (.bipush 102, 2) := by decide +kernel
theorem dX11_readRow_43 : decode cX11_readRow 43 = .ok (.if_icmp .ne 10, 3) := by decide +kernel
theorem dX11_readRow_46 : decode cX11_readRow 46 = .ok (.aload_n 0, 1) := by decide +kernel
theorem dX11_readRow_47 : decode cX11_readRow 47 = .ok (.invokevirtual 117, 3) := by decide +kernel
theorem dX11_readRow_50 : decode cX11_readRow 50 = .ok (.goto 155, 3) := by decide +kernel
theorem dX11_readRow_53 : decode cX11_readRow 53 = .ok (.iload_n 1, 1) := by decide +kernel
theorem dX11_readRow_54 : decode cX11_readRow 54 = .ok (.bipush 97, 2) := by decide +kernel
theorem dX11_readRow_56 : decode cX11_readRow 56 = .ok (.if_icmp .ne 88, 3) := by decide +kernel
theorem dX11_readRow_59 : decode cX11_readRow 59 = .ok (.bipush 8, 2) := by decide +kernel
theorem dX11_readRow_61 : decode cX11_readRow 61 = .ok (.aload_n 0, 1) := by decide +kernel
theorem dX11_readRow_62 : decode cX11_readRow 62 = .ok (.getfield 32, 3) := by decide +kernel
theorem dX11_readRow_65 : decode cX11_readRow 65 = .ok (.iconst 1, 1) := by decide +kernel
theorem dX11_readRow_66 : decode cX11_readRow 66 = .ok (.iaload, 1) := by decide +kernel
theorem dX11_readRow_67 : decode cX11_readRow 67 = .ok (.iadd, 1) := by decide +kernel
theorem dX11_readRow_68 : decode cX11_readRow 68 = .ok (.istore_n 2, 1) := by decide +kernel
theorem dX11_readRow_69 : decode cX11_readRow 69 = .ok (.aload_n 0, 1) := by decide +kernel
theorem dX11_readRow_70 : decode cX11_readRow 70 = .ok (.getfield 35, 3) := by decide +kernel
theorem dX11_readRow_73 : decode cX11_readRow 73 = .ok (.iload_n 2, 1) := by decide +kernel
theorem dX11_readRow_74 : decode cX11_readRow 74 = .ok (.aload_n 0, 1) := by decide +kernel
theorem dX11_readRow_75 : decode cX11_readRow 75 = .ok (.iconst 0, 1) := by decide +kernel
theorem dX11_readRow_76 : decode cX11_readRow 76 = .ok (.aload_n 0, 1) := by decide +kernel
theorem dX11_readRow_77 : decode cX11_readRow 77 = .ok (.getfield 13, 3) := by decide +kernel
theorem dX11_readRow_80 : decode cX11_readRow 80 = .ok (.iconst 1, 1) := by decide +kernel
theorem dX11_readRow_81 : decode cX11_readRow 81 = .ok (.iaload, 1) := by decide +kernel
theorem dX11_readRow_82 : decode cX11_readRow 82 = .ok (.iconst 1, 1) := by decide +kernel
theorem dX11_readRow_83 : decode cX11_readRow 83 = .ok (.isub, 1) := by decide +kernel
theorem dX11_readRow_84 : decode cX11_readRow 84 = .ok (.invokevirtual 113, 3) := by decide +kernel
theorem dX11_readRow_87 : decode cX11_readRow 87 = .ok (.iastore, 1) := by decide +kernel
theorem dX11_readRow_88 : decode cX11_readRow 88 = .ok (.aload_n 0, 1) := by decide +kernel
theorem dX11_readRow_89 : decode cX11_readRow 89 = .ok (.getfield 38, 3) := by decide +kernel
theorem dX11_readRow_92 : decode cX11_readRow 92 = .ok (.iload_n 2, 1) := by decide +kernel
theorem dX11_readRow_93 : decode cX11_readRow 93 = .ok (.aload_n 0, 1) := by decide +kernel
theorem dX11_readRow_94 : decode cX11_readRow 94 = .ok (.iconst 0, 1) := by decide +kernel
theorem dX11_readRow_95 : decode cX11_readRow 95 = .ok (.iconst 3, 1) := by decide +kernel
theorem dX11_readRow_96 : decode cX11_readRow 96 = .ok (.invokevirtual 113, 3) := by decide +kernel
theorem dX11_readRow_99 : decode cX11_readRow 99 = .ok (.iastore, 1) := by decide +kernel
theorem dX11_readRow_100 : decode cX11_readRow 100 = .ok (.aload_n 0, 1) := by decide +kernel
theorem dX11_readRow_101 : decode cX11_readRow 101 = .ok (.getfield 41, 3) := by decide +kernel
theorem dX11_readRow_104 : decode cX11_readRow 104 = .ok (.iload_n 2, 1) := by decide +kernel
theorem dX11_readRow_105 : decode cX11_readRow 105 = .ok (.aload_n 0, 1) := by decide +kernel
theorem dX11_readRow_106 : decode cX11_readRow 106 = .ok (.iconst 0, 1) := by decide +kernel
theorem dX11_readRow_107 : decode cX11_readRow 107 = .ok (.bipush 23, 2) := by decide +kernel
theorem dX11_readRow_109 : decode cX11_readRow 109 = .ok (.invokevirtual 113, 3) := by decide +kernel
theorem dX11_readRow_112 : decode cX11_readRow 112 = .ok (.iastore, 1) := by decide +kernel
theorem dX11_readRow_113 : decode cX11_readRow 113 = .ok (.aload_n 0, 1) := by decide +kernel
theorem dX11_readRow_114 : decode cX11_readRow 114 = .ok (.getfield 44, 3) := by decide +kernel
theorem dX11_readRow_117 : decode cX11_readRow 117 = .ok (.iload_n 2, 1) := by decide +kernel
theorem dX11_readRow_118 : decode cX11_readRow 118 = .ok (.aload_n 0, 1) := by decide +kernel
theorem dX11_readRow_119 : decode cX11_readRow 119 = .ok (.aload_n 0, 1) := by decide +kernel
theorem dX11_readRow_120 : decode cX11_readRow 120 = .ok (.getfield 41, 3) := by decide +kernel
theorem dX11_readRow_123 : decode cX11_readRow 123 = .ok (.iload_n 2, 1) := by decide +kernel
theorem dX11_readRow_124 : decode cX11_readRow 124 = .ok (.iaload, 1) := by decide +kernel
theorem dX11_readRow_125 : decode cX11_readRow 125 = .ok (.bipush 23, 2) := by decide +kernel
theorem dX11_readRow_127 : decode cX11_readRow 127 = .ok (.invokevirtual 113, 3) := by decide +kernel
theorem dX11_readRow_130 : decode cX11_readRow 130 = .ok (.iastore, 1) := by decide +kernel
theorem dX11_readRow_131 : decode cX11_readRow 131 = .ok (.aload_n 0, 1) := by decide +kernel
theorem dX11_readRow_132 : decode cX11_readRow 132 = .ok (.getfield 32, 3) := by decide +kernel
theorem dX11_readRow_135 : decode cX11_readRow 135 = .ok (.iconst 1, 1) := by decide +kernel
theorem dX11_readRow_136 : decode cX11_readRow 136 = .ok (.dup2, 1) := by decide +kernel
theorem dX11_readRow_137 : decode cX11_readRow 137 = .ok (.iaload, 1) := by decide +kernel
theorem dX11_readRow_138 : decode cX11_readRow 138 = .ok (.iconst 1, 1) := by decide +kernel
theorem dX11_readRow_139 : decode cX11_readRow 139 = .ok (.iadd, 1) := by decide +kernel
theorem dX11_readRow_140 : decode cX11_readRow 140 = .ok (.iastore, 1) := by decide +kernel
theorem dX11_readRow_141 : decode cX11_readRow 141 = .ok (.goto 64, 3) := by decide +kernel
theorem dX11_readRow_144 : decode cX11_readRow 144 = .ok (.iload_n 1, 1) := by decide +kernel
theorem dX11_readRow_145 : decode cX11_readRow 145 = .ok (.bipush 116, 2) := by decide +kernel
theorem dX11_readRow_147 : decode cX11_readRow 147 = .ok (.if_icmp .ne 42, 3) := by decide +kernel
theorem dX11_readRow_150 : decode cX11_readRow 150 = .ok (.aload_n 0, 1) := by decide +kernel
theorem dX11_readRow_151 : decode cX11_readRow 151 = .ok (.getfield 47, 3) := by decide +kernel
theorem dX11_readRow_154 : decode cX11_readRow 154 = .ok (.iconst 1, 1) := by decide +kernel
theorem dX11_readRow_155 : decode cX11_readRow 155 = .ok (.aload_n 0, 1) := by decide +kernel
theorem dX11_readRow_156 : decode cX11_readRow 156 = .ok (.iconst 0, 1) := by decide +kernel
theorem dX11_readRow_157 : decode cX11_readRow 157 = .ok (.bipush 23, 2) := by decide +kernel
theorem dX11_readRow_159 : decode cX11_readRow 159 = .ok (.invokevirtual 113, 3) := by decide +kernel
theorem dX11_readRow_162 : decode cX11_readRow 162 = .ok (.iastore, 1) := by decide +kernel
theorem dX11_readRow_163 : decode cX11_readRow 163 = .ok (.aload_n 0, 1) := by decide +kernel
theorem dX11_readRow_164 : decode cX11_readRow 164 = .ok (.getfield 50, 3) := by decide +kernel
theorem dX11_readRow_167 : decode cX11_readRow 167 = .ok (.iconst 1, 1) := by decide +kernel
theorem dX11_readRow_168 : decode cX11_readRow 168 = .ok (.aload_n 0, 1) := by decide +kernel
theorem dX11_readRow_169 : decode cX11_readRow 169 = .ok (.aload_n 0, 1) := by decide +kernel
theorem dX11_readRow_170 : decode cX11_readRow 170 = .ok (.getfield 47, 3) := by decide +kernel
theorem dX11_readRow_173 : decode cX11_readRow 173 = .ok (.iconst 1, 1) := by decide +kernel
theorem dX11_readRow_174 : decode cX11_readRow 174 = .ok (.iaload, 1) := by decide +kernel
theorem dX11_readRow_175 : decode cX11_readRow 175 = .ok (.bipush 23, 2) := by decide +kernel
theorem dX11_readRow_177 : decode cX11_readRow 177 = .ok (.invokevirtual 113, 3) := by decide +kernel
theorem dX11_readRow_180 : decode cX11_readRow 180 = .ok (.iastore, 1) := by decide +kernel
theorem dX11_readRow_181 : decode cX11_readRow 181 = .ok (.aload_n 0, 1) := by decide +kernel
theorem dX11_readRow_182 : decode cX11_readRow 182 = .ok (.iconst 1, 1) := by decide +kernel
theorem dX11_readRow_183 : decode cX11_readRow 183 = .ok (.putfield 106, 3) := by decide +kernel
theorem dX11_readRow_186 : decode cX11_readRow 186 = .ok (.goto 19, 3) := by decide +kernel
theorem dX11_readRow_189 : decode cX11_readRow 189 = .ok (.aload_n 0, 1) := by decide +kernel
theorem dX11_readRow_190 : decode cX11_readRow 190 = .ok (.aload_n 0, 1) := by decide +kernel
theorem dX11_readRow_191 : decode cX11_readRow 191 = .ok (.iconst 0, 1) := by decide +kernel
theorem dX11_readRow_192 : decode cX11_readRow 192 = .ok (.bipush 60, 2) := by decide +kernel
theorem dX11_readRow_194 : decode cX11_readRow 194 = .ok (.invokevirtual 113, 3) := by decide +kernel
theorem dX11_readRow_197 : decode cX11_readRow 197 = .ok (.putfield 120, 3) := by decide +kernel
theorem dX11_readRow_200 : decode cX11_readRow 200 = .ok (.aload_n 0, 1) := by decide +kernel
theorem dX11_readRow_201 : decode cX11_readRow 201 = .ok (.iconst 1, 1) := by decide +kernel
theorem dX11_readRow_202 : decode cX11_readRow 202 = .ok (.putfield 110, 3) := by decide +kernel
theorem dX11_readRow_205 : decode cX11_readRow 205 = .ok (.return_, 1) := by decide +kernel
theorem dX11_court_0 : decode cX11_court 0 = .ok (.aload_n 0, 1) := by decide +kernel
theorem dX11_court_1 : decode cX11_court 1 = .ok (.iconst 0, 1) := by decide +kernel
theorem dX11_court_2 : decode cX11_court 2 = .ok (.putfield 80, 3) := by decide +kernel
theorem dX11_court_5 : decode cX11_court 5 = .ok (.aload_n 0, 1) := by decide +kernel
theorem dX11_court_6 : decode cX11_court 6 = .ok (.bipush (-9), 2) := by decide +kernel
theorem dX11_court_8 : decode cX11_court 8 = .ok (.putfield 96, 3) := by decide +kernel
theorem dX11_court_11 : decode cX11_court 11 = .ok (.aload_n 0, 1) := by decide +kernel
theorem dX11_court_12 : decode cX11_court 12 = .ok (.iconst 0, 1) := by decide +kernel
theorem dX11_court_13 : decode cX11_court 13 = .ok (.putfield 106, 3) := by decide +kernel
theorem dX11_court_16 : decode cX11_court 16 = .ok (.aload_n 0, 1) := by decide +kernel
theorem dX11_court_17 : decode cX11_court 17 = .ok (.iconst 0, 1) := by decide +kernel
theorem dX11_court_18 : decode cX11_court 18 = .ok (.putfield 110, 3) := by decide +kernel
theorem dX11_court_21 : decode cX11_court 21 = .ok (.aload_n 0, 1) := by decide +kernel
theorem dX11_court_22 : decode cX11_court 22 = .ok (.bipush 10, 2) := by decide +kernel
theorem dX11_court_24 : decode cX11_court 24 = .ok (.putfield 120, 3) := by decide +kernel
theorem dX11_court_27 : decode cX11_court 27 = .ok (.aload_n 0, 1) := by decide +kernel
theorem dX11_court_28 : decode cX11_court 28 = .ok (.getfield 13, 3) := by decide +kernel
theorem dX11_court_31 : decode cX11_court 31 = .ok (.iconst 1, 1) := by decide +kernel
theorem dX11_court_32 : decode cX11_court 32 = .ok (.iconst 0, 1) := by decide +kernel
theorem dX11_court_33 : decode cX11_court 33 = .ok (.iastore, 1) := by decide +kernel
theorem dX11_court_34 : decode cX11_court 34 = .ok (.aload_n 0, 1) := by decide +kernel
theorem dX11_court_35 : decode cX11_court 35 = .ok (.getfield 20, 3) := by decide +kernel
theorem dX11_court_38 : decode cX11_court 38 = .ok (.iconst 1, 1) := by decide +kernel
theorem dX11_court_39 : decode cX11_court 39 = .ok (.iconst 0, 1) := by decide +kernel
theorem dX11_court_40 : decode cX11_court 40 = .ok (.iastore, 1) := by decide +kernel
theorem dX11_court_41 : decode cX11_court 41 = .ok (.aload_n 0, 1) := by decide +kernel
theorem dX11_court_42 : decode cX11_court 42 = .ok (.getfield 32, 3) := by decide +kernel
theorem dX11_court_45 : decode cX11_court 45 = .ok (.iconst 1, 1) := by decide +kernel
theorem dX11_court_46 : decode cX11_court 46 = .ok (.iconst 0, 1) := by decide +kernel
theorem dX11_court_47 : decode cX11_court 47 = .ok (.iastore, 1) := by decide +kernel
theorem dX11_court_48 : decode cX11_court 48 = .ok (.aload_n 0, 1) := by decide +kernel
theorem dX11_court_49 : decode cX11_court 49 = .ok (.getfield 47, 3) := by decide +kernel
theorem dX11_court_52 : decode cX11_court 52 = .ok (.iconst 1, 1) := by decide +kernel
theorem dX11_court_53 : decode cX11_court 53 = .ok (.bipush 8, 2) := by decide +kernel
theorem dX11_court_55 : decode cX11_court 55 = .ok (.iastore, 1) := by decide +kernel
theorem dX11_court_56 : decode cX11_court 56 = .ok (.aload_n 0, 1) := by decide +kernel
theorem dX11_court_57 : decode cX11_court 57 = .ok (.getfield 50, 3) := by decide +kernel
theorem dX11_court_60 : decode cX11_court 60 = .ok (.iconst 1, 1) := by decide +kernel
theorem dX11_court_61 : decode cX11_court 61 = .ok (.bipush 15, 2) := by decide +kernel
theorem dX11_court_63 : decode cX11_court 63 = .ok (.iastore, 1) := by decide +kernel
theorem dX11_court_64 : decode cX11_court 64 = .ok (.iconst 0, 1) := by decide +kernel
theorem dX11_court_65 : decode cX11_court 65 = .ok (.istore_n 1, 1) := by decide +kernel
theorem dX11_court_66 : decode cX11_court 66 = .ok (.aload_n 0, 1) := by decide +kernel
theorem dX11_court_67 : decode cX11_court 67 = .ok (.invokevirtual 99, 3) := by decide +kernel
theorem dX11_court_70 : decode cX11_court 70 = .ok (.aload_n 0, 1) := by decide +kernel
theorem dX11_court_71 : decode cX11_court 71 = .ok (.getfield 96, 3) := by decide +kernel
theorem dX11_court_74 : decode cX11_court 74 = .ok (.bipush (-9), 2) := by decide +kernel
theorem dX11_court_76 : decode cX11_court 76 = .ok (.if_icmp .ne 64, 3) := by decide +kernel
theorem dX11_court_79 : decode cX11_court 79 = .ok (.aload_n 0, 1) := by decide +kernel
theorem dX11_court_80 : decode cX11_court 80 = .ok (.getfield 93, 3) := by decide +kernel
theorem dX11_court_83 : decode cX11_court 83 = .ok (.iconst 3, 1) := by decide +kernel
theorem dX11_court_84 : decode cX11_court 84 = .ok (.if_icmp .eq 56, 3) := by decide +kernel
theorem dX11_court_87 : decode cX11_court 87 = .ok (.aload_n 0, 1) := by decide +kernel
theorem dX11_court_88 : decode cX11_court 88 = .ok (.getfield 93, 3) := by decide +kernel
theorem dX11_court_91 : decode cX11_court 91 = .ok (.istore_n 2, 1) := by decide +kernel
theorem dX11_court_92 : decode cX11_court 92 = .ok (.aload_n 0, 1) := by decide +kernel
theorem dX11_court_93 : decode cX11_court 93 = .ok (.aload_n 0, 1) := by decide +kernel
theorem dX11_court_94 : decode cX11_court 94 = .ok (.iload_n 2, 1) := by decide +kernel
theorem dX11_court_95 : decode cX11_court 95 = .ok (.invokevirtual 123, 3) := by decide +kernel
theorem dX11_court_98 : decode cX11_court 98 = .ok (.invokevirtual 102, 3) := by decide +kernel
theorem dX11_court_101 : decode cX11_court 101 = .ok (.pop, 1) := by decide +kernel
theorem dX11_court_102 : decode cX11_court 102 = .ok (.aload_n 0, 1) := by decide +kernel
theorem dX11_court_103 : decode cX11_court 103 = .ok (.getfield 96, 3) := by decide +kernel
theorem dX11_court_106 : decode cX11_court 106 = .ok (.bipush (-9), 2) := by decide +kernel
theorem dX11_court_108 : decode cX11_court 108 = .ok (.if_icmp .ne 29, 3) := by decide +kernel
theorem dX11_court_111 : decode cX11_court 111 = .ok (.aload_n 0, 1) := by decide +kernel
theorem dX11_court_112 : decode cX11_court 112 = .ok (.iload_n 2, 1) := by decide +kernel
theorem dX11_court_113 : decode cX11_court 113 = .ok (.invokevirtual 127, 3) := by decide +kernel
theorem dX11_court_116 : decode cX11_court 116 = .ok (.aload_n 0, 1) := by decide +kernel
theorem dX11_court_117 : decode cX11_court 117 = .ok (.aload_n 0, 1) := by decide +kernel
theorem dX11_court_118 : decode cX11_court 118 = .ok (.getfield 93, 3) := by decide +kernel
theorem dX11_court_121 : decode cX11_court 121 = .ok (.iconst 2, 1) := by decide +kernel
theorem dX11_court_122 : decode cX11_court 122 = .ok (.if_icmp .ne 7, 3) := by decide +kernel
theorem dX11_court_125 : decode cX11_court 125 = .ok (.iconst 1, 1) := by decide +kernel
theorem dX11_court_126 : decode cX11_court 126 = .ok (.goto 4, 3) := by decide +kernel
theorem dX11_court_129 : decode cX11_court 129 = .ok (.iconst 0, 1) := by decide +kernel
theorem dX11_court_130 : decode cX11_court 130 = .ok (.invokevirtual 102, 3) := by decide +kernel
theorem dX11_court_133 : decode cX11_court 133 = .ok (.pop, 1) := by decide +kernel
theorem dX11_court_134 : decode cX11_court 134 = .ok (.iinc 1 1, 3) := by decide +kernel
theorem dX11_court_137 : decode cX11_court 137 = .ok (.goto (-67), 3) := by decide +kernel
theorem dX11_court_140 : decode cX11_court 140 = .ok (.aload_n 0, 1) := by decide +kernel
theorem dX11_court_141 : decode cX11_court 141 = .ok (.getfield 96, 3) := by decide +kernel
theorem dX11_court_144 : decode cX11_court 144 = .ok (.bipush (-9), 2) := by decide +kernel
theorem dX11_court_146 : decode cX11_court 146 = .ok (.if_icmp .eq 11, 3) := by decide +kernel
theorem dX11_court_149 : decode cX11_court 149 = .ok (.bipush (-10), 2) := by decide +kernel
theorem dX11_court_151 : decode cX11_court 151 = .ok (.aload_n 0, 1) := by decide +kernel
theorem dX11_court_152 : decode cX11_court 152 = .ok (.getfield 96, 3) := by decide +kernel
theorem dX11_court_155 : decode cX11_court 155 = .ok (.isub, 1) := by decide +kernel
theorem dX11_court_156 : decode cX11_court 156 = .ok (.ireturn, 1) := by decide +kernel
theorem dX11_court_157 : decode cX11_court 157 = .ok (.aload_n 0, 1) := by decide +kernel
theorem dX11_court_158 : decode cX11_court 158 = .ok (.invokevirtual 131, 3) := by decide +kernel
theorem dX11_court_161 : decode cX11_court 161 = .ok (.aload_n 0, 1) := by decide +kernel
theorem dX11_court_162 : decode cX11_court 162 = .ok (.getfield 53, 3) := by decide +kernel
theorem dX11_court_165 : decode cX11_court 165 = .ok (.iconst 0, 1) := by decide +kernel
theorem dX11_court_166 : decode cX11_court 166 = .ok (.iconst 0, 1) := by decide +kernel
theorem dX11_court_167 : decode cX11_court 167 = .ok (.iastore, 1) := by decide +kernel
theorem dX11_court_168 : decode cX11_court 168 = .ok (.aload_n 0, 1) := by decide +kernel
theorem dX11_court_169 : decode cX11_court 169 = .ok (.getfield 53, 3) := by decide +kernel
theorem dX11_court_172 : decode cX11_court 172 = .ok (.iconst 1, 1) := by decide +kernel
theorem dX11_court_173 : decode cX11_court 173 = .ok (.iconst 0, 1) := by decide +kernel
theorem dX11_court_174 : decode cX11_court 174 = .ok (.iastore, 1) := by decide +kernel
theorem dX11_court_175 : decode cX11_court 175 = .ok (.aload_n 0, 1) := by decide +kernel
theorem dX11_court_176 : decode cX11_court 176 = .ok (.getfield 53, 3) := by decide +kernel
theorem dX11_court_179 : decode cX11_court 179 = .ok (.iconst 2, 1) := by decide +kernel
theorem dX11_court_180 : decode cX11_court 180 = .ok (.aload_n 0, 1) := by decide +kernel
theorem dX11_court_181 : decode cX11_court 181 = .ok (.getfield 120, 3) := by decide +kernel
theorem dX11_court_184 : decode cX11_court 184 = .ok (.iastore, 1) := by decide +kernel
theorem dX11_court_185 : decode cX11_court 185 = .ok (.aload_n 0, 1) := by decide +kernel
theorem dX11_court_186 : decode cX11_court 186 = .ok (.getfield 53, 3) := by decide +kernel
theorem dX11_court_189 : decode cX11_court 189 = .ok (.iconst 3, 1) := by decide +kernel
theorem dX11_court_190 : decode cX11_court 190 = .ok (.iconst 0, 1) := by decide +kernel
theorem dX11_court_191 : decode cX11_court 191 = .ok (.iastore, 1) := by decide +kernel
theorem dX11_court_192 : decode cX11_court 192 = .ok (.aload_n 0, 1) := by decide +kernel
theorem dX11_court_193 : decode cX11_court 193 = .ok (.iconst 0, 1) := by decide +kernel
theorem dX11_court_194 : decode cX11_court 194 = .ok (.putfield 134, 3) := by decide +kernel
theorem dX11_court_197 : decode cX11_court 197 = .ok (.aload_n 0, 1) := by decide +kernel
theorem dX11_court_198 : decode cX11_court 198 = .ok (.getfield 56, 3) := by decide +kernel
theorem dX11_court_201 : decode cX11_court 201 = .ok (.iconst 0, 1) := by decide +kernel
theorem dX11_court_202 : decode cX11_court 202 = .ok (.iconst 0, 1) := by decide +kernel
theorem dX11_court_203 : decode cX11_court 203 = .ok (.bastore, 1) := by decide +kernel
theorem dX11_court_204 : decode cX11_court 204 = .ok (.aload_n 0, 1) := by decide +kernel
theorem dX11_court_205 : decode cX11_court 205 = .ok (.getfield 56, 3) := by decide +kernel
theorem dX11_court_208 : decode cX11_court 208 = .ok (.iconst 1, 1) := by decide +kernel
theorem dX11_court_209 : decode cX11_court 209 = .ok (.iconst 0, 1) := by decide +kernel
theorem dX11_court_210 : decode cX11_court 210 = .ok (.bastore, 1) := by decide +kernel
theorem dX11_court_211 : decode cX11_court 211 = .ok (.aload_n 0, 1) := by decide +kernel
theorem dX11_court_212 : decode cX11_court 212 = .ok (.iconst 0, 1) := by decide +kernel
theorem dX11_court_213 : decode cX11_court 213 = .ok (.putfield 76, 3) := by decide +kernel
theorem dX11_court_216 : decode cX11_court 216 = .ok (.iload_n 1, 1) := by decide +kernel
theorem dX11_court_217 : decode cX11_court 217 = .ok (.ireturn, 1) := by decide +kernel
theorem dX11_take_0 : decode cX11_take 0 = .ok (.aload_n 0, 1) := by decide +kernel
theorem dX11_take_1 : decode cX11_take 1 = .ok (.getfield 13, 3) := by decide +kernel
theorem dX11_take_4 : decode cX11_take 4 = .ok (.iconst 0, 1) := by decide +kernel
theorem dX11_take_5 : decode cX11_take 5 = .ok (.aload_n 0, 1) := by decide +kernel
theorem dX11_take_6 : decode cX11_take 6 = .ok (.getfield 13, 3) := by decide +kernel
theorem dX11_take_9 : decode cX11_take 9 = .ok (.iconst 1, 1) := by decide +kernel
theorem dX11_take_10 : decode cX11_take 10 = .ok (.iaload, 1) := by decide +kernel
theorem dX11_take_11 : decode cX11_take 11 = .ok (.iastore, 1) := by decide +kernel
theorem dX11_take_12 : decode cX11_take 12 = .ok (.aload_n 0, 1) := by decide +kernel
theorem dX11_take_13 : decode cX11_take 13 = .ok (.getfield 20, 3) := by decide +kernel
theorem dX11_take_16 : decode cX11_take 16 = .ok (.iconst 0, 1) := by decide +kernel
theorem dX11_take_17 : decode cX11_take 17 = .ok (.aload_n 0, 1) := by decide +kernel
theorem dX11_take_18 : decode cX11_take 18 = .ok (.getfield 20, 3) := by decide +kernel
theorem dX11_take_21 : decode cX11_take 21 = .ok (.iconst 1, 1) := by decide +kernel
theorem dX11_take_22 : decode cX11_take 22 = .ok (.iaload, 1) := by decide +kernel
theorem dX11_take_23 : decode cX11_take 23 = .ok (.iastore, 1) := by decide +kernel
theorem dX11_take_24 : decode cX11_take 24 = .ok (.aload_n 0, 1) := by decide +kernel
theorem dX11_take_25 : decode cX11_take 25 = .ok (.getfield 32, 3) := by decide +kernel
theorem dX11_take_28 : decode cX11_take 28 = .ok (.iconst 0, 1) := by decide +kernel
theorem dX11_take_29 : decode cX11_take 29 = .ok (.aload_n 0, 1) := by decide +kernel
theorem dX11_take_30 : decode cX11_take 30 = .ok (.getfield 32, 3) := by decide +kernel
theorem dX11_take_33 : decode cX11_take 33 = .ok (.iconst 1, 1) := by decide +kernel
theorem dX11_take_34 : decode cX11_take 34 = .ok (.iaload, 1) := by decide +kernel
theorem dX11_take_35 : decode cX11_take 35 = .ok (.iastore, 1) := by decide +kernel
theorem dX11_take_36 : decode cX11_take 36 = .ok (.aload_n 0, 1) := by decide +kernel
theorem dX11_take_37 : decode cX11_take 37 = .ok (.getfield 47, 3) := by decide +kernel
theorem dX11_take_40 : decode cX11_take 40 = .ok (.iconst 0, 1) := by decide +kernel
theorem dX11_take_41 : decode cX11_take 41 = .ok (.aload_n 0, 1) := by decide +kernel
theorem dX11_take_42 : decode cX11_take 42 = .ok (.getfield 47, 3) := by decide +kernel
theorem dX11_take_45 : decode cX11_take 45 = .ok (.iconst 1, 1) := by decide +kernel
theorem dX11_take_46 : decode cX11_take 46 = .ok (.iaload, 1) := by decide +kernel
theorem dX11_take_47 : decode cX11_take 47 = .ok (.iastore, 1) := by decide +kernel
theorem dX11_take_48 : decode cX11_take 48 = .ok (.aload_n 0, 1) := by decide +kernel
theorem dX11_take_49 : decode cX11_take 49 = .ok (.getfield 50, 3) := by decide +kernel
theorem dX11_take_52 : decode cX11_take 52 = .ok (.iconst 0, 1) := by decide +kernel
theorem dX11_take_53 : decode cX11_take 53 = .ok (.aload_n 0, 1) := by decide +kernel
theorem dX11_take_54 : decode cX11_take 54 = .ok (.getfield 50, 3) := by decide +kernel
theorem dX11_take_57 : decode cX11_take 57 = .ok (.iconst 1, 1) := by decide +kernel
theorem dX11_take_58 : decode cX11_take 58 = .ok (.iaload, 1) := by decide +kernel
theorem dX11_take_59 : decode cX11_take 59 = .ok (.iastore, 1) := by decide +kernel
theorem dX11_take_60 : decode cX11_take 60 = .ok (.iconst 0, 1) := by decide +kernel
theorem dX11_take_61 : decode cX11_take 61 = .ok (.istore_n 1, 1) := by decide +kernel
theorem dX11_take_62 : decode cX11_take 62 = .ok (.iload_n 1, 1) := by decide +kernel
theorem dX11_take_63 : decode cX11_take 63 = .ok (.bipush 6, 2) := by decide +kernel
theorem dX11_take_65 : decode cX11_take 65 = .ok (.if_icmp .ge 24, 3) := by decide +kernel
theorem dX11_take_68 : decode cX11_take 68 = .ok (.aload_n 0, 1) := by decide +kernel
theorem dX11_take_69 : decode cX11_take 69 = .ok (.getfield 17, 3) := by decide +kernel
theorem dX11_take_72 : decode cX11_take 72 = .ok (.iload_n 1, 1) := by decide +kernel
theorem dX11_take_73 : decode cX11_take 73 = .ok (.aload_n 0, 1) := by decide +kernel
theorem dX11_take_74 : decode cX11_take 74 = .ok (.getfield 17, 3) := by decide +kernel
theorem dX11_take_77 : decode cX11_take 77 = .ok (.bipush 6, 2) := by decide +kernel
theorem dX11_take_79 : decode cX11_take 79 = .ok (.iload_n 1, 1) := by decide +kernel
theorem dX11_take_80 : decode cX11_take 80 = .ok (.iadd, 1) := by decide +kernel
theorem dX11_take_81 : decode cX11_take 81 = .ok (.iaload, 1) := by decide +kernel
theorem dX11_take_82 : decode cX11_take 82 = .ok (.iastore, 1) := by decide +kernel
theorem dX11_take_83 : decode cX11_take 83 = .ok (.iinc 1 1, 3) := by decide +kernel
theorem dX11_take_86 : decode cX11_take 86 = .ok (.goto (-24), 3) := by decide +kernel
theorem dX11_take_89 : decode cX11_take 89 = .ok (.iconst 0, 1) := by decide +kernel
theorem dX11_take_90 : decode cX11_take 90 = .ok (.istore_n 1, 1) := by decide +kernel
theorem dX11_take_91 : decode cX11_take 91 = .ok (.iload_n 1, 1) := by decide +kernel
theorem dX11_take_92 : decode cX11_take 92 = .ok (.bipush 8, 2) := by decide +kernel
theorem dX11_take_94 : decode cX11_take 94 = .ok (.if_icmp .ge 78, 3) := by decide +kernel
theorem dX11_take_97 : decode cX11_take 97 = .ok (.aload_n 0, 1) := by decide +kernel
theorem dX11_take_98 : decode cX11_take 98 = .ok (.getfield 23, 3) := by decide +kernel
theorem dX11_take_101 : decode cX11_take 101 = .ok (.iload_n 1, 1) := by decide +kernel
theorem dX11_take_102 : decode cX11_take 102 = .ok (.aload_n 0, 1) := by decide +kernel
theorem dX11_take_103 : decode cX11_take 103 = .ok (.getfield 23, 3) := by decide +kernel
theorem dX11_take_106 : decode cX11_take 106 = .ok (.bipush 8, 2) := by decide +kernel
theorem dX11_take_108 : decode cX11_take 108 = .ok (.iload_n 1, 1) := by decide +kernel
theorem dX11_take_109 : decode cX11_take 109 = .ok (.iadd, 1) := by decide +kernel
theorem dX11_take_110 : decode cX11_take 110 = .ok (.iaload, 1) := by decide +kernel
theorem dX11_take_111 : decode cX11_take 111 = .ok (.iastore, 1) := by decide +kernel
theorem dX11_take_112 : decode cX11_take 112 = .ok (.aload_n 0, 1) := by decide +kernel
theorem dX11_take_113 : decode cX11_take 113 = .ok (.getfield 26, 3) := by decide +kernel
theorem dX11_take_116 : decode cX11_take 116 = .ok (.iload_n 1, 1) := by decide +kernel
theorem dX11_take_117 : decode cX11_take 117 = .ok (.aload_n 0, 1) := by decide +kernel
theorem dX11_take_118 : decode cX11_take 118 = .ok (.getfield 26, 3) := by decide +kernel
theorem dX11_take_121 : decode cX11_take 121 = .ok (.bipush 8, 2) := by decide +kernel
theorem dX11_take_123 : decode cX11_take 123 = .ok (.iload_n 1, 1) := by decide +kernel
theorem dX11_take_124 : decode cX11_take 124 = .ok (.iadd, 1) := by decide +kernel
theorem dX11_take_125 : decode cX11_take 125 = .ok (.iaload, 1) := by decide +kernel
theorem dX11_take_126 : decode cX11_take 126 = .ok (.iastore, 1) := by decide +kernel
theorem dX11_take_127 : decode cX11_take 127 = .ok (.iconst 0, 1) := by decide +kernel
theorem dX11_take_128 : decode cX11_take 128 = .ok (.istore_n 2, 1) := by decide +kernel
theorem dX11_take_129 : decode cX11_take 129 = .ok (.iload_n 2, 1) := by decide +kernel
theorem dX11_take_130 : decode cX11_take 130 = .ok (.bipush 6, 2) := by decide +kernel
theorem dX11_take_132 : decode cX11_take 132 = .ok (.if_icmp .ge 34, 3) := by decide +kernel
theorem dX11_take_135 : decode cX11_take 135 = .ok (.aload_n 0, 1) := by decide +kernel
theorem dX11_take_136 : decode cX11_take 136 = .ok (.getfield 29, 3) := by decide +kernel
theorem dX11_take_139 : decode cX11_take 139 = .ok (.bipush 6, 2) := by decide +kernel
theorem dX11_take_141 : decode cX11_take 141 = .ok (.iload_n 1, 1) := by decide +kernel
theorem dX11_take_142 : decode cX11_take 142 = .ok (.imul, 1) := by decide +kernel
theorem dX11_take_143 : decode cX11_take 143 = .ok (.iload_n 2, 1) := by decide +kernel
theorem dX11_take_144 : decode cX11_take 144 = .ok (.iadd, 1) := by decide +kernel
theorem dX11_take_145 : decode cX11_take 145 = .ok (.aload_n 0, 1) := by decide +kernel
theorem dX11_take_146 : decode cX11_take 146 = .ok (.getfield 29, 3) := by decide +kernel
theorem dX11_take_149 : decode cX11_take 149 = .ok (.bipush 6, 2) := by decide +kernel
theorem dX11_take_151 : decode cX11_take 151 = .ok (.bipush 8, 2) := by decide +kernel
theorem dX11_take_153 : decode cX11_take 153 = .ok (.iload_n 1, 1) := by decide +kernel
theorem dX11_take_154 : decode cX11_take 154 = .ok (.iadd, 1) := by decide +kernel
theorem dX11_take_155 : decode cX11_take 155 = .ok (.imul, 1) := by decide +kernel
theorem dX11_take_156 : decode cX11_take 156 = .ok (.iload_n 2, 1) := by decide +kernel
theorem dX11_take_157 : decode cX11_take 157 = .ok (.iadd, 1) := by decide +kernel
theorem dX11_take_158 : decode cX11_take 158 = .ok (.iaload, 1) := by decide +kernel
theorem dX11_take_159 : decode cX11_take 159 = .ok (.iastore, 1) := by decide +kernel
theorem dX11_take_160 : decode cX11_take 160 = .ok (.iinc 2 1, 3) := by decide +kernel
theorem dX11_take_163 : decode cX11_take 163 = .ok (.goto (-34), 3) := by decide +kernel
theorem dX11_take_166 : decode cX11_take 166 = .ok (.iinc 1 1, 3) := by decide +kernel
theorem dX11_take_169 : decode cX11_take 169 = .ok (.goto (-78), 3) := by decide +kernel
theorem dX11_take_172 : decode cX11_take 172 = .ok (.iconst 0, 1) := by decide +kernel
theorem dX11_take_173 : decode cX11_take 173 = .ok (.istore_n 1, 1) := by decide +kernel
theorem dX11_take_174 : decode cX11_take 174 = .ok (.iload_n 1, 1) := by decide +kernel
theorem dX11_take_175 : decode cX11_take 175 = .ok (.bipush 8, 2) := by decide +kernel
theorem dX11_take_177 : decode cX11_take 177 = .ok (.if_icmp .ge 69, 3) := by decide +kernel
theorem dX11_take_180 : decode cX11_take 180 = .ok (.aload_n 0, 1) := by decide +kernel
theorem dX11_take_181 : decode cX11_take 181 = .ok (.getfield 35, 3) := by decide +kernel
theorem dX11_take_184 : decode cX11_take 184 = .ok (.iload_n 1, 1) := by decide +kernel
theorem dX11_take_185 : decode cX11_take 185 = .ok (.aload_n 0, 1) := by decide +kernel
theorem dX11_take_186 : decode cX11_take 186 = .ok (.getfield 35, 3) := by decide +kernel
theorem dX11_take_189 : decode cX11_take 189 = .ok (.bipush 8, 2) := by decide +kernel
theorem dX11_take_191 : decode cX11_take 191 = .ok (.iload_n 1, 1) := by decide +kernel
theorem dX11_take_192 : decode cX11_take 192 = .ok (.iadd, 1) := by decide +kernel
theorem dX11_take_193 : decode cX11_take 193 = .ok (.iaload, 1) := by decide +kernel
theorem dX11_take_194 : decode cX11_take 194 = .ok (.iastore, 1) := by decide +kernel
theorem dX11_take_195 : decode cX11_take 195 = .ok (.aload_n 0, 1) := by decide +kernel
theorem dX11_take_196 : decode cX11_take 196 = .ok (.getfield 38, 3) := by decide +kernel
theorem dX11_take_199 : decode cX11_take 199 = .ok (.iload_n 1, 1) := by decide +kernel
theorem dX11_take_200 : decode cX11_take 200 = .ok (.aload_n 0, 1) := by decide +kernel
theorem dX11_take_201 : decode cX11_take 201 = .ok (.getfield 38, 3) := by decide +kernel
theorem dX11_take_204 : decode cX11_take 204 = .ok (.bipush 8, 2) := by decide +kernel
theorem dX11_take_206 : decode cX11_take 206 = .ok (.iload_n 1, 1) := by decide +kernel
theorem dX11_take_207 : decode cX11_take 207 = .ok (.iadd, 1) := by decide +kernel
theorem dX11_take_208 : decode cX11_take 208 = .ok (.iaload, 1) := by decide +kernel
theorem dX11_take_209 : decode cX11_take 209 = .ok (.iastore, 1) := by decide +kernel
theorem dX11_take_210 : decode cX11_take 210 = .ok (.aload_n 0, 1) := by decide +kernel
theorem dX11_take_211 : decode cX11_take 211 = .ok (.getfield 41, 3) := by decide +kernel
theorem dX11_take_214 : decode cX11_take 214 = .ok (.iload_n 1, 1) := by decide +kernel
theorem dX11_take_215 : decode cX11_take 215 = .ok (.aload_n 0, 1) := by decide +kernel
theorem dX11_take_216 : decode cX11_take 216 = .ok (.getfield 41, 3) := by decide +kernel
theorem dX11_take_219 : decode cX11_take 219 = .ok (.bipush 8, 2) := by decide +kernel
theorem dX11_take_221 : decode cX11_take 221 = .ok (.iload_n 1, 1) := by decide +kernel
theorem dX11_take_222 : decode cX11_take 222 = .ok (.iadd, 1) := by decide +kernel
theorem dX11_take_223 : decode cX11_take 223 = .ok (.iaload, 1) := by decide +kernel
theorem dX11_take_224 : decode cX11_take 224 = .ok (.iastore, 1) := by decide +kernel
theorem dX11_take_225 : decode cX11_take 225 = .ok (.aload_n 0, 1) := by decide +kernel
theorem dX11_take_226 : decode cX11_take 226 = .ok (.getfield 44, 3) := by decide +kernel
theorem dX11_take_229 : decode cX11_take 229 = .ok (.iload_n 1, 1) := by decide +kernel
theorem dX11_take_230 : decode cX11_take 230 = .ok (.aload_n 0, 1) := by decide +kernel
theorem dX11_take_231 : decode cX11_take 231 = .ok (.getfield 44, 3) := by decide +kernel
theorem dX11_take_234 : decode cX11_take 234 = .ok (.bipush 8, 2) := by decide +kernel
theorem dX11_take_236 : decode cX11_take 236 = .ok (.iload_n 1, 1) := by decide +kernel
theorem dX11_take_237 : decode cX11_take 237 = .ok (.iadd, 1) := by decide +kernel
theorem dX11_take_238 : decode cX11_take 238 = .ok (.iaload, 1) := by decide +kernel
theorem dX11_take_239 : decode cX11_take 239 = .ok (.iastore, 1) := by decide +kernel
theorem dX11_take_240 : decode cX11_take 240 = .ok (.iinc 1 1, 3) := by decide +kernel
theorem dX11_take_243 : decode cX11_take 243 = .ok (.goto (-69), 3) := by decide +kernel
theorem dX11_take_246 : decode cX11_take 246 = .ok (.return_, 1) := by decide +kernel
theorem dX11_isSuspect_0 : decode cX11_isSuspect 0 = .ok (.iload_n 1, 1) := by decide +kernel
theorem dX11_isSuspect_1 : decode cX11_isSuspect 1 = .ok (.iconst 0, 1) := by decide +kernel
theorem dX11_isSuspect_2 : decode cX11_isSuspect 2 = .ok (.aload_n 0, 1) := by decide +kernel
theorem dX11_isSuspect_3 : decode cX11_isSuspect 3 = .ok (.getfield 13, 3) := by decide +kernel
theorem dX11_isSuspect_6 : decode cX11_isSuspect 6 = .ok (.iconst 0, 1) := by decide +kernel
theorem dX11_isSuspect_7 : decode cX11_isSuspect 7 = .ok (.iaload, 1) := by decide +kernel
theorem dX11_isSuspect_8 : decode cX11_isSuspect 8 = .ok (.iconst 1, 1) := by decide +kernel
theorem dX11_isSuspect_9 : decode cX11_isSuspect 9 = .ok (.isub, 1) := by decide +kernel
theorem dX11_isSuspect_10 : decode cX11_isSuspect 10 = .ok (.invokestatic 72, 3) := by decide +kernel
theorem dX11_isSuspect_13 : decode cX11_isSuspect 13 = .ok (.ireturn, 1) := by decide +kernel
theorem dX11_isFact_0 : decode cX11_isFact 0 = .ok (.iload_n 1, 1) := by decide +kernel
theorem dX11_isFact_1 : decode cX11_isFact 1 = .ok (.iconst 0, 1) := by decide +kernel
theorem dX11_isFact_2 : decode cX11_isFact 2 = .ok (.aload_n 0, 1) := by decide +kernel
theorem dX11_isFact_3 : decode cX11_isFact 3 = .ok (.getfield 20, 3) := by decide +kernel
theorem dX11_isFact_6 : decode cX11_isFact 6 = .ok (.iconst 0, 1) := by decide +kernel
theorem dX11_isFact_7 : decode cX11_isFact 7 = .ok (.iaload, 1) := by decide +kernel
theorem dX11_isFact_8 : decode cX11_isFact 8 = .ok (.iconst 1, 1) := by decide +kernel
theorem dX11_isFact_9 : decode cX11_isFact 9 = .ok (.isub, 1) := by decide +kernel
theorem dX11_isFact_10 : decode cX11_isFact 10 = .ok (.invokestatic 72, 3) := by decide +kernel
theorem dX11_isFact_13 : decode cX11_isFact 13 = .ok (.ireturn, 1) := by decide +kernel
theorem dX11_isAlibi_0 : decode cX11_isAlibi 0 = .ok (.iload_n 1, 1) := by decide +kernel
theorem dX11_isAlibi_1 : decode cX11_isAlibi 1 = .ok (.iconst 0, 1) := by decide +kernel
theorem dX11_isAlibi_2 : decode cX11_isAlibi 2 = .ok (.aload_n 0, 1) := by decide +kernel
theorem dX11_isAlibi_3 : decode cX11_isAlibi 3 = .ok (.getfield 32, 3) := by decide +kernel
theorem dX11_isAlibi_6 : decode cX11_isAlibi 6 = .ok (.iconst 0, 1) := by decide +kernel
theorem dX11_isAlibi_7 : decode cX11_isAlibi 7 = .ok (.iaload, 1) := by decide +kernel
theorem dX11_isAlibi_8 : decode cX11_isAlibi 8 = .ok (.iconst 1, 1) := by decide +kernel
theorem dX11_isAlibi_9 : decode cX11_isAlibi 9 = .ok (.isub, 1) := by decide +kernel
theorem dX11_isAlibi_10 : decode cX11_isAlibi 10 = .ok (.invokestatic 72, 3) := by decide +kernel
theorem dX11_isAlibi_13 : decode cX11_isAlibi 13 = .ok (.ireturn, 1) := by decide +kernel
theorem dX11_hoursOf_0 : decode cX11_hoursOf 0 = .ok (.iconst 0, 1) := by decide +kernel
theorem dX11_hoursOf_1 : decode cX11_hoursOf 1 = .ok (.istore_n 2, 1) := by decide +kernel
theorem dX11_hoursOf_2 : decode cX11_hoursOf 2 = .ok (.aload_n 0, 1) := by decide +kernel
theorem dX11_hoursOf_3 : decode cX11_hoursOf 3 = .ok (.getfield 47, 3) := by decide +kernel
theorem dX11_hoursOf_6 : decode cX11_hoursOf 6 = .ok (.iconst 0, 1) := by decide +kernel
theorem dX11_hoursOf_7 : decode cX11_hoursOf 7 = .ok (.iaload, 1) := by decide +kernel
theorem dX11_hoursOf_8 : decode cX11_hoursOf 8 = .ok (.istore_n 3, 1) := by decide +kernel
theorem dX11_hoursOf_9 : decode cX11_hoursOf 9 = .ok (.iload_n 3, 1) := by decide +kernel
theorem dX11_hoursOf_10 : decode cX11_hoursOf 10 = .ok (.aload_n 0, 1) := by decide +kernel
theorem dX11_hoursOf_11 : decode cX11_hoursOf 11 = .ok (.getfield 50, 3) := by decide +kernel
theorem dX11_hoursOf_14 : decode cX11_hoursOf 14 = .ok (.iconst 0, 1) := by decide +kernel
theorem dX11_hoursOf_15 : decode cX11_hoursOf 15 = .ok (.iaload, 1) := by decide +kernel
theorem dX11_hoursOf_16 : decode cX11_hoursOf 16 = .ok (.if_icmp .gt 104, 3) := by decide +kernel
theorem dX11_hoursOf_19 : decode cX11_hoursOf 19 = .ok (.iconst 0, 1) := by decide +kernel
theorem dX11_hoursOf_20 : decode cX11_hoursOf 20 = .ok (.istore 4, 2) := by decide +kernel
theorem dX11_hoursOf_22 : decode cX11_hoursOf 22 = .ok (.iconst 0, 1) := by decide +kernel
theorem dX11_hoursOf_23 : decode cX11_hoursOf 23 = .ok (.istore 5, 2) := by decide +kernel
theorem dX11_hoursOf_25 : decode cX11_hoursOf 25 = .ok (.iload 5, 2) := by decide +kernel
theorem dX11_hoursOf_27 : decode cX11_hoursOf 27 = .ok (.aload_n 0, 1) := by decide +kernel
theorem dX11_hoursOf_28 : decode cX11_hoursOf 28 = .ok (.getfield 32, 3) := by decide +kernel
theorem dX11_hoursOf_31 : decode cX11_hoursOf 31 = .ok (.iconst 0, 1) := by decide +kernel
theorem dX11_hoursOf_32 : decode cX11_hoursOf 32 = .ok (.iaload, 1) := by decide +kernel
theorem dX11_hoursOf_33 : decode cX11_hoursOf 33 = .ok (.if_icmp .ge 68, 3) := by decide +kernel
theorem dX11_hoursOf_36 : decode cX11_hoursOf 36 = .ok (.iload 4, 2) := by decide +kernel
theorem dX11_hoursOf_38 : decode cX11_hoursOf 38 = .ok (.ifCond .ne 50, 3) := by decide +kernel
theorem dX11_hoursOf_41 : decode cX11_hoursOf 41 = .ok (.aload_n 0, 1) := by decide +kernel
theorem dX11_hoursOf_42 : decode cX11_hoursOf 42 = .ok (.getfield 53, 3) := by decide +kernel
theorem dX11_hoursOf_45 : decode cX11_hoursOf 45 = .ok (.iconst 1, 1) := by decide +kernel
theorem dX11_hoursOf_46 : decode cX11_hoursOf 46 = .ok (.iaload, 1) := by decide +kernel
theorem dX11_hoursOf_47 : decode cX11_hoursOf 47 = .ok (.iload 5, 2) := by decide +kernel
theorem dX11_hoursOf_49 : decode cX11_hoursOf 49 = .ok (.ishr, 1) := by decide +kernel
theorem dX11_hoursOf_50 : decode cX11_hoursOf 50 = .ok (.iconst 1, 1) := by decide +kernel
theorem dX11_hoursOf_51 : decode cX11_hoursOf 51 = .ok (.iand, 1) := by decide +kernel
theorem dX11_hoursOf_52 : decode cX11_hoursOf 52 = .ok (.iconst 1, 1) := by decide +kernel
theorem dX11_hoursOf_53 : decode cX11_hoursOf 53 = .ok (.if_icmp .ne 39, 3) := by decide +kernel
theorem dX11_hoursOf_56 : decode cX11_hoursOf 56 = .ok (.aload_n 0, 1) := by decide +kernel
theorem dX11_hoursOf_57 : decode cX11_hoursOf 57 = .ok (.getfield 35, 3) := by decide +kernel
theorem dX11_hoursOf_60 : decode cX11_hoursOf 60 = .ok (.iload 5, 2) := by decide +kernel
theorem dX11_hoursOf_62 : decode cX11_hoursOf 62 = .ok (.iaload, 1) := by decide +kernel
theorem dX11_hoursOf_63 : decode cX11_hoursOf 63 = .ok (.iload_n 1, 1) := by decide +kernel
theorem dX11_hoursOf_64 : decode cX11_hoursOf 64 = .ok (.if_icmp .ne 28, 3) := by decide +kernel
theorem dX11_hoursOf_67 : decode cX11_hoursOf 67 = .ok (.iload_n 3, 1) := by decide +kernel
theorem dX11_hoursOf_68 : decode cX11_hoursOf 68 = .ok (.aload_n 0, 1) := by decide +kernel
theorem dX11_hoursOf_69 : decode cX11_hoursOf 69 = .ok (.getfield 41, 3) := by decide +kernel
theorem dX11_hoursOf_72 : decode cX11_hoursOf 72 = .ok (.iload 5, 2) := by decide +kernel
theorem dX11_hoursOf_74 : decode cX11_hoursOf 74 = .ok (.iaload, 1) := by decide +kernel
theorem dX11_hoursOf_75 : decode cX11_hoursOf 75 = .ok (.aload_n 0, 1) := by decide +kernel
theorem dX11_hoursOf_76 : decode cX11_hoursOf 76 = .ok (.getfield 44, 3) := by decide +kernel
theorem dX11_hoursOf_79 : decode cX11_hoursOf 79 = .ok (.iload 5, 2) := by decide +kernel
theorem dX11_hoursOf_81 : decode cX11_hoursOf 81 = .ok (.iaload, 1) := by decide +kernel
theorem dX11_hoursOf_82 : decode cX11_hoursOf 82 = .ok (.invokestatic 72, 3) := by decide +kernel
theorem dX11_hoursOf_85 : decode cX11_hoursOf 85 = .ok (.ifCond .eq 7, 3) := by decide +kernel
theorem dX11_hoursOf_88 : decode cX11_hoursOf 88 = .ok (.iconst 1, 1) := by decide +kernel
theorem dX11_hoursOf_89 : decode cX11_hoursOf 89 = .ok (.goto 4, 3) := by decide +kernel
theorem dX11_hoursOf_92 : decode cX11_hoursOf 92 = .ok (.iconst 0, 1) := by decide +kernel
theorem dX11_hoursOf_93 : decode cX11_hoursOf 93 = .ok (.istore 4, 2) := by decide +kernel
theorem dX11_hoursOf_95 : decode cX11_hoursOf 95 = .ok (.iinc 5 1, 3) := by decide +kernel
theorem dX11_hoursOf_98 : decode cX11_hoursOf 98 = .ok (.goto (-73), 3) := by decide +kernel
theorem dX11_hoursOf_101 : decode cX11_hoursOf 101 = .ok (.iload_n 2, 1) := by decide +kernel
theorem dX11_hoursOf_102 : decode cX11_hoursOf 102 = .ok (.iload 4, 2) := by decide +kernel
theorem dX11_hoursOf_104 : decode cX11_hoursOf 104 = .ok (.ifCond .eq 7, 3) := by decide +kernel
theorem dX11_hoursOf_107 : decode cX11_hoursOf 107 = .ok (.iconst 1, 1) := by decide +kernel
theorem dX11_hoursOf_108 : decode cX11_hoursOf 108 = .ok (.goto 4, 3) := by decide +kernel
theorem dX11_hoursOf_111 : decode cX11_hoursOf 111 = .ok (.iconst 0, 1) := by decide +kernel
theorem dX11_hoursOf_112 : decode cX11_hoursOf 112 = .ok (.iadd, 1) := by decide +kernel
theorem dX11_hoursOf_113 : decode cX11_hoursOf 113 = .ok (.istore_n 2, 1) := by decide +kernel
theorem dX11_hoursOf_114 : decode cX11_hoursOf 114 = .ok (.iinc 3 1, 3) := by decide +kernel
theorem dX11_hoursOf_117 : decode cX11_hoursOf 117 = .ok (.goto (-108), 3) := by decide +kernel
theorem dX11_hoursOf_120 : decode cX11_hoursOf 120 = .ok (.iload_n 2, 1) := by decide +kernel
theorem dX11_hoursOf_121 : decode cX11_hoursOf 121 = .ok (.ireturn, 1) := by decide +kernel
theorem dX11_heldBy_0 : decode cX11_heldBy 0 = .ok (.aload_n 0, 1) := by decide +kernel
theorem dX11_heldBy_1 : decode cX11_heldBy 1 = .ok (.getfield 17, 3) := by decide +kernel
theorem dX11_heldBy_4 : decode cX11_heldBy 4 = .ok (.iload_n 1, 1) := by decide +kernel
theorem dX11_heldBy_5 : decode cX11_heldBy 5 = .ok (.iaload, 1) := by decide +kernel
theorem dX11_heldBy_6 : decode cX11_heldBy 6 = .ok (.istore_n 3, 1) := by decide +kernel
theorem dX11_heldBy_7 : decode cX11_heldBy 7 = .ok (.iconst 0, 1) := by decide +kernel
theorem dX11_heldBy_8 : decode cX11_heldBy 8 = .ok (.istore 4, 2) := by decide +kernel
theorem dX11_heldBy_10 : decode cX11_heldBy 10 = .ok (.iload 4, 2) := by decide +kernel
theorem dX11_heldBy_12 : decode cX11_heldBy 12 = .ok (.aload_n 0, 1) := by decide +kernel
theorem dX11_heldBy_13 : decode cX11_heldBy 13 = .ok (.getfield 20, 3) := by decide +kernel
theorem dX11_heldBy_16 : decode cX11_heldBy 16 = .ok (.iconst 0, 1) := by decide +kernel
theorem dX11_heldBy_17 : decode cX11_heldBy 17 = .ok (.iaload, 1) := by decide +kernel
theorem dX11_heldBy_18 : decode cX11_heldBy 18 = .ok (.if_icmp .ge 49, 3) := by decide +kernel
theorem dX11_heldBy_21 : decode cX11_heldBy 21 = .ok (.iload_n 3, 1) := by decide +kernel
theorem dX11_heldBy_22 : decode cX11_heldBy 22 = .ok (.iload_n 2, 1) := by decide +kernel
theorem dX11_heldBy_23 : decode cX11_heldBy 23 = .ok (.iload 4, 2) := by decide +kernel
theorem dX11_heldBy_25 : decode cX11_heldBy 25 = .ok (.ishr, 1) := by decide +kernel
theorem dX11_heldBy_26 : decode cX11_heldBy 26 = .ok (.iconst 1, 1) := by decide +kernel
theorem dX11_heldBy_27 : decode cX11_heldBy 27 = .ok (.iand, 1) := by decide +kernel
theorem dX11_heldBy_28 : decode cX11_heldBy 28 = .ok (.iconst 1, 1) := by decide +kernel
theorem dX11_heldBy_29 : decode cX11_heldBy 29 = .ok (.if_icmp .ne 29, 3) := by decide +kernel
theorem dX11_heldBy_32 : decode cX11_heldBy 32 = .ok (.aload_n 0, 1) := by decide +kernel
theorem dX11_heldBy_33 : decode cX11_heldBy 33 = .ok (.getfield 29, 3) := by decide +kernel
theorem dX11_heldBy_36 : decode cX11_heldBy 36 = .ok (.bipush 6, 2) := by decide +kernel
theorem dX11_heldBy_38 : decode cX11_heldBy 38 = .ok (.iload 4, 2) := by decide +kernel
theorem dX11_heldBy_40 : decode cX11_heldBy 40 = .ok (.imul, 1) := by decide +kernel
theorem dX11_heldBy_41 : decode cX11_heldBy 41 = .ok (.iload_n 1, 1) := by decide +kernel
theorem dX11_heldBy_42 : decode cX11_heldBy 42 = .ok (.iadd, 1) := by decide +kernel
theorem dX11_heldBy_43 : decode cX11_heldBy 43 = .ok (.iaload, 1) := by decide +kernel
theorem dX11_heldBy_44 : decode cX11_heldBy 44 = .ok (.aload_n 0, 1) := by decide +kernel
theorem dX11_heldBy_45 : decode cX11_heldBy 45 = .ok (.getfield 26, 3) := by decide +kernel
theorem dX11_heldBy_48 : decode cX11_heldBy 48 = .ok (.iload 4, 2) := by decide +kernel
theorem dX11_heldBy_50 : decode cX11_heldBy 50 = .ok (.iaload, 1) := by decide +kernel
theorem dX11_heldBy_51 : decode cX11_heldBy 51 = .ok (.imul, 1) := by decide +kernel
theorem dX11_heldBy_52 : decode cX11_heldBy 52 = .ok (.bipush 10, 2) := by decide +kernel
theorem dX11_heldBy_54 : decode cX11_heldBy 54 = .ok (.idiv, 1) := by decide +kernel
theorem dX11_heldBy_55 : decode cX11_heldBy 55 = .ok (.goto 4, 3) := by decide +kernel
theorem dX11_heldBy_58 : decode cX11_heldBy 58 = .ok (.iconst 0, 1) := by decide +kernel
theorem dX11_heldBy_59 : decode cX11_heldBy 59 = .ok (.iadd, 1) := by decide +kernel
theorem dX11_heldBy_60 : decode cX11_heldBy 60 = .ok (.istore_n 3, 1) := by decide +kernel
theorem dX11_heldBy_61 : decode cX11_heldBy 61 = .ok (.iinc 4 1, 3) := by decide +kernel
theorem dX11_heldBy_64 : decode cX11_heldBy 64 = .ok (.goto (-54), 3) := by decide +kernel
theorem dX11_heldBy_67 : decode cX11_heldBy 67 = .ok (.iload_n 3, 1) := by decide +kernel
theorem dX11_heldBy_68 : decode cX11_heldBy 68 = .ok (.ifCond .ge 7, 3) := by decide +kernel
theorem dX11_heldBy_71 : decode cX11_heldBy 71 = .ok (.iconst 0, 1) := by decide +kernel
theorem dX11_heldBy_72 : decode cX11_heldBy 72 = .ok (.goto 4, 3) := by decide +kernel
theorem dX11_heldBy_75 : decode cX11_heldBy 75 = .ok (.iload_n 3, 1) := by decide +kernel
theorem dX11_heldBy_76 : decode cX11_heldBy 76 = .ok (.istore_n 3, 1) := by decide +kernel
theorem dX11_heldBy_77 : decode cX11_heldBy 77 = .ok (.iload_n 3, 1) := by decide +kernel
theorem dX11_heldBy_78 : decode cX11_heldBy 78 = .ok (.aload_n 0, 1) := by decide +kernel
theorem dX11_heldBy_79 : decode cX11_heldBy 79 = .ok (.iload_n 1, 1) := by decide +kernel
theorem dX11_heldBy_80 : decode cX11_heldBy 80 = .ok (.invokevirtual 137, 3) := by decide +kernel
theorem dX11_heldBy_83 : decode cX11_heldBy 83 = .ok (.isub, 1) := by decide +kernel
theorem dX11_heldBy_84 : decode cX11_heldBy 84 = .ok (.istore_n 3, 1) := by decide +kernel
theorem dX11_heldBy_85 : decode cX11_heldBy 85 = .ok (.iload_n 3, 1) := by decide +kernel
theorem dX11_heldBy_86 : decode cX11_heldBy 86 = .ok (.ifCond .ge 7, 3) := by decide +kernel
theorem dX11_heldBy_89 : decode cX11_heldBy 89 = .ok (.iconst 0, 1) := by decide +kernel
theorem dX11_heldBy_90 : decode cX11_heldBy 90 = .ok (.goto 4, 3) := by decide +kernel
theorem dX11_heldBy_93 : decode cX11_heldBy 93 = .ok (.iload_n 3, 1) := by decide +kernel
theorem dX11_heldBy_94 : decode cX11_heldBy 94 = .ok (.ireturn, 1) := by decide +kernel
theorem dX11_hold_0 : decode cX11_hold 0 = .ok (.aload_n 0, 1) := by decide +kernel
theorem dX11_hold_1 : decode cX11_hold 1 = .ok (.iconst 0, 1) := by decide +kernel
theorem dX11_hold_2 : decode cX11_hold 2 = .ok (.putfield 141, 3) := by decide +kernel
theorem dX11_hold_5 : decode cX11_hold 5 = .ok (.iconst 0, 1) := by decide +kernel
theorem dX11_hold_6 : decode cX11_hold 6 = .ok (.istore_n 2, 1) := by decide +kernel
theorem dX11_hold_7 : decode cX11_hold 7 = .ok (.iload_n 2, 1) := by decide +kernel
theorem dX11_hold_8 : decode cX11_hold 8 = .ok (.aload_n 0, 1) := by decide +kernel
theorem dX11_hold_9 : decode cX11_hold 9 = .ok (.getfield 13, 3) := by decide +kernel
theorem dX11_hold_12 : decode cX11_hold 12 = .ok (.iconst 0, 1) := by decide +kernel
theorem dX11_hold_13 : decode cX11_hold 13 = .ok (.iaload, 1) := by decide +kernel
theorem dX11_hold_14 : decode cX11_hold 14 = .ok (.if_icmp .ge 36, 3) := by decide +kernel
theorem dX11_hold_17 : decode cX11_hold 17 = .ok (.aload_n 0, 1) := by decide +kernel
theorem dX11_hold_18 : decode cX11_hold 18 = .ok (.getfield 60, 3) := by decide +kernel
theorem dX11_hold_21 : decode cX11_hold 21 = .ok (.iload_n 2, 1) := by decide +kernel
theorem dX11_hold_22 : decode cX11_hold 22 = .ok (.aload_n 0, 1) := by decide +kernel
theorem dX11_hold_23 : decode cX11_hold 23 = .ok (.iload_n 2, 1) := by decide +kernel
theorem dX11_hold_24 : decode cX11_hold 24 = .ok (.iload_n 1, 1) := by decide +kernel
theorem dX11_hold_25 : decode cX11_hold 25 = .ok (.invokevirtual 144, 3) := by decide +kernel
theorem dX11_hold_28 : decode cX11_hold 28 = .ok (.iastore, 1) := by decide +kernel
theorem dX11_hold_29 : decode cX11_hold 29 = .ok (.aload_n 0, 1) := by decide +kernel
theorem dX11_hold_30 : decode cX11_hold 30 = .ok (.dup, 1) := by decide +kernel
theorem dX11_hold_31 : decode cX11_hold 31 = .ok (.getfield 141, 3) := by decide +kernel
theorem dX11_hold_34 : decode cX11_hold 34 = .ok (.aload_n 0, 1) := by decide +kernel
theorem dX11_hold_35 : decode cX11_hold 35 = .ok (.getfield 60, 3) := by decide +kernel
theorem dX11_hold_38 : decode cX11_hold 38 = .ok (.iload_n 2, 1) := by decide +kernel
theorem dX11_hold_39 : decode cX11_hold 39 = .ok (.iaload, 1) := by decide +kernel
theorem dX11_hold_40 : decode cX11_hold 40 = .ok (.iadd, 1) := by decide +kernel
theorem dX11_hold_41 : decode cX11_hold 41 = .ok (.putfield 141, 3) := by decide +kernel
theorem dX11_hold_44 : decode cX11_hold 44 = .ok (.iinc 2 1, 3) := by decide +kernel
theorem dX11_hold_47 : decode cX11_hold 47 = .ok (.goto (-40), 3) := by decide +kernel
theorem dX11_hold_50 : decode cX11_hold 50 = .ok (.return_, 1) := by decide +kernel
theorem dX11_serve_0 : decode cX11_serve 0 = .ok (.aload_n 0, 1) := by decide +kernel
theorem dX11_serve_1 : decode cX11_serve 1 = .ok (.getfield 141, 3) := by decide +kernel
theorem dX11_serve_4 : decode cX11_serve 4 = .ok (.ifCond .ne 7, 3) := by decide +kernel
theorem dX11_serve_7 : decode cX11_serve 7 = .ok (.iconst 0, 1) := by decide +kernel
theorem dX11_serve_8 : decode cX11_serve 8 = .ok (.goto 9, 3) := by decide +kernel
theorem dX11_serve_11 : decode cX11_serve 11 = .ok (.aload_n 0, 1) := by decide +kernel
theorem dX11_serve_12 : decode cX11_serve 12 = .ok (.getfield 53, 3) := by decide +kernel
theorem dX11_serve_15 : decode cX11_serve 15 = .ok (.iconst 2, 1) := by decide +kernel
theorem dX11_serve_16 : decode cX11_serve 16 = .ok (.iaload, 1) := by decide +kernel
theorem dX11_serve_17 : decode cX11_serve 17 = .ok (.istore_n 1, 1) := by decide +kernel
theorem dX11_serve_18 : decode cX11_serve 18 = .ok (.iconst 0, 1) := by decide +kernel
theorem dX11_serve_19 : decode cX11_serve 19 = .ok (.istore_n 2, 1) := by decide +kernel
theorem dX11_serve_20 : decode cX11_serve 20 = .ok (.iload_n 2, 1) := by decide +kernel
theorem dX11_serve_21 : decode cX11_serve 21 = .ok (.aload_n 0, 1) := by decide +kernel
theorem dX11_serve_22 : decode cX11_serve 22 = .ok (.getfield 13, 3) := by decide +kernel
theorem dX11_serve_25 : decode cX11_serve 25 = .ok (.iconst 0, 1) := by decide +kernel
theorem dX11_serve_26 : decode cX11_serve 26 = .ok (.iaload, 1) := by decide +kernel
theorem dX11_serve_27 : decode cX11_serve 27 = .ok (.if_icmp .ge 53, 3) := by decide +kernel
theorem dX11_serve_30 : decode cX11_serve 30 = .ok (.aload_n 0, 1) := by decide +kernel
theorem dX11_serve_31 : decode cX11_serve 31 = .ok (.getfield 63, 3) := by decide +kernel
theorem dX11_serve_34 : decode cX11_serve 34 = .ok (.iload_n 2, 1) := by decide +kernel
theorem dX11_serve_35 : decode cX11_serve 35 = .ok (.aload_n 0, 1) := by decide +kernel
theorem dX11_serve_36 : decode cX11_serve 36 = .ok (.getfield 141, 3) := by decide +kernel
theorem dX11_serve_39 : decode cX11_serve 39 = .ok (.ifCond .ne 7, 3) := by decide +kernel
theorem dX11_serve_42 : decode cX11_serve 42 = .ok (.iconst 0, 1) := by decide +kernel
theorem dX11_serve_43 : decode cX11_serve 43 = .ok (.goto 21, 3) := by decide +kernel
theorem dX11_serve_46 : decode cX11_serve 46 = .ok (.aload_n 0, 1) := by decide +kernel
theorem dX11_serve_47 : decode cX11_serve 47 = .ok (.getfield 53, 3) := by decide +kernel
theorem dX11_serve_50 : decode cX11_serve 50 = .ok (.iconst 2, 1) := by decide +kernel
theorem dX11_serve_51 : decode cX11_serve 51 = .ok (.iaload, 1) := by decide +kernel
theorem dX11_serve_52 : decode cX11_serve 52 = .ok (.aload_n 0, 1) := by decide +kernel
theorem dX11_serve_53 : decode cX11_serve 53 = .ok (.getfield 60, 3) := by decide +kernel
theorem dX11_serve_56 : decode cX11_serve 56 = .ok (.iload_n 2, 1) := by decide +kernel
theorem dX11_serve_57 : decode cX11_serve 57 = .ok (.iaload, 1) := by decide +kernel
theorem dX11_serve_58 : decode cX11_serve 58 = .ok (.imul, 1) := by decide +kernel
theorem dX11_serve_59 : decode cX11_serve 59 = .ok (.aload_n 0, 1) := by decide +kernel
theorem dX11_serve_60 : decode cX11_serve 60 = .ok (.getfield 141, 3) := by decide +kernel
theorem dX11_serve_63 : decode cX11_serve 63 = .ok (.idiv, 1) := by decide +kernel
theorem dX11_serve_64 : decode cX11_serve 64 = .ok (.iastore, 1) := by decide +kernel
theorem dX11_serve_65 : decode cX11_serve 65 = .ok (.iload_n 1, 1) := by decide +kernel
theorem dX11_serve_66 : decode cX11_serve 66 = .ok (.aload_n 0, 1) := by decide +kernel
theorem dX11_serve_67 : decode cX11_serve 67 = .ok (.getfield 63, 3) := by decide +kernel
theorem dX11_serve_70 : decode cX11_serve 70 = .ok (.iload_n 2, 1) := by decide +kernel
theorem dX11_serve_71 : decode cX11_serve 71 = .ok (.iaload, 1) := by decide +kernel
theorem dX11_serve_72 : decode cX11_serve 72 = .ok (.isub, 1) := by decide +kernel
theorem dX11_serve_73 : decode cX11_serve 73 = .ok (.istore_n 1, 1) := by decide +kernel
theorem dX11_serve_74 : decode cX11_serve 74 = .ok (.iinc 2 1, 3) := by decide +kernel
theorem dX11_serve_77 : decode cX11_serve 77 = .ok (.goto (-57), 3) := by decide +kernel
theorem dX11_serve_80 : decode cX11_serve 80 = .ok (.iconst 0, 1) := by decide +kernel
theorem dX11_serve_81 : decode cX11_serve 81 = .ok (.istore_n 2, 1) := by decide +kernel
theorem dX11_serve_82 : decode cX11_serve 82 = .ok (.iload_n 1, 1) := by decide +kernel
theorem dX11_serve_83 : decode cX11_serve 83 = .ok (.ifCond .le 118, 3) := by decide +kernel
theorem dX11_serve_86 : decode cX11_serve 86 = .ok (.bipush (-9), 2) := by decide +kernel
theorem dX11_serve_88 : decode cX11_serve 88 = .ok (.istore_n 3, 1) := by decide +kernel
theorem dX11_serve_89 : decode cX11_serve 89 = .ok (.iconst 0, 1) := by decide +kernel
theorem dX11_serve_90 : decode cX11_serve 90 = .ok (.istore 4, 2) := by decide +kernel
theorem dX11_serve_92 : decode cX11_serve 92 = .ok (.iload 4, 2) := by decide +kernel
theorem dX11_serve_94 : decode cX11_serve 94 = .ok (.aload_n 0, 1) := by decide +kernel
theorem dX11_serve_95 : decode cX11_serve 95 = .ok (.getfield 13, 3) := by decide +kernel
theorem dX11_serve_98 : decode cX11_serve 98 = .ok (.iconst 0, 1) := by decide +kernel
theorem dX11_serve_99 : decode cX11_serve 99 = .ok (.iaload, 1) := by decide +kernel
theorem dX11_serve_100 : decode cX11_serve 100 = .ok (.if_icmp .ge 79, 3) := by decide +kernel
theorem dX11_serve_103 : decode cX11_serve 103 = .ok (.iload_n 2, 1) := by decide +kernel
theorem dX11_serve_104 : decode cX11_serve 104 = .ok (.iload 4, 2) := by decide +kernel
theorem dX11_serve_106 : decode cX11_serve 106 = .ok (.ishr, 1) := by decide +kernel
theorem dX11_serve_107 : decode cX11_serve 107 = .ok (.iconst 1, 1) := by decide +kernel
theorem dX11_serve_108 : decode cX11_serve 108 = .ok (.iand, 1) := by decide +kernel
theorem dX11_serve_109 : decode cX11_serve 109 = .ok (.ifCond .ne 7, 3) := by decide +kernel
theorem dX11_serve_112 : decode cX11_serve 112 = .ok (.iconst 1, 1) := by decide +kernel
theorem dX11_serve_113 : decode cX11_serve 113 = .ok (.goto 4, 3) := by decide +kernel
theorem dX11_serve_116 : decode cX11_serve 116 = .ok (.iconst 0, 1) := by decide +kernel
theorem dX11_serve_117 : decode cX11_serve 117 = .ok (.istore 5, 2) := by decide +kernel
theorem dX11_serve_119 : decode cX11_serve 119 = .ok (.iload 5, 2) := by decide +kernel
theorem dX11_serve_121 : decode cX11_serve 121 = .ok (.ifCond .eq 52, 3) := by decide +kernel
theorem dX11_serve_124 : decode cX11_serve 124 = .ok (.iload_n 3, 1) := by decide +kernel
theorem dX11_serve_125 : decode cX11_serve 125 = .ok (.bipush (-9), 2) := by decide +kernel
theorem dX11_serve_127 : decode cX11_serve 127 = .ok (.if_icmp .eq 43, 3) := by decide +kernel
theorem dX11_serve_130 : decode cX11_serve 130 = .ok (.aload_n 0, 1) := by decide +kernel
theorem dX11_serve_131 : decode cX11_serve 131 = .ok (.getfield 53, 3) := by decide +kernel
theorem dX11_serve_134 : decode cX11_serve 134 = .ok (.iconst 2, 1) := by decide +kernel
theorem dX11_serve_135 : decode cX11_serve 135 = .ok (.iaload, 1) := by decide +kernel
theorem dX11_serve_136 : decode cX11_serve 136 = .ok (.aload_n 0, 1) := by decide +kernel
theorem dX11_serve_137 : decode cX11_serve 137 = .ok (.getfield 60, 3) := by decide +kernel
theorem dX11_serve_140 : decode cX11_serve 140 = .ok (.iload 4, 2) := by decide +kernel
theorem dX11_serve_142 : decode cX11_serve 142 = .ok (.iaload, 1) := by decide +kernel
theorem dX11_serve_143 : decode cX11_serve 143 = .ok (.imul, 1) := by decide +kernel
theorem dX11_serve_144 : decode cX11_serve 144 = .ok (.aload_n 0, 1) := by decide +kernel
theorem dX11_serve_145 : decode cX11_serve 145 = .ok (.getfield 141, 3) := by decide +kernel
theorem dX11_serve_148 : decode cX11_serve 148 = .ok (.irem, 1) := by decide +kernel
theorem dX11_serve_149 : decode cX11_serve 149 = .ok (.aload_n 0, 1) := by decide +kernel
theorem dX11_serve_150 : decode cX11_serve 150 = .ok (.getfield 53, 3) := by decide +kernel
theorem dX11_serve_153 : decode cX11_serve 153 = .ok (.iconst 2, 1) := by decide +kernel
theorem dX11_serve_154 : decode cX11_serve 154 = .ok (.iaload, 1) := by decide +kernel
theorem dX11_serve_155 : decode cX11_serve 155 = .ok (.aload_n 0, 1) := by decide +kernel
theorem dX11_serve_156 : decode cX11_serve 156 = .ok (.getfield 60, 3) := by decide +kernel
theorem dX11_serve_159 : decode cX11_serve 159 = .ok (.iload_n 3, 1) := by decide +kernel
theorem dX11_serve_160 : decode cX11_serve 160 = .ok (.iaload, 1) := by decide +kernel
theorem dX11_serve_161 : decode cX11_serve 161 = .ok (.imul, 1) := by decide +kernel
theorem dX11_serve_162 : decode cX11_serve 162 = .ok (.aload_n 0, 1) := by decide +kernel
theorem dX11_serve_163 : decode cX11_serve 163 = .ok (.getfield 141, 3) := by decide +kernel
theorem dX11_serve_166 : decode cX11_serve 166 = .ok (.irem, 1) := by decide +kernel
theorem dX11_serve_167 : decode cX11_serve 167 = .ok (.if_icmp .le 6, 3) := by decide +kernel
theorem dX11_serve_170 : decode cX11_serve 170 = .ok (.iload 4, 2) := by decide +kernel
theorem dX11_serve_172 : decode cX11_serve 172 = .ok (.istore_n 3, 1) := by decide +kernel
theorem dX11_serve_173 : decode cX11_serve 173 = .ok (.iinc 4 1, 3) := by decide +kernel
theorem dX11_serve_176 : decode cX11_serve 176 = .ok (.goto (-84), 3) := by decide +kernel
theorem dX11_serve_179 : decode cX11_serve 179 = .ok (.aload_n 0, 1) := by decide +kernel
theorem dX11_serve_180 : decode cX11_serve 180 = .ok (.getfield 63, 3) := by decide +kernel
theorem dX11_serve_183 : decode cX11_serve 183 = .ok (.iload_n 3, 1) := by decide +kernel
theorem dX11_serve_184 : decode cX11_serve 184 = .ok (.dup2, 1) := by decide +kernel
theorem dX11_serve_185 : decode cX11_serve 185 = .ok (.iaload, 1) := by decide +kernel
theorem dX11_serve_186 : decode cX11_serve 186 = .ok (.iconst 1, 1) := by decide +kernel
theorem dX11_serve_187 : decode cX11_serve 187 = .ok (.iadd, 1) := by decide +kernel
theorem dX11_serve_188 : decode cX11_serve 188 = .ok (.iastore, 1) := by decide +kernel
theorem dX11_serve_189 : decode cX11_serve 189 = .ok (.iload_n 2, 1) := by decide +kernel
theorem dX11_serve_190 : decode cX11_serve 190 = .ok (.iconst 1, 1) := by decide +kernel
theorem dX11_serve_191 : decode cX11_serve 191 = .ok (.iload_n 3, 1) := by decide +kernel
theorem dX11_serve_192 : decode cX11_serve 192 = .ok (.ishl, 1) := by decide +kernel
theorem dX11_serve_193 : decode cX11_serve 193 = .ok (.ior, 1) := by decide +kernel
theorem dX11_serve_194 : decode cX11_serve 194 = .ok (.istore_n 2, 1) := by decide +kernel
theorem dX11_serve_195 : decode cX11_serve 195 = .ok (.iinc 1 (-1), 3) := by decide +kernel
theorem dX11_serve_198 : decode cX11_serve 198 = .ok (.goto (-116), 3) := by decide +kernel
theorem dX11_serve_201 : decode cX11_serve 201 = .ok (.return_, 1) := by decide +kernel
theorem dX11_asNow_0 : decode cX11_asNow 0 = .ok (.aload_n 0, 1) := by decide +kernel
theorem dX11_asNow_1 : decode cX11_asNow 1 = .ok (.aload_n 0, 1) := by decide +kernel
theorem dX11_asNow_2 : decode cX11_asNow 2 = .ok (.getfield 53, 3) := by decide +kernel
theorem dX11_asNow_5 : decode cX11_asNow 5 = .ok (.iconst 0, 1) := by decide +kernel
theorem dX11_asNow_6 : decode cX11_asNow 6 = .ok (.iaload, 1) := by decide +kernel
theorem dX11_asNow_7 : decode cX11_asNow 7 = .ok (.invokevirtual 147, 3) := by decide +kernel
theorem dX11_asNow_10 : decode cX11_asNow 10 = .ok (.aload_n 0, 1) := by decide +kernel
theorem dX11_asNow_11 : decode cX11_asNow 11 = .ok (.invokevirtual 150, 3) := by decide +kernel
theorem dX11_asNow_14 : decode cX11_asNow 14 = .ok (.return_, 1) := by decide +kernel
theorem dX11_theCase_0 : decode cX11_theCase 0 = .ok (.aload_n 0, 1) := by decide +kernel
theorem dX11_theCase_1 : decode cX11_theCase 1 = .ok (.aload_n 0, 1) := by decide +kernel
theorem dX11_theCase_2 : decode cX11_theCase 2 = .ok (.getfield 53, 3) := by decide +kernel
theorem dX11_theCase_5 : decode cX11_theCase 5 = .ok (.iconst 0, 1) := by decide +kernel
theorem dX11_theCase_6 : decode cX11_theCase 6 = .ok (.iaload, 1) := by decide +kernel
theorem dX11_theCase_7 : decode cX11_theCase 7 = .ok (.invokevirtual 147, 3) := by decide +kernel
theorem dX11_theCase_10 : decode cX11_theCase 10 = .ok (.aload_n 0, 1) := by decide +kernel
theorem dX11_theCase_11 : decode cX11_theCase 11 = .ok (.getfield 141, 3) := by decide +kernel
theorem dX11_theCase_14 : decode cX11_theCase 14 = .ok (.ireturn, 1) := by decide +kernel
theorem dX11_suspect_0 : decode cX11_suspect 0 = .ok (.aload_n 0, 1) := by decide +kernel
theorem dX11_suspect_1 : decode cX11_suspect 1 = .ok (.iload_n 1, 1) := by decide +kernel
theorem dX11_suspect_2 : decode cX11_suspect 2 = .ok (.invokevirtual 153, 3) := by decide +kernel
theorem dX11_suspect_5 : decode cX11_suspect 5 = .ok (.ifCond .ne 5, 3) := by decide +kernel
theorem dX11_suspect_8 : decode cX11_suspect 8 = .ok (.iconst (-1), 1) := by decide +kernel
theorem dX11_suspect_9 : decode cX11_suspect 9 = .ok (.ireturn, 1) := by decide +kernel
theorem dX11_suspect_10 : decode cX11_suspect 10 = .ok (.aload_n 0, 1) := by decide +kernel
theorem dX11_suspect_11 : decode cX11_suspect 11 = .ok (.invokevirtual 156, 3) := by decide +kernel
theorem dX11_suspect_14 : decode cX11_suspect 14 = .ok (.iload_n 2, 1) := by decide +kernel
theorem dX11_suspect_15 : decode cX11_suspect 15 = .ok (.tableswitch 56 0 3 #[29, 36, 43, 50], 29) := by decide +kernel
theorem dX11_suspect_44 : decode cX11_suspect 44 = .ok (.aload_n 0, 1) := by decide +kernel
theorem dX11_suspect_45 : decode cX11_suspect 45 = .ok (.getfield 17, 3) := by decide +kernel
theorem dX11_suspect_48 : decode cX11_suspect 48 = .ok (.iload_n 1, 1) := by decide +kernel
theorem dX11_suspect_49 : decode cX11_suspect 49 = .ok (.iaload, 1) := by decide +kernel
theorem dX11_suspect_50 : decode cX11_suspect 50 = .ok (.ireturn, 1) := by decide +kernel
theorem dX11_suspect_51 : decode cX11_suspect 51 = .ok (.aload_n 0, 1) := by decide +kernel
theorem dX11_suspect_52 : decode cX11_suspect 52 = .ok (.getfield 60, 3) := by decide +kernel
theorem dX11_suspect_55 : decode cX11_suspect 55 = .ok (.iload_n 1, 1) := by decide +kernel
theorem dX11_suspect_56 : decode cX11_suspect 56 = .ok (.iaload, 1) := by decide +kernel
theorem dX11_suspect_57 : decode cX11_suspect 57 = .ok (.ireturn, 1) := by decide +kernel
theorem dX11_suspect_58 : decode cX11_suspect 58 = .ok (.aload_n 0, 1) := by decide +kernel
theorem dX11_suspect_59 : decode cX11_suspect 59 = .ok (.getfield 63, 3) := by decide +kernel
theorem dX11_suspect_62 : decode cX11_suspect 62 = .ok (.iload_n 1, 1) := by decide +kernel
theorem dX11_suspect_63 : decode cX11_suspect 63 = .ok (.iaload, 1) := by decide +kernel
theorem dX11_suspect_64 : decode cX11_suspect 64 = .ok (.ireturn, 1) := by decide +kernel
theorem dX11_suspect_65 : decode cX11_suspect 65 = .ok (.aload_n 0, 1) := by decide +kernel
theorem dX11_suspect_66 : decode cX11_suspect 66 = .ok (.iload_n 1, 1) := by decide +kernel
theorem dX11_suspect_67 : decode cX11_suspect 67 = .ok (.invokevirtual 137, 3) := by decide +kernel
theorem dX11_suspect_70 : decode cX11_suspect 70 = .ok (.ireturn, 1) := by decide +kernel
theorem dX11_suspect_71 : decode cX11_suspect 71 = .ok (.iconst (-1), 1) := by decide +kernel
theorem dX11_suspect_72 : decode cX11_suspect 72 = .ok (.ireturn, 1) := by decide +kernel
theorem dX11_fact_0 : decode cX11_fact 0 = .ok (.aload_n 0, 1) := by decide +kernel
theorem dX11_fact_1 : decode cX11_fact 1 = .ok (.iload_n 1, 1) := by decide +kernel
theorem dX11_fact_2 : decode cX11_fact 2 = .ok (.invokevirtual 159, 3) := by decide +kernel
theorem dX11_fact_5 : decode cX11_fact 5 = .ok (.ifCond .ne 5, 3) := by decide +kernel
theorem dX11_fact_8 : decode cX11_fact 8 = .ok (.iconst (-1), 1) := by decide +kernel
theorem dX11_fact_9 : decode cX11_fact 9 = .ok (.ireturn, 1) := by decide +kernel
theorem dX11_fact_10 : decode cX11_fact 10 = .ok (.iload_n 2, 1) := by decide +kernel
theorem dX11_fact_11 : decode cX11_fact 11 = .ok (.ifCond .ne 12, 3) := by decide +kernel
theorem dX11_fact_14 : decode cX11_fact 14 = .ok (.aload_n 0, 1) := by decide +kernel
theorem dX11_fact_15 : decode cX11_fact 15 = .ok (.getfield 23, 3) := by decide +kernel
theorem dX11_fact_18 : decode cX11_fact 18 = .ok (.iload_n 1, 1) := by decide +kernel
theorem dX11_fact_19 : decode cX11_fact 19 = .ok (.iaload, 1) := by decide +kernel
theorem dX11_fact_20 : decode cX11_fact 20 = .ok (.goto 36, 3) := by decide +kernel
theorem dX11_fact_23 : decode cX11_fact 23 = .ok (.iload_n 2, 1) := by decide +kernel
theorem dX11_fact_24 : decode cX11_fact 24 = .ok (.iconst 1, 1) := by decide +kernel
theorem dX11_fact_25 : decode cX11_fact 25 = .ok (.if_icmp .ne 12, 3) := by decide +kernel
theorem dX11_fact_28 : decode cX11_fact 28 = .ok (.aload_n 0, 1) := by decide +kernel
theorem dX11_fact_29 : decode cX11_fact 29 = .ok (.getfield 26, 3) := by decide +kernel
theorem dX11_fact_32 : decode cX11_fact 32 = .ok (.iload_n 1, 1) := by decide +kernel
theorem dX11_fact_33 : decode cX11_fact 33 = .ok (.iaload, 1) := by decide +kernel
theorem dX11_fact_34 : decode cX11_fact 34 = .ok (.goto 22, 3) := by decide +kernel
theorem dX11_fact_37 : decode cX11_fact 37 = .ok (.iload_n 2, 1) := by decide +kernel
theorem dX11_fact_38 : decode cX11_fact 38 = .ok (.iconst 2, 1) := by decide +kernel
theorem dX11_fact_39 : decode cX11_fact 39 = .ok (.if_icmp .ne 16, 3) := by decide +kernel
theorem dX11_fact_42 : decode cX11_fact 42 = .ok (.aload_n 0, 1) := by decide +kernel
theorem dX11_fact_43 : decode cX11_fact 43 = .ok (.getfield 53, 3) := by decide +kernel
theorem dX11_fact_46 : decode cX11_fact 46 = .ok (.iconst 0, 1) := by decide +kernel
theorem dX11_fact_47 : decode cX11_fact 47 = .ok (.iaload, 1) := by decide +kernel
theorem dX11_fact_48 : decode cX11_fact 48 = .ok (.iload_n 1, 1) := by decide +kernel
theorem dX11_fact_49 : decode cX11_fact 49 = .ok (.ishr, 1) := by decide +kernel
theorem dX11_fact_50 : decode cX11_fact 50 = .ok (.iconst 1, 1) := by decide +kernel
theorem dX11_fact_51 : decode cX11_fact 51 = .ok (.iand, 1) := by decide +kernel
theorem dX11_fact_52 : decode cX11_fact 52 = .ok (.goto 4, 3) := by decide +kernel
theorem dX11_fact_55 : decode cX11_fact 55 = .ok (.iconst (-1), 1) := by decide +kernel
theorem dX11_fact_56 : decode cX11_fact 56 = .ok (.ireturn, 1) := by decide +kernel
theorem dX11_moves_0 : decode cX11_moves 0 = .ok (.aload_n 0, 1) := by decide +kernel
theorem dX11_moves_1 : decode cX11_moves 1 = .ok (.iload_n 1, 1) := by decide +kernel
theorem dX11_moves_2 : decode cX11_moves 2 = .ok (.invokevirtual 159, 3) := by decide +kernel
theorem dX11_moves_5 : decode cX11_moves 5 = .ok (.ifCond .eq 25, 3) := by decide +kernel
theorem dX11_moves_8 : decode cX11_moves 8 = .ok (.aload_n 0, 1) := by decide +kernel
theorem dX11_moves_9 : decode cX11_moves 9 = .ok (.iload_n 2, 1) := by decide +kernel
theorem dX11_moves_10 : decode cX11_moves 10 = .ok (.invokevirtual 153, 3) := by decide +kernel
theorem dX11_moves_13 : decode cX11_moves 13 = .ok (.ifCond .eq 17, 3) := by decide +kernel
theorem dX11_moves_16 : decode cX11_moves 16 = .ok (.aload_n 0, 1) := by decide +kernel
theorem dX11_moves_17 : decode cX11_moves 17 = .ok (.getfield 29, 3) := by decide +kernel
theorem dX11_moves_20 : decode cX11_moves 20 = .ok (.bipush 6, 2) := by decide +kernel
theorem dX11_moves_22 : decode cX11_moves 22 = .ok (.iload_n 1, 1) := by decide +kernel
theorem dX11_moves_23 : decode cX11_moves 23 = .ok (.imul, 1) := by decide +kernel
theorem dX11_moves_24 : decode cX11_moves 24 = .ok (.iload_n 2, 1) := by decide +kernel
theorem dX11_moves_25 : decode cX11_moves 25 = .ok (.iadd, 1) := by decide +kernel
theorem dX11_moves_26 : decode cX11_moves 26 = .ok (.iaload, 1) := by decide +kernel
theorem dX11_moves_27 : decode cX11_moves 27 = .ok (.goto 5, 3) := by decide +kernel
theorem dX11_moves_30 : decode cX11_moves 30 = .ok (.ldc 162, 2) := by decide +kernel
theorem dX11_moves_32 : decode cX11_moves 32 = .ok (.ireturn, 1) := by decide +kernel
theorem dX11_alibi_0 : decode cX11_alibi 0 = .ok (.aload_n 0, 1) := by decide +kernel
theorem dX11_alibi_1 : decode cX11_alibi 1 = .ok (.iload_n 1, 1) := by decide +kernel
theorem dX11_alibi_2 : decode cX11_alibi 2 = .ok (.invokevirtual 163, 3) := by decide +kernel
theorem dX11_alibi_5 : decode cX11_alibi 5 = .ok (.ifCond .ne 5, 3) := by decide +kernel
theorem dX11_alibi_8 : decode cX11_alibi 8 = .ok (.iconst (-1), 1) := by decide +kernel
theorem dX11_alibi_9 : decode cX11_alibi 9 = .ok (.ireturn, 1) := by decide +kernel
theorem dX11_alibi_10 : decode cX11_alibi 10 = .ok (.iload_n 2, 1) := by decide +kernel
theorem dX11_alibi_11 : decode cX11_alibi 11 = .ok (.tableswitch 72 0 4 #[33, 40, 47, 54, 61], 33) := by decide +kernel
theorem dX11_alibi_44 : decode cX11_alibi 44 = .ok (.aload_n 0, 1) := by decide +kernel
theorem dX11_alibi_45 : decode cX11_alibi 45 = .ok (.getfield 35, 3) := by decide +kernel
theorem dX11_alibi_48 : decode cX11_alibi 48 = .ok (.iload_n 1, 1) := by decide +kernel
theorem dX11_alibi_49 : decode cX11_alibi 49 = .ok (.iaload, 1) := by decide +kernel
theorem dX11_alibi_50 : decode cX11_alibi 50 = .ok (.ireturn, 1) := by decide +kernel
theorem dX11_alibi_51 : decode cX11_alibi 51 = .ok (.aload_n 0, 1) := by decide +kernel
theorem dX11_alibi_52 : decode cX11_alibi 52 = .ok (.getfield 38, 3) := by decide +kernel
theorem dX11_alibi_55 : decode cX11_alibi 55 = .ok (.iload_n 1, 1) := by decide +kernel
theorem dX11_alibi_56 : decode cX11_alibi 56 = .ok (.iaload, 1) := by decide +kernel
theorem dX11_alibi_57 : decode cX11_alibi 57 = .ok (.ireturn, 1) := by decide +kernel
theorem dX11_alibi_58 : decode cX11_alibi 58 = .ok (.aload_n 0, 1) := by decide +kernel
theorem dX11_alibi_59 : decode cX11_alibi 59 = .ok (.getfield 41, 3) := by decide +kernel
theorem dX11_alibi_62 : decode cX11_alibi 62 = .ok (.iload_n 1, 1) := by decide +kernel
theorem dX11_alibi_63 : decode cX11_alibi 63 = .ok (.iaload, 1) := by decide +kernel
theorem dX11_alibi_64 : decode cX11_alibi 64 = .ok (.ireturn, 1) := by decide +kernel
theorem dX11_alibi_65 : decode cX11_alibi 65 = .ok (.aload_n 0, 1) := by decide +kernel
theorem dX11_alibi_66 : decode cX11_alibi 66 = .ok (.getfield 44, 3) := by decide +kernel
theorem dX11_alibi_69 : decode cX11_alibi 69 = .ok (.iload_n 1, 1) := by decide +kernel
theorem dX11_alibi_70 : decode cX11_alibi 70 = .ok (.iaload, 1) := by decide +kernel
theorem dX11_alibi_71 : decode cX11_alibi 71 = .ok (.ireturn, 1) := by decide +kernel
theorem dX11_alibi_72 : decode cX11_alibi 72 = .ok (.aload_n 0, 1) := by decide +kernel
theorem dX11_alibi_73 : decode cX11_alibi 73 = .ok (.getfield 53, 3) := by decide +kernel
theorem dX11_alibi_76 : decode cX11_alibi 76 = .ok (.iconst 1, 1) := by decide +kernel
theorem dX11_alibi_77 : decode cX11_alibi 77 = .ok (.iaload, 1) := by decide +kernel
theorem dX11_alibi_78 : decode cX11_alibi 78 = .ok (.iload_n 1, 1) := by decide +kernel
theorem dX11_alibi_79 : decode cX11_alibi 79 = .ok (.ishr, 1) := by decide +kernel
theorem dX11_alibi_80 : decode cX11_alibi 80 = .ok (.iconst 1, 1) := by decide +kernel
theorem dX11_alibi_81 : decode cX11_alibi 81 = .ok (.iand, 1) := by decide +kernel
theorem dX11_alibi_82 : decode cX11_alibi 82 = .ok (.ireturn, 1) := by decide +kernel
theorem dX11_alibi_83 : decode cX11_alibi 83 = .ok (.iconst (-1), 1) := by decide +kernel
theorem dX11_alibi_84 : decode cX11_alibi 84 = .ok (.ireturn, 1) := by decide +kernel
theorem dX11_know_0 : decode cX11_know 0 = .ok (.aload_n 0, 1) := by decide +kernel
theorem dX11_know_1 : decode cX11_know 1 = .ok (.getfield 53, 3) := by decide +kernel
theorem dX11_know_4 : decode cX11_know 4 = .ok (.iconst 3, 1) := by decide +kernel
theorem dX11_know_5 : decode cX11_know 5 = .ok (.iaload, 1) := by decide +kernel
theorem dX11_know_6 : decode cX11_know 6 = .ok (.bipush 10, 2) := by decide +kernel
theorem dX11_know_8 : decode cX11_know 8 = .ok (.if_icmp .ne 44, 3) := by decide +kernel
theorem dX11_know_11 : decode cX11_know 11 = .ok (.iconst 0, 1) := by decide +kernel
theorem dX11_know_12 : decode cX11_know 12 = .ok (.istore_n 1, 1) := by decide +kernel
theorem dX11_know_13 : decode cX11_know 13 = .ok (.iload_n 1, 1) := by decide +kernel
theorem dX11_know_14 : decode cX11_know 14 = .ok (.bipush 27, 2) := by decide +kernel
theorem dX11_know_16 : decode cX11_know 16 = .ok (.if_icmp .ge 26, 3) := by decide +kernel
theorem dX11_know_19 : decode cX11_know 19 = .ok (.aload_n 0, 1) := by decide +kernel
theorem dX11_know_20 : decode cX11_know 20 = .ok (.getfield 53, 3) := by decide +kernel
theorem dX11_know_23 : decode cX11_know 23 = .ok (.iconst 4, 1) := by decide +kernel
theorem dX11_know_24 : decode cX11_know 24 = .ok (.iload_n 1, 1) := by decide +kernel
theorem dX11_know_25 : decode cX11_know 25 = .ok (.iadd, 1) := by decide +kernel
theorem dX11_know_26 : decode cX11_know 26 = .ok (.aload_n 0, 1) := by decide +kernel
theorem dX11_know_27 : decode cX11_know 27 = .ok (.getfield 53, 3) := by decide +kernel
theorem dX11_know_30 : decode cX11_know 30 = .ok (.bipush 7, 2) := by decide +kernel
theorem dX11_know_32 : decode cX11_know 32 = .ok (.iload_n 1, 1) := by decide +kernel
theorem dX11_know_33 : decode cX11_know 33 = .ok (.iadd, 1) := by decide +kernel
theorem dX11_know_34 : decode cX11_know 34 = .ok (.iaload, 1) := by decide +kernel
theorem dX11_know_35 : decode cX11_know 35 = .ok (.iastore, 1) := by decide +kernel
theorem dX11_know_36 : decode cX11_know 36 = .ok (.iinc 1 1, 3) := by decide +kernel
theorem dX11_know_39 : decode cX11_know 39 = .ok (.goto (-26), 3) := by decide +kernel
theorem dX11_know_42 : decode cX11_know 42 = .ok (.aload_n 0, 1) := by decide +kernel
theorem dX11_know_43 : decode cX11_know 43 = .ok (.getfield 53, 3) := by decide +kernel
theorem dX11_know_46 : decode cX11_know 46 = .ok (.iconst 3, 1) := by decide +kernel
theorem dX11_know_47 : decode cX11_know 47 = .ok (.dup2, 1) := by decide +kernel
theorem dX11_know_48 : decode cX11_know 48 = .ok (.iaload, 1) := by decide +kernel
theorem dX11_know_49 : decode cX11_know 49 = .ok (.iconst 1, 1) := by decide +kernel
theorem dX11_know_50 : decode cX11_know 50 = .ok (.isub, 1) := by decide +kernel
theorem dX11_know_51 : decode cX11_know 51 = .ok (.iastore, 1) := by decide +kernel
theorem dX11_know_52 : decode cX11_know 52 = .ok (.iconst 0, 1) := by decide +kernel
theorem dX11_know_53 : decode cX11_know 53 = .ok (.istore_n 1, 1) := by decide +kernel
theorem dX11_know_54 : decode cX11_know 54 = .ok (.iload_n 1, 1) := by decide +kernel
theorem dX11_know_55 : decode cX11_know 55 = .ok (.iconst 3, 1) := by decide +kernel
theorem dX11_know_56 : decode cX11_know 56 = .ok (.if_icmp .ge 32, 3) := by decide +kernel
theorem dX11_know_59 : decode cX11_know 59 = .ok (.aload_n 0, 1) := by decide +kernel
theorem dX11_know_60 : decode cX11_know 60 = .ok (.getfield 53, 3) := by decide +kernel
theorem dX11_know_63 : decode cX11_know 63 = .ok (.iconst 4, 1) := by decide +kernel
theorem dX11_know_64 : decode cX11_know 64 = .ok (.iconst 3, 1) := by decide +kernel
theorem dX11_know_65 : decode cX11_know 65 = .ok (.aload_n 0, 1) := by decide +kernel
theorem dX11_know_66 : decode cX11_know 66 = .ok (.getfield 53, 3) := by decide +kernel
theorem dX11_know_69 : decode cX11_know 69 = .ok (.iconst 3, 1) := by decide +kernel
theorem dX11_know_70 : decode cX11_know 70 = .ok (.iaload, 1) := by decide +kernel
theorem dX11_know_71 : decode cX11_know 71 = .ok (.imul, 1) := by decide +kernel
theorem dX11_know_72 : decode cX11_know 72 = .ok (.iadd, 1) := by decide +kernel
theorem dX11_know_73 : decode cX11_know 73 = .ok (.iload_n 1, 1) := by decide +kernel
theorem dX11_know_74 : decode cX11_know 74 = .ok (.iadd, 1) := by decide +kernel
theorem dX11_know_75 : decode cX11_know 75 = .ok (.aload_n 0, 1) := by decide +kernel
theorem dX11_know_76 : decode cX11_know 76 = .ok (.getfield 53, 3) := by decide +kernel
theorem dX11_know_79 : decode cX11_know 79 = .ok (.iload_n 1, 1) := by decide +kernel
theorem dX11_know_80 : decode cX11_know 80 = .ok (.iaload, 1) := by decide +kernel
theorem dX11_know_81 : decode cX11_know 81 = .ok (.iastore, 1) := by decide +kernel
theorem dX11_know_82 : decode cX11_know 82 = .ok (.iinc 1 1, 3) := by decide +kernel
theorem dX11_know_85 : decode cX11_know 85 = .ok (.goto (-31), 3) := by decide +kernel
theorem dX11_know_88 : decode cX11_know 88 = .ok (.aload_n 0, 1) := by decide +kernel
theorem dX11_know_89 : decode cX11_know 89 = .ok (.getfield 53, 3) := by decide +kernel
theorem dX11_know_92 : decode cX11_know 92 = .ok (.iconst 3, 1) := by decide +kernel
theorem dX11_know_93 : decode cX11_know 93 = .ok (.dup2, 1) := by decide +kernel
theorem dX11_know_94 : decode cX11_know 94 = .ok (.iaload, 1) := by decide +kernel
theorem dX11_know_95 : decode cX11_know 95 = .ok (.iconst 1, 1) := by decide +kernel
theorem dX11_know_96 : decode cX11_know 96 = .ok (.iadd, 1) := by decide +kernel
theorem dX11_know_97 : decode cX11_know 97 = .ok (.iastore, 1) := by decide +kernel
theorem dX11_know_98 : decode cX11_know 98 = .ok (.return_, 1) := by decide +kernel
theorem dX11_find_0 : decode cX11_find 0 = .ok (.aload_n 0, 1) := by decide +kernel
theorem dX11_find_1 : decode cX11_find 1 = .ok (.iload_n 1, 1) := by decide +kernel
theorem dX11_find_2 : decode cX11_find 2 = .ok (.invokevirtual 159, 3) := by decide +kernel
theorem dX11_find_5 : decode cX11_find 5 = .ok (.ifCond .eq 12, 3) := by decide +kernel
theorem dX11_find_8 : decode cX11_find 8 = .ok (.iload_n 2, 1) := by decide +kernel
theorem dX11_find_9 : decode cX11_find 9 = .ok (.iconst 0, 1) := by decide +kernel
theorem dX11_find_10 : decode cX11_find 10 = .ok (.iconst 1, 1) := by decide +kernel
theorem dX11_find_11 : decode cX11_find 11 = .ok (.invokestatic 72, 3) := by decide +kernel
theorem dX11_find_14 : decode cX11_find 14 = .ok (.ifCond .ne 5, 3) := by decide +kernel
theorem dX11_find_17 : decode cX11_find 17 = .ok (.iconst (-1), 1) := by decide +kernel
theorem dX11_find_18 : decode cX11_find 18 = .ok (.ireturn, 1) := by decide +kernel
theorem dX11_find_19 : decode cX11_find 19 = .ok (.aload_n 0, 1) := by decide +kernel
theorem dX11_find_20 : decode cX11_find 20 = .ok (.getfield 53, 3) := by decide +kernel
theorem dX11_find_23 : decode cX11_find 23 = .ok (.iconst 0, 1) := by decide +kernel
theorem dX11_find_24 : decode cX11_find 24 = .ok (.iaload, 1) := by decide +kernel
theorem dX11_find_25 : decode cX11_find 25 = .ok (.iload_n 1, 1) := by decide +kernel
theorem dX11_find_26 : decode cX11_find 26 = .ok (.ishr, 1) := by decide +kernel
theorem dX11_find_27 : decode cX11_find 27 = .ok (.iconst 1, 1) := by decide +kernel
theorem dX11_find_28 : decode cX11_find 28 = .ok (.iand, 1) := by decide +kernel
theorem dX11_find_29 : decode cX11_find 29 = .ok (.iload_n 2, 1) := by decide +kernel
theorem dX11_find_30 : decode cX11_find 30 = .ok (.if_icmp .ne 6, 3) := by decide +kernel
theorem dX11_find_33 : decode cX11_find 33 = .ok (.bipush (-2), 2) := by decide +kernel
theorem dX11_find_35 : decode cX11_find 35 = .ok (.ireturn, 1) := by decide +kernel
theorem dX11_find_36 : decode cX11_find 36 = .ok (.aload_n 0, 1) := by decide +kernel
theorem dX11_find_37 : decode cX11_find 37 = .ok (.invokevirtual 166, 3) := by decide +kernel
theorem dX11_find_40 : decode cX11_find 40 = .ok (.aload_n 0, 1) := by decide +kernel
theorem dX11_find_41 : decode cX11_find 41 = .ok (.getfield 53, 3) := by decide +kernel
theorem dX11_find_44 : decode cX11_find 44 = .ok (.iconst 0, 1) := by decide +kernel
theorem dX11_find_45 : decode cX11_find 45 = .ok (.dup2, 1) := by decide +kernel
theorem dX11_find_46 : decode cX11_find 46 = .ok (.iaload, 1) := by decide +kernel
theorem dX11_find_47 : decode cX11_find 47 = .ok (.iconst 1, 1) := by decide +kernel
theorem dX11_find_48 : decode cX11_find 48 = .ok (.iload_n 1, 1) := by decide +kernel
theorem dX11_find_49 : decode cX11_find 49 = .ok (.ishl, 1) := by decide +kernel
theorem dX11_find_50 : decode cX11_find 50 = .ok (.ixor, 1) := by decide +kernel
theorem dX11_find_51 : decode cX11_find 51 = .ok (.iastore, 1) := by decide +kernel
theorem dX11_find_52 : decode cX11_find 52 = .ok (.aload_n 0, 1) := by decide +kernel
theorem dX11_find_53 : decode cX11_find 53 = .ok (.invokevirtual 169, 3) := by decide +kernel
theorem dX11_find_56 : decode cX11_find 56 = .ok (.ireturn, 1) := by decide +kernel
theorem dX11_hear_0 : decode cX11_hear 0 = .ok (.aload_n 0, 1) := by decide +kernel
theorem dX11_hear_1 : decode cX11_hear 1 = .ok (.iload_n 1, 1) := by decide +kernel
theorem dX11_hear_2 : decode cX11_hear 2 = .ok (.invokevirtual 163, 3) := by decide +kernel
theorem dX11_hear_5 : decode cX11_hear 5 = .ok (.ifCond .eq 12, 3) := by decide +kernel
theorem dX11_hear_8 : decode cX11_hear 8 = .ok (.iload_n 2, 1) := by decide +kernel
theorem dX11_hear_9 : decode cX11_hear 9 = .ok (.iconst 0, 1) := by decide +kernel
theorem dX11_hear_10 : decode cX11_hear 10 = .ok (.iconst 1, 1) := by decide +kernel
theorem dX11_hear_11 : decode cX11_hear 11 = .ok (.invokestatic 72, 3) := by decide +kernel
theorem dX11_hear_14 : decode cX11_hear 14 = .ok (.ifCond .ne 5, 3) := by decide +kernel
theorem dX11_hear_17 : decode cX11_hear 17 = .ok (.iconst (-1), 1) := by decide +kernel
theorem dX11_hear_18 : decode cX11_hear 18 = .ok (.ireturn, 1) := by decide +kernel
theorem dX11_hear_19 : decode cX11_hear 19 = .ok (.aload_n 0, 1) := by decide +kernel
theorem dX11_hear_20 : decode cX11_hear 20 = .ok (.getfield 53, 3) := by decide +kernel
theorem dX11_hear_23 : decode cX11_hear 23 = .ok (.iconst 1, 1) := by decide +kernel
theorem dX11_hear_24 : decode cX11_hear 24 = .ok (.iaload, 1) := by decide +kernel
theorem dX11_hear_25 : decode cX11_hear 25 = .ok (.iload_n 1, 1) := by decide +kernel
theorem dX11_hear_26 : decode cX11_hear 26 = .ok (.ishr, 1) := by decide +kernel
theorem dX11_hear_27 : decode cX11_hear 27 = .ok (.iconst 1, 1) := by decide +kernel
theorem dX11_hear_28 : decode cX11_hear 28 = .ok (.iand, 1) := by decide +kernel
theorem dX11_hear_29 : decode cX11_hear 29 = .ok (.iload_n 2, 1) := by decide +kernel
theorem dX11_hear_30 : decode cX11_hear 30 = .ok (.if_icmp .ne 6, 3) := by decide +kernel
theorem dX11_hear_33 : decode cX11_hear 33 = .ok (.bipush (-2), 2) := by decide +kernel
theorem dX11_hear_35 : decode cX11_hear 35 = .ok (.ireturn, 1) := by decide +kernel
theorem dX11_hear_36 : decode cX11_hear 36 = .ok (.aload_n 0, 1) := by decide +kernel
theorem dX11_hear_37 : decode cX11_hear 37 = .ok (.invokevirtual 166, 3) := by decide +kernel
theorem dX11_hear_40 : decode cX11_hear 40 = .ok (.aload_n 0, 1) := by decide +kernel
theorem dX11_hear_41 : decode cX11_hear 41 = .ok (.getfield 53, 3) := by decide +kernel
theorem dX11_hear_44 : decode cX11_hear 44 = .ok (.iconst 1, 1) := by decide +kernel
theorem dX11_hear_45 : decode cX11_hear 45 = .ok (.dup2, 1) := by decide +kernel
theorem dX11_hear_46 : decode cX11_hear 46 = .ok (.iaload, 1) := by decide +kernel
theorem dX11_hear_47 : decode cX11_hear 47 = .ok (.iconst 1, 1) := by decide +kernel
theorem dX11_hear_48 : decode cX11_hear 48 = .ok (.iload_n 1, 1) := by decide +kernel
theorem dX11_hear_49 : decode cX11_hear 49 = .ok (.ishl, 1) := by decide +kernel
theorem dX11_hear_50 : decode cX11_hear 50 = .ok (.ixor, 1) := by decide +kernel
theorem dX11_hear_51 : decode cX11_hear 51 = .ok (.iastore, 1) := by decide +kernel
theorem dX11_hear_52 : decode cX11_hear 52 = .ok (.aload_n 0, 1) := by decide +kernel
theorem dX11_hear_53 : decode cX11_hear 53 = .ok (.invokevirtual 169, 3) := by decide +kernel
theorem dX11_hear_56 : decode cX11_hear 56 = .ok (.ireturn, 1) := by decide +kernel
theorem dX11_days_0 : decode cX11_days 0 = .ok (.iload_n 1, 1) := by decide +kernel
theorem dX11_days_1 : decode cX11_days 1 = .ok (.iconst 0, 1) := by decide +kernel
theorem dX11_days_2 : decode cX11_days 2 = .ok (.bipush 60, 2) := by decide +kernel
theorem dX11_days_4 : decode cX11_days 4 = .ok (.invokestatic 72, 3) := by decide +kernel
theorem dX11_days_7 : decode cX11_days 7 = .ok (.ifCond .ne 5, 3) := by decide +kernel
theorem dX11_days_10 : decode cX11_days 10 = .ok (.iconst (-1), 1) := by decide +kernel
theorem dX11_days_11 : decode cX11_days 11 = .ok (.ireturn, 1) := by decide +kernel
end
section
theorem dX11_days_12 : decode cX11_days 12 = .ok (.aload_n 0, 1) := by decide +kernel
theorem dX11_days_13 : decode cX11_days 13 = .ok (.getfield 53, 3) := by decide +kernel
theorem dX11_days_16 : decode cX11_days 16 = .ok (.iconst 2, 1) := by decide +kernel
theorem dX11_days_17 : decode cX11_days 17 = .ok (.iaload, 1) := by decide +kernel
theorem dX11_days_18 : decode cX11_days 18 = .ok (.iload_n 1, 1) := by decide +kernel
theorem dX11_days_19 : decode cX11_days 19 = .ok (.if_icmp .ne 6, 3) := by decide +kernel
theorem dX11_days_22 : decode cX11_days 22 = .ok (.bipush (-2), 2) := by decide +kernel
theorem dX11_days_24 : decode cX11_days 24 = .ok (.ireturn, 1) := by decide +kernel
theorem dX11_days_25 : decode cX11_days 25 = .ok (.aload_n 0, 1) := by decide +kernel
theorem dX11_days_26 : decode cX11_days 26 = .ok (.invokevirtual 166, 3) := by decide +kernel
theorem dX11_days_29 : decode cX11_days 29 = .ok (.aload_n 0, 1) := by decide +kernel
theorem dX11_days_30 : decode cX11_days 30 = .ok (.getfield 53, 3) := by decide +kernel
theorem dX11_days_33 : decode cX11_days 33 = .ok (.iconst 2, 1) := by decide +kernel
theorem dX11_days_34 : decode cX11_days 34 = .ok (.iaload, 1) := by decide +kernel
theorem dX11_days_35 : decode cX11_days 35 = .ok (.istore_n 2, 1) := by decide +kernel
theorem dX11_days_36 : decode cX11_days 36 = .ok (.aload_n 0, 1) := by decide +kernel
theorem dX11_days_37 : decode cX11_days 37 = .ok (.getfield 53, 3) := by decide +kernel
theorem dX11_days_40 : decode cX11_days 40 = .ok (.iconst 2, 1) := by decide +kernel
theorem dX11_days_41 : decode cX11_days 41 = .ok (.iload_n 1, 1) := by decide +kernel
theorem dX11_days_42 : decode cX11_days 42 = .ok (.iastore, 1) := by decide +kernel
theorem dX11_days_43 : decode cX11_days 43 = .ok (.iload_n 2, 1) := by decide +kernel
theorem dX11_days_44 : decode cX11_days 44 = .ok (.ireturn, 1) := by decide +kernel
theorem dX11_undo_0 : decode cX11_undo 0 = .ok (.aload_n 0, 1) := by decide +kernel
theorem dX11_undo_1 : decode cX11_undo 1 = .ok (.getfield 53, 3) := by decide +kernel
theorem dX11_undo_4 : decode cX11_undo 4 = .ok (.iconst 3, 1) := by decide +kernel
theorem dX11_undo_5 : decode cX11_undo 5 = .ok (.iaload, 1) := by decide +kernel
theorem dX11_undo_6 : decode cX11_undo 6 = .ok (.ifCond .ne 6, 3) := by decide +kernel
theorem dX11_undo_9 : decode cX11_undo 9 = .ok (.bipush (-2), 2) := by decide +kernel
theorem dX11_undo_11 : decode cX11_undo 11 = .ok (.ireturn, 1) := by decide +kernel
theorem dX11_undo_12 : decode cX11_undo 12 = .ok (.aload_n 0, 1) := by decide +kernel
theorem dX11_undo_13 : decode cX11_undo 13 = .ok (.getfield 53, 3) := by decide +kernel
theorem dX11_undo_16 : decode cX11_undo 16 = .ok (.iconst 3, 1) := by decide +kernel
theorem dX11_undo_17 : decode cX11_undo 17 = .ok (.dup2, 1) := by decide +kernel
theorem dX11_undo_18 : decode cX11_undo 18 = .ok (.iaload, 1) := by decide +kernel
theorem dX11_undo_19 : decode cX11_undo 19 = .ok (.iconst 1, 1) := by decide +kernel
theorem dX11_undo_20 : decode cX11_undo 20 = .ok (.isub, 1) := by decide +kernel
theorem dX11_undo_21 : decode cX11_undo 21 = .ok (.iastore, 1) := by decide +kernel
theorem dX11_undo_22 : decode cX11_undo 22 = .ok (.iconst 0, 1) := by decide +kernel
theorem dX11_undo_23 : decode cX11_undo 23 = .ok (.istore_n 1, 1) := by decide +kernel
theorem dX11_undo_24 : decode cX11_undo 24 = .ok (.iload_n 1, 1) := by decide +kernel
theorem dX11_undo_25 : decode cX11_undo 25 = .ok (.iconst 3, 1) := by decide +kernel
theorem dX11_undo_26 : decode cX11_undo 26 = .ok (.if_icmp .ge 32, 3) := by decide +kernel
theorem dX11_undo_29 : decode cX11_undo 29 = .ok (.aload_n 0, 1) := by decide +kernel
theorem dX11_undo_30 : decode cX11_undo 30 = .ok (.getfield 53, 3) := by decide +kernel
theorem dX11_undo_33 : decode cX11_undo 33 = .ok (.iload_n 1, 1) := by decide +kernel
theorem dX11_undo_34 : decode cX11_undo 34 = .ok (.aload_n 0, 1) := by decide +kernel
theorem dX11_undo_35 : decode cX11_undo 35 = .ok (.getfield 53, 3) := by decide +kernel
theorem dX11_undo_38 : decode cX11_undo 38 = .ok (.iconst 4, 1) := by decide +kernel
theorem dX11_undo_39 : decode cX11_undo 39 = .ok (.iconst 3, 1) := by decide +kernel
theorem dX11_undo_40 : decode cX11_undo 40 = .ok (.aload_n 0, 1) := by decide +kernel
theorem dX11_undo_41 : decode cX11_undo 41 = .ok (.getfield 53, 3) := by decide +kernel
theorem dX11_undo_44 : decode cX11_undo 44 = .ok (.iconst 3, 1) := by decide +kernel
theorem dX11_undo_45 : decode cX11_undo 45 = .ok (.iaload, 1) := by decide +kernel
theorem dX11_undo_46 : decode cX11_undo 46 = .ok (.imul, 1) := by decide +kernel
theorem dX11_undo_47 : decode cX11_undo 47 = .ok (.iadd, 1) := by decide +kernel
theorem dX11_undo_48 : decode cX11_undo 48 = .ok (.iload_n 1, 1) := by decide +kernel
theorem dX11_undo_49 : decode cX11_undo 49 = .ok (.iadd, 1) := by decide +kernel
theorem dX11_undo_50 : decode cX11_undo 50 = .ok (.iaload, 1) := by decide +kernel
theorem dX11_undo_51 : decode cX11_undo 51 = .ok (.iastore, 1) := by decide +kernel
theorem dX11_undo_52 : decode cX11_undo 52 = .ok (.iinc 1 1, 3) := by decide +kernel
theorem dX11_undo_55 : decode cX11_undo 55 = .ok (.goto (-31), 3) := by decide +kernel
theorem dX11_undo_58 : decode cX11_undo 58 = .ok (.aload_n 0, 1) := by decide +kernel
theorem dX11_undo_59 : decode cX11_undo 59 = .ok (.getfield 53, 3) := by decide +kernel
theorem dX11_undo_62 : decode cX11_undo 62 = .ok (.iconst 3, 1) := by decide +kernel
theorem dX11_undo_63 : decode cX11_undo 63 = .ok (.iaload, 1) := by decide +kernel
theorem dX11_undo_64 : decode cX11_undo 64 = .ok (.ireturn, 1) := by decide +kernel
theorem dX11_share_0 : decode cX11_share 0 = .ok (.aload_n 0, 1) := by decide +kernel
theorem dX11_share_1 : decode cX11_share 1 = .ok (.iload_n 1, 1) := by decide +kernel
theorem dX11_share_2 : decode cX11_share 2 = .ok (.invokevirtual 153, 3) := by decide +kernel
theorem dX11_share_5 : decode cX11_share 5 = .ok (.ifCond .eq 12, 3) := by decide +kernel
theorem dX11_share_8 : decode cX11_share 8 = .ok (.iload_n 2, 1) := by decide +kernel
theorem dX11_share_9 : decode cX11_share 9 = .ok (.iconst 0, 1) := by decide +kernel
theorem dX11_share_10 : decode cX11_share 10 = .ok (.iconst 1, 1) := by decide +kernel
theorem dX11_share_11 : decode cX11_share 11 = .ok (.invokestatic 72, 3) := by decide +kernel
theorem dX11_share_14 : decode cX11_share 14 = .ok (.ifCond .ne 5, 3) := by decide +kernel
theorem dX11_share_17 : decode cX11_share 17 = .ok (.iconst (-1), 1) := by decide +kernel
theorem dX11_share_18 : decode cX11_share 18 = .ok (.ireturn, 1) := by decide +kernel
theorem dX11_share_19 : decode cX11_share 19 = .ok (.aload_n 0, 1) := by decide +kernel
theorem dX11_share_20 : decode cX11_share 20 = .ok (.aload_n 0, 1) := by decide +kernel
theorem dX11_share_21 : decode cX11_share 21 = .ok (.getfield 53, 3) := by decide +kernel
theorem dX11_share_24 : decode cX11_share 24 = .ok (.iconst 0, 1) := by decide +kernel
theorem dX11_share_25 : decode cX11_share 25 = .ok (.iaload, 1) := by decide +kernel
theorem dX11_share_26 : decode cX11_share 26 = .ok (.invokevirtual 147, 3) := by decide +kernel
theorem dX11_share_29 : decode cX11_share 29 = .ok (.aload_n 0, 1) := by decide +kernel
theorem dX11_share_30 : decode cX11_share 30 = .ok (.getfield 141, 3) := by decide +kernel
theorem dX11_share_33 : decode cX11_share 33 = .ok (.ifCond .ne 6, 3) := by decide +kernel
theorem dX11_share_36 : decode cX11_share 36 = .ok (.bipush (-2), 2) := by decide +kernel
theorem dX11_share_38 : decode cX11_share 38 = .ok (.ireturn, 1) := by decide +kernel
theorem dX11_share_39 : decode cX11_share 39 = .ok (.aload_n 0, 1) := by decide +kernel
theorem dX11_share_40 : decode cX11_share 40 = .ok (.getfield 60, 3) := by decide +kernel
theorem dX11_share_43 : decode cX11_share 43 = .ok (.iload_n 1, 1) := by decide +kernel
theorem dX11_share_44 : decode cX11_share 44 = .ok (.iaload, 1) := by decide +kernel
theorem dX11_share_45 : decode cX11_share 45 = .ok (.istore_n 3, 1) := by decide +kernel
theorem dX11_share_46 : decode cX11_share 46 = .ok (.aload_n 0, 1) := by decide +kernel
theorem dX11_share_47 : decode cX11_share 47 = .ok (.getfield 141, 3) := by decide +kernel
theorem dX11_share_50 : decode cX11_share 50 = .ok (.istore 4, 2) := by decide +kernel
theorem dX11_share_52 : decode cX11_share 52 = .ok (.iload 4, 2) := by decide +kernel
theorem dX11_share_54 : decode cX11_share 54 = .ok (.ifCond .eq 19, 3) := by decide +kernel
theorem dX11_share_57 : decode cX11_share 57 = .ok (.iload_n 3, 1) := by decide +kernel
theorem dX11_share_58 : decode cX11_share 58 = .ok (.iload 4, 2) := by decide +kernel
theorem dX11_share_60 : decode cX11_share 60 = .ok (.irem, 1) := by decide +kernel
theorem dX11_share_61 : decode cX11_share 61 = .ok (.istore 5, 2) := by decide +kernel
theorem dX11_share_63 : decode cX11_share 63 = .ok (.iload 4, 2) := by decide +kernel
theorem dX11_share_65 : decode cX11_share 65 = .ok (.istore_n 3, 1) := by decide +kernel
theorem dX11_share_66 : decode cX11_share 66 = .ok (.iload 5, 2) := by decide +kernel
theorem dX11_share_68 : decode cX11_share 68 = .ok (.istore 4, 2) := by decide +kernel
theorem dX11_share_70 : decode cX11_share 70 = .ok (.goto (-18), 3) := by decide +kernel
theorem dX11_share_73 : decode cX11_share 73 = .ok (.iload_n 2, 1) := by decide +kernel
theorem dX11_share_74 : decode cX11_share 74 = .ok (.ifCond .ne 14, 3) := by decide +kernel
theorem dX11_share_77 : decode cX11_share 77 = .ok (.aload_n 0, 1) := by decide +kernel
theorem dX11_share_78 : decode cX11_share 78 = .ok (.getfield 60, 3) := by decide +kernel
theorem dX11_share_81 : decode cX11_share 81 = .ok (.iload_n 1, 1) := by decide +kernel
theorem dX11_share_82 : decode cX11_share 82 = .ok (.iaload, 1) := by decide +kernel
theorem dX11_share_83 : decode cX11_share 83 = .ok (.iload_n 3, 1) := by decide +kernel
theorem dX11_share_84 : decode cX11_share 84 = .ok (.idiv, 1) := by decide +kernel
theorem dX11_share_85 : decode cX11_share 85 = .ok (.goto 9, 3) := by decide +kernel
theorem dX11_share_88 : decode cX11_share 88 = .ok (.aload_n 0, 1) := by decide +kernel
theorem dX11_share_89 : decode cX11_share 89 = .ok (.getfield 141, 3) := by decide +kernel
theorem dX11_share_92 : decode cX11_share 92 = .ok (.iload_n 3, 1) := by decide +kernel
theorem dX11_share_93 : decode cX11_share 93 = .ok (.idiv, 1) := by decide +kernel
theorem dX11_share_94 : decode cX11_share 94 = .ok (.ireturn, 1) := by decide +kernel
theorem dX11_allServe_0 : decode cX11_allServe 0 = .ok (.aload_n 0, 1) := by decide +kernel
theorem dX11_allServe_1 : decode cX11_allServe 1 = .ok (.invokevirtual 156, 3) := by decide +kernel
theorem dX11_allServe_4 : decode cX11_allServe 4 = .ok (.iconst 0, 1) := by decide +kernel
theorem dX11_allServe_5 : decode cX11_allServe 5 = .ok (.istore_n 1, 1) := by decide +kernel
theorem dX11_allServe_6 : decode cX11_allServe 6 = .ok (.iconst 0, 1) := by decide +kernel
theorem dX11_allServe_7 : decode cX11_allServe 7 = .ok (.istore_n 2, 1) := by decide +kernel
theorem dX11_allServe_8 : decode cX11_allServe 8 = .ok (.iload_n 2, 1) := by decide +kernel
theorem dX11_allServe_9 : decode cX11_allServe 9 = .ok (.aload_n 0, 1) := by decide +kernel
theorem dX11_allServe_10 : decode cX11_allServe 10 = .ok (.getfield 13, 3) := by decide +kernel
theorem dX11_allServe_13 : decode cX11_allServe 13 = .ok (.iconst 0, 1) := by decide +kernel
theorem dX11_allServe_14 : decode cX11_allServe 14 = .ok (.iaload, 1) := by decide +kernel
theorem dX11_allServe_15 : decode cX11_allServe 15 = .ok (.if_icmp .ge 18, 3) := by decide +kernel
theorem dX11_allServe_18 : decode cX11_allServe 18 = .ok (.iload_n 1, 1) := by decide +kernel
theorem dX11_allServe_19 : decode cX11_allServe 19 = .ok (.aload_n 0, 1) := by decide +kernel
theorem dX11_allServe_20 : decode cX11_allServe 20 = .ok (.getfield 63, 3) := by decide +kernel
theorem dX11_allServe_23 : decode cX11_allServe 23 = .ok (.iload_n 2, 1) := by decide +kernel
theorem dX11_allServe_24 : decode cX11_allServe 24 = .ok (.iaload, 1) := by decide +kernel
theorem dX11_allServe_25 : decode cX11_allServe 25 = .ok (.iadd, 1) := by decide +kernel
theorem dX11_allServe_26 : decode cX11_allServe 26 = .ok (.istore_n 1, 1) := by decide +kernel
theorem dX11_allServe_27 : decode cX11_allServe 27 = .ok (.iinc 2 1, 3) := by decide +kernel
theorem dX11_allServe_30 : decode cX11_allServe 30 = .ok (.goto (-22), 3) := by decide +kernel
theorem dX11_allServe_33 : decode cX11_allServe 33 = .ok (.iload_n 1, 1) := by decide +kernel
theorem dX11_allServe_34 : decode cX11_allServe 34 = .ok (.ireturn, 1) := by decide +kernel
theorem dX11_now_0 : decode cX11_now 0 = .ok (.iload_n 1, 1) := by decide +kernel
theorem dX11_now_1 : decode cX11_now 1 = .ok (.tableswitch 66 0 4 #[35, 40, 47, 54, 61], 35) := by decide +kernel
theorem dX11_now_36 : decode cX11_now 36 = .ok (.aload_n 0, 1) := by decide +kernel
theorem dX11_now_37 : decode cX11_now 37 = .ok (.invokevirtual 169, 3) := by decide +kernel
theorem dX11_now_40 : decode cX11_now 40 = .ok (.ireturn, 1) := by decide +kernel
theorem dX11_now_41 : decode cX11_now 41 = .ok (.aload_n 0, 1) := by decide +kernel
theorem dX11_now_42 : decode cX11_now 42 = .ok (.getfield 53, 3) := by decide +kernel
theorem dX11_now_45 : decode cX11_now 45 = .ok (.iconst 0, 1) := by decide +kernel
theorem dX11_now_46 : decode cX11_now 46 = .ok (.iaload, 1) := by decide +kernel
theorem dX11_now_47 : decode cX11_now 47 = .ok (.ireturn, 1) := by decide +kernel
theorem dX11_now_48 : decode cX11_now 48 = .ok (.aload_n 0, 1) := by decide +kernel
theorem dX11_now_49 : decode cX11_now 49 = .ok (.getfield 53, 3) := by decide +kernel
theorem dX11_now_52 : decode cX11_now 52 = .ok (.iconst 1, 1) := by decide +kernel
theorem dX11_now_53 : decode cX11_now 53 = .ok (.iaload, 1) := by decide +kernel
theorem dX11_now_54 : decode cX11_now 54 = .ok (.ireturn, 1) := by decide +kernel
theorem dX11_now_55 : decode cX11_now 55 = .ok (.aload_n 0, 1) := by decide +kernel
theorem dX11_now_56 : decode cX11_now 56 = .ok (.getfield 53, 3) := by decide +kernel
theorem dX11_now_59 : decode cX11_now 59 = .ok (.iconst 2, 1) := by decide +kernel
theorem dX11_now_60 : decode cX11_now 60 = .ok (.iaload, 1) := by decide +kernel
theorem dX11_now_61 : decode cX11_now 61 = .ok (.ireturn, 1) := by decide +kernel
theorem dX11_now_62 : decode cX11_now 62 = .ok (.aload_n 0, 1) := by decide +kernel
theorem dX11_now_63 : decode cX11_now 63 = .ok (.invokevirtual 172, 3) := by decide +kernel
theorem dX11_now_66 : decode cX11_now 66 = .ok (.ireturn, 1) := by decide +kernel
theorem dX11_now_67 : decode cX11_now 67 = .ok (.iconst (-1), 1) := by decide +kernel
theorem dX11_now_68 : decode cX11_now 68 = .ok (.ireturn, 1) := by decide +kernel
theorem dX11_isShare_0 : decode cX11_isShare 0 = .ok (.aload_n 0, 1) := by decide +kernel
theorem dX11_isShare_1 : decode cX11_isShare 1 = .ok (.iload_n 1, 1) := by decide +kernel
theorem dX11_isShare_2 : decode cX11_isShare 2 = .ok (.invokevirtual 153, 3) := by decide +kernel
theorem dX11_isShare_5 : decode cX11_isShare 5 = .ok (.ifCond .eq 26, 3) := by decide +kernel
theorem dX11_isShare_8 : decode cX11_isShare 8 = .ok (.iload_n 3, 1) := by decide +kernel
theorem dX11_isShare_9 : decode cX11_isShare 9 = .ok (.iconst 1, 1) := by decide +kernel
theorem dX11_isShare_10 : decode cX11_isShare 10 = .ok (.bipush 20, 2) := by decide +kernel
theorem dX11_isShare_12 : decode cX11_isShare 12 = .ok (.invokestatic 72, 3) := by decide +kernel
theorem dX11_isShare_15 : decode cX11_isShare 15 = .ok (.ifCond .eq 16, 3) := by decide +kernel
theorem dX11_isShare_18 : decode cX11_isShare 18 = .ok (.iload_n 2, 1) := by decide +kernel
theorem dX11_isShare_19 : decode cX11_isShare 19 = .ok (.iconst 0, 1) := by decide +kernel
theorem dX11_isShare_20 : decode cX11_isShare 20 = .ok (.iload_n 3, 1) := by decide +kernel
theorem dX11_isShare_21 : decode cX11_isShare 21 = .ok (.invokestatic 72, 3) := by decide +kernel
theorem dX11_isShare_24 : decode cX11_isShare 24 = .ok (.ifCond .eq 7, 3) := by decide +kernel
theorem dX11_isShare_27 : decode cX11_isShare 27 = .ok (.iconst 1, 1) := by decide +kernel
theorem dX11_isShare_28 : decode cX11_isShare 28 = .ok (.goto 4, 3) := by decide +kernel
theorem dX11_isShare_31 : decode cX11_isShare 31 = .ok (.iconst 0, 1) := by decide +kernel
theorem dX11_isShare_32 : decode cX11_isShare 32 = .ok (.ireturn, 1) := by decide +kernel
theorem dX11_costOf_0 : decode cX11_costOf 0 = .ok (.iconst 0, 1) := by decide +kernel
theorem dX11_costOf_1 : decode cX11_costOf 1 = .ok (.istore_n 2, 1) := by decide +kernel
theorem dX11_costOf_2 : decode cX11_costOf 2 = .ok (.iconst 0, 1) := by decide +kernel
theorem dX11_costOf_3 : decode cX11_costOf 3 = .ok (.istore_n 3, 1) := by decide +kernel
theorem dX11_costOf_4 : decode cX11_costOf 4 = .ok (.iload_n 3, 1) := by decide +kernel
theorem dX11_costOf_5 : decode cX11_costOf 5 = .ok (.aload_n 0, 1) := by decide +kernel
theorem dX11_costOf_6 : decode cX11_costOf 6 = .ok (.getfield 20, 3) := by decide +kernel
theorem dX11_costOf_9 : decode cX11_costOf 9 = .ok (.iconst 0, 1) := by decide +kernel
theorem dX11_costOf_10 : decode cX11_costOf 10 = .ok (.iaload, 1) := by decide +kernel
theorem dX11_costOf_11 : decode cX11_costOf 11 = .ok (.if_icmp .ge 24, 3) := by decide +kernel
theorem dX11_costOf_14 : decode cX11_costOf 14 = .ok (.iload_n 2, 1) := by decide +kernel
theorem dX11_costOf_15 : decode cX11_costOf 15 = .ok (.iload_n 1, 1) := by decide +kernel
theorem dX11_costOf_16 : decode cX11_costOf 16 = .ok (.iload_n 3, 1) := by decide +kernel
theorem dX11_costOf_17 : decode cX11_costOf 17 = .ok (.ishr, 1) := by decide +kernel
theorem dX11_costOf_18 : decode cX11_costOf 18 = .ok (.iconst 1, 1) := by decide +kernel
theorem dX11_costOf_19 : decode cX11_costOf 19 = .ok (.iand, 1) := by decide +kernel
theorem dX11_costOf_20 : decode cX11_costOf 20 = .ok (.aload_n 0, 1) := by decide +kernel
theorem dX11_costOf_21 : decode cX11_costOf 21 = .ok (.getfield 23, 3) := by decide +kernel
theorem dX11_costOf_24 : decode cX11_costOf 24 = .ok (.iload_n 3, 1) := by decide +kernel
theorem dX11_costOf_25 : decode cX11_costOf 25 = .ok (.iaload, 1) := by decide +kernel
theorem dX11_costOf_26 : decode cX11_costOf 26 = .ok (.imul, 1) := by decide +kernel
theorem dX11_costOf_27 : decode cX11_costOf 27 = .ok (.iadd, 1) := by decide +kernel
theorem dX11_costOf_28 : decode cX11_costOf 28 = .ok (.istore_n 2, 1) := by decide +kernel
theorem dX11_costOf_29 : decode cX11_costOf 29 = .ok (.iinc 3 1, 3) := by decide +kernel
theorem dX11_costOf_32 : decode cX11_costOf 32 = .ok (.goto (-28), 3) := by decide +kernel
theorem dX11_costOf_35 : decode cX11_costOf 35 = .ok (.iload_n 2, 1) := by decide +kernel
theorem dX11_costOf_36 : decode cX11_costOf 36 = .ok (.ireturn, 1) := by decide +kernel
theorem dX11_isSo_0 : decode cX11_isSo 0 = .ok (.iload 4, 2) := by decide +kernel
theorem dX11_isSo_2 : decode cX11_isSo 2 = .ok (.ifCond .eq 35, 3) := by decide +kernel
theorem dX11_isSo_5 : decode cX11_isSo 5 = .ok (.aload_n 0, 1) := by decide +kernel
theorem dX11_isSo_6 : decode cX11_isSo 6 = .ok (.getfield 141, 3) := by decide +kernel
theorem dX11_isSo_9 : decode cX11_isSo 9 = .ok (.ifCond .le 24, 3) := by decide +kernel
theorem dX11_isSo_12 : decode cX11_isSo 12 = .ok (.aload_n 0, 1) := by decide +kernel
theorem dX11_isSo_13 : decode cX11_isSo 13 = .ok (.getfield 60, 3) := by decide +kernel
theorem dX11_isSo_16 : decode cX11_isSo 16 = .ok (.iload_n 1, 1) := by decide +kernel
theorem dX11_isSo_17 : decode cX11_isSo 17 = .ok (.iaload, 1) := by decide +kernel
theorem dX11_isSo_18 : decode cX11_isSo 18 = .ok (.iload_n 3, 1) := by decide +kernel
theorem dX11_isSo_19 : decode cX11_isSo 19 = .ok (.imul, 1) := by decide +kernel
theorem dX11_isSo_20 : decode cX11_isSo 20 = .ok (.iload_n 2, 1) := by decide +kernel
theorem dX11_isSo_21 : decode cX11_isSo 21 = .ok (.aload_n 0, 1) := by decide +kernel
theorem dX11_isSo_22 : decode cX11_isSo 22 = .ok (.getfield 141, 3) := by decide +kernel
theorem dX11_isSo_25 : decode cX11_isSo 25 = .ok (.imul, 1) := by decide +kernel
theorem dX11_isSo_26 : decode cX11_isSo 26 = .ok (.if_icmp .lt 7, 3) := by decide +kernel
theorem dX11_isSo_29 : decode cX11_isSo 29 = .ok (.iconst 1, 1) := by decide +kernel
theorem dX11_isSo_30 : decode cX11_isSo 30 = .ok (.goto 36, 3) := by decide +kernel
theorem dX11_isSo_33 : decode cX11_isSo 33 = .ok (.iconst 0, 1) := by decide +kernel
theorem dX11_isSo_34 : decode cX11_isSo 34 = .ok (.goto 32, 3) := by decide +kernel
theorem dX11_isSo_37 : decode cX11_isSo 37 = .ok (.aload_n 0, 1) := by decide +kernel
theorem dX11_isSo_38 : decode cX11_isSo 38 = .ok (.getfield 141, 3) := by decide +kernel
theorem dX11_isSo_41 : decode cX11_isSo 41 = .ok (.ifCond .eq 20, 3) := by decide +kernel
theorem dX11_isSo_44 : decode cX11_isSo 44 = .ok (.aload_n 0, 1) := by decide +kernel
theorem dX11_isSo_45 : decode cX11_isSo 45 = .ok (.getfield 60, 3) := by decide +kernel
theorem dX11_isSo_48 : decode cX11_isSo 48 = .ok (.iload_n 1, 1) := by decide +kernel
theorem dX11_isSo_49 : decode cX11_isSo 49 = .ok (.iaload, 1) := by decide +kernel
theorem dX11_isSo_50 : decode cX11_isSo 50 = .ok (.iload_n 3, 1) := by decide +kernel
theorem dX11_isSo_51 : decode cX11_isSo 51 = .ok (.imul, 1) := by decide +kernel
theorem dX11_isSo_52 : decode cX11_isSo 52 = .ok (.iload_n 2, 1) := by decide +kernel
theorem dX11_isSo_53 : decode cX11_isSo 53 = .ok (.aload_n 0, 1) := by decide +kernel
theorem dX11_isSo_54 : decode cX11_isSo 54 = .ok (.getfield 141, 3) := by decide +kernel
theorem dX11_isSo_57 : decode cX11_isSo 57 = .ok (.imul, 1) := by decide +kernel
theorem dX11_isSo_58 : decode cX11_isSo 58 = .ok (.if_icmp .gt 7, 3) := by decide +kernel
theorem dX11_isSo_61 : decode cX11_isSo 61 = .ok (.iconst 1, 1) := by decide +kernel
theorem dX11_isSo_62 : decode cX11_isSo 62 = .ok (.goto 4, 3) := by decide +kernel
theorem dX11_isSo_65 : decode cX11_isSo 65 = .ok (.iconst 0, 1) := by decide +kernel
theorem dX11_isSo_66 : decode cX11_isSo 66 = .ok (.ireturn, 1) := by decide +kernel
theorem dX11_cheapest_0 : decode cX11_cheapest 0 = .ok (.bipush (-9), 2) := by decide +kernel
theorem dX11_cheapest_2 : decode cX11_cheapest 2 = .ok (.istore 5, 2) := by decide +kernel
theorem dX11_cheapest_4 : decode cX11_cheapest 4 = .ok (.iconst 0, 1) := by decide +kernel
theorem dX11_cheapest_5 : decode cX11_cheapest 5 = .ok (.istore 6, 2) := by decide +kernel
theorem dX11_cheapest_7 : decode cX11_cheapest 7 = .ok (.iload 6, 2) := by decide +kernel
theorem dX11_cheapest_9 : decode cX11_cheapest 9 = .ok (.iconst 1, 1) := by decide +kernel
theorem dX11_cheapest_10 : decode cX11_cheapest 10 = .ok (.aload_n 0, 1) := by decide +kernel
theorem dX11_cheapest_11 : decode cX11_cheapest 11 = .ok (.getfield 20, 3) := by decide +kernel
theorem dX11_cheapest_14 : decode cX11_cheapest 14 = .ok (.iconst 0, 1) := by decide +kernel
theorem dX11_cheapest_15 : decode cX11_cheapest 15 = .ok (.iaload, 1) := by decide +kernel
theorem dX11_cheapest_16 : decode cX11_cheapest 16 = .ok (.ishl, 1) := by decide +kernel
theorem dX11_cheapest_17 : decode cX11_cheapest 17 = .ok (.if_icmp .ge 77, 3) := by decide +kernel
theorem dX11_cheapest_20 : decode cX11_cheapest 20 = .ok (.iload 6, 2) := by decide +kernel
theorem dX11_cheapest_22 : decode cX11_cheapest 22 = .ok (.aload_n 0, 1) := by decide +kernel
theorem dX11_cheapest_23 : decode cX11_cheapest 23 = .ok (.getfield 53, 3) := by decide +kernel
theorem dX11_cheapest_26 : decode cX11_cheapest 26 = .ok (.iconst 0, 1) := by decide +kernel
theorem dX11_cheapest_27 : decode cX11_cheapest 27 = .ok (.iaload, 1) := by decide +kernel
theorem dX11_cheapest_28 : decode cX11_cheapest 28 = .ok (.iand, 1) := by decide +kernel
theorem dX11_cheapest_29 : decode cX11_cheapest 29 = .ok (.ifCond .ne 59, 3) := by decide +kernel
theorem dX11_cheapest_32 : decode cX11_cheapest 32 = .ok (.iload 5, 2) := by decide +kernel
theorem dX11_cheapest_34 : decode cX11_cheapest 34 = .ok (.bipush (-9), 2) := by decide +kernel
theorem dX11_cheapest_36 : decode cX11_cheapest 36 = .ok (.if_icmp .eq 18, 3) := by decide +kernel
theorem dX11_cheapest_39 : decode cX11_cheapest 39 = .ok (.aload_n 0, 1) := by decide +kernel
theorem dX11_cheapest_40 : decode cX11_cheapest 40 = .ok (.iload 6, 2) := by decide +kernel
theorem dX11_cheapest_42 : decode cX11_cheapest 42 = .ok (.invokevirtual 175, 3) := by decide +kernel
theorem dX11_cheapest_45 : decode cX11_cheapest 45 = .ok (.aload_n 0, 1) := by decide +kernel
theorem dX11_cheapest_46 : decode cX11_cheapest 46 = .ok (.iload 5, 2) := by decide +kernel
theorem dX11_cheapest_48 : decode cX11_cheapest 48 = .ok (.invokevirtual 175, 3) := by decide +kernel
theorem dX11_cheapest_51 : decode cX11_cheapest 51 = .ok (.if_icmp .ge 37, 3) := by decide +kernel
theorem dX11_cheapest_54 : decode cX11_cheapest 54 = .ok (.aload_n 0, 1) := by decide +kernel
theorem dX11_cheapest_55 : decode cX11_cheapest 55 = .ok (.iload 6, 2) := by decide +kernel
theorem dX11_cheapest_57 : decode cX11_cheapest 57 = .ok (.aload_n 0, 1) := by decide +kernel
theorem dX11_cheapest_58 : decode cX11_cheapest 58 = .ok (.getfield 53, 3) := by decide +kernel
theorem dX11_cheapest_61 : decode cX11_cheapest 61 = .ok (.iconst 0, 1) := by decide +kernel
theorem dX11_cheapest_62 : decode cX11_cheapest 62 = .ok (.iaload, 1) := by decide +kernel
theorem dX11_cheapest_63 : decode cX11_cheapest 63 = .ok (.ior, 1) := by decide +kernel
theorem dX11_cheapest_64 : decode cX11_cheapest 64 = .ok (.invokevirtual 147, 3) := by decide +kernel
theorem dX11_cheapest_67 : decode cX11_cheapest 67 = .ok (.aload_n 0, 1) := by decide +kernel
theorem dX11_cheapest_68 : decode cX11_cheapest 68 = .ok (.iload_n 1, 1) := by decide +kernel
theorem dX11_cheapest_69 : decode cX11_cheapest 69 = .ok (.iload_n 2, 1) := by decide +kernel
theorem dX11_cheapest_70 : decode cX11_cheapest 70 = .ok (.iload_n 3, 1) := by decide +kernel
theorem dX11_cheapest_71 : decode cX11_cheapest 71 = .ok (.iload 4, 2) := by decide +kernel
theorem dX11_cheapest_73 : decode cX11_cheapest 73 = .ok (.invokevirtual 178, 3) := by decide +kernel
theorem dX11_cheapest_76 : decode cX11_cheapest 76 = .ok (.ifCond .eq 8, 3) := by decide +kernel
theorem dX11_cheapest_79 : decode cX11_cheapest 79 = .ok (.iload 6, 2) := by decide +kernel
theorem dX11_cheapest_81 : decode cX11_cheapest 81 = .ok (.goto 5, 3) := by decide +kernel
theorem dX11_cheapest_84 : decode cX11_cheapest 84 = .ok (.iload 5, 2) := by decide +kernel
theorem dX11_cheapest_86 : decode cX11_cheapest 86 = .ok (.istore 5, 2) := by decide +kernel
theorem dX11_cheapest_88 : decode cX11_cheapest 88 = .ok (.iinc 6 1, 3) := by decide +kernel
theorem dX11_cheapest_91 : decode cX11_cheapest 91 = .ok (.goto (-84), 3) := by decide +kernel
theorem dX11_cheapest_94 : decode cX11_cheapest 94 = .ok (.iload 5, 2) := by decide +kernel
theorem dX11_cheapest_96 : decode cX11_cheapest 96 = .ok (.ireturn, 1) := by decide +kernel
theorem dX11_proof_0 : decode cX11_proof 0 = .ok (.aload_n 0, 1) := by decide +kernel
theorem dX11_proof_1 : decode cX11_proof 1 = .ok (.iload_n 1, 1) := by decide +kernel
theorem dX11_proof_2 : decode cX11_proof 2 = .ok (.iload_n 2, 1) := by decide +kernel
theorem dX11_proof_3 : decode cX11_proof 3 = .ok (.iload_n 3, 1) := by decide +kernel
theorem dX11_proof_4 : decode cX11_proof 4 = .ok (.invokevirtual 182, 3) := by decide +kernel
theorem dX11_proof_7 : decode cX11_proof 7 = .ok (.ifCond .eq 13, 3) := by decide +kernel
theorem dX11_proof_10 : decode cX11_proof 10 = .ok (.iload 4, 2) := by decide +kernel
theorem dX11_proof_12 : decode cX11_proof 12 = .ok (.iconst 0, 1) := by decide +kernel
theorem dX11_proof_13 : decode cX11_proof 13 = .ok (.iconst 1, 1) := by decide +kernel
theorem dX11_proof_14 : decode cX11_proof 14 = .ok (.invokestatic 72, 3) := by decide +kernel
theorem dX11_proof_17 : decode cX11_proof 17 = .ok (.ifCond .ne 5, 3) := by decide +kernel
theorem dX11_proof_20 : decode cX11_proof 20 = .ok (.iconst (-1), 1) := by decide +kernel
theorem dX11_proof_21 : decode cX11_proof 21 = .ok (.ireturn, 1) := by decide +kernel
theorem dX11_proof_22 : decode cX11_proof 22 = .ok (.aload_n 0, 1) := by decide +kernel
theorem dX11_proof_23 : decode cX11_proof 23 = .ok (.iload_n 1, 1) := by decide +kernel
theorem dX11_proof_24 : decode cX11_proof 24 = .ok (.iload_n 2, 1) := by decide +kernel
theorem dX11_proof_25 : decode cX11_proof 25 = .ok (.iload_n 3, 1) := by decide +kernel
theorem dX11_proof_26 : decode cX11_proof 26 = .ok (.iconst 1, 1) := by decide +kernel
theorem dX11_proof_27 : decode cX11_proof 27 = .ok (.invokevirtual 185, 3) := by decide +kernel
theorem dX11_proof_30 : decode cX11_proof 30 = .ok (.istore 5, 2) := by decide +kernel
theorem dX11_proof_32 : decode cX11_proof 32 = .ok (.iload 5, 2) := by decide +kernel
theorem dX11_proof_34 : decode cX11_proof 34 = .ok (.bipush (-9), 2) := by decide +kernel
theorem dX11_proof_36 : decode cX11_proof 36 = .ok (.if_icmp .eq 9, 3) := by decide +kernel
theorem dX11_proof_39 : decode cX11_proof 39 = .ok (.iload 4, 2) := by decide +kernel
theorem dX11_proof_41 : decode cX11_proof 41 = .ok (.iconst 1, 1) := by decide +kernel
theorem dX11_proof_42 : decode cX11_proof 42 = .ok (.if_icmp .ne 8, 3) := by decide +kernel
theorem dX11_proof_45 : decode cX11_proof 45 = .ok (.iload 5, 2) := by decide +kernel
theorem dX11_proof_47 : decode cX11_proof 47 = .ok (.goto 9, 3) := by decide +kernel
theorem dX11_proof_50 : decode cX11_proof 50 = .ok (.aload_n 0, 1) := by decide +kernel
theorem dX11_proof_51 : decode cX11_proof 51 = .ok (.iload 5, 2) := by decide +kernel
theorem dX11_proof_53 : decode cX11_proof 53 = .ok (.invokevirtual 175, 3) := by decide +kernel
theorem dX11_proof_56 : decode cX11_proof 56 = .ok (.ireturn, 1) := by decide +kernel
theorem dX11_cleared_0 : decode cX11_cleared 0 = .ok (.aload_n 0, 1) := by decide +kernel
theorem dX11_cleared_1 : decode cX11_cleared 1 = .ok (.iload_n 1, 1) := by decide +kernel
theorem dX11_cleared_2 : decode cX11_cleared 2 = .ok (.iload_n 2, 1) := by decide +kernel
theorem dX11_cleared_3 : decode cX11_cleared 3 = .ok (.iload_n 3, 1) := by decide +kernel
theorem dX11_cleared_4 : decode cX11_cleared 4 = .ok (.invokevirtual 182, 3) := by decide +kernel
theorem dX11_cleared_7 : decode cX11_cleared 7 = .ok (.ifCond .eq 13, 3) := by decide +kernel
theorem dX11_cleared_10 : decode cX11_cleared 10 = .ok (.iload 4, 2) := by decide +kernel
theorem dX11_cleared_12 : decode cX11_cleared 12 = .ok (.iconst 0, 1) := by decide +kernel
theorem dX11_cleared_13 : decode cX11_cleared 13 = .ok (.iconst 1, 1) := by decide +kernel
theorem dX11_cleared_14 : decode cX11_cleared 14 = .ok (.invokestatic 72, 3) := by decide +kernel
theorem dX11_cleared_17 : decode cX11_cleared 17 = .ok (.ifCond .ne 5, 3) := by decide +kernel
theorem dX11_cleared_20 : decode cX11_cleared 20 = .ok (.iconst (-1), 1) := by decide +kernel
theorem dX11_cleared_21 : decode cX11_cleared 21 = .ok (.ireturn, 1) := by decide +kernel
theorem dX11_cleared_22 : decode cX11_cleared 22 = .ok (.aload_n 0, 1) := by decide +kernel
theorem dX11_cleared_23 : decode cX11_cleared 23 = .ok (.iload_n 1, 1) := by decide +kernel
theorem dX11_cleared_24 : decode cX11_cleared 24 = .ok (.iload_n 2, 1) := by decide +kernel
theorem dX11_cleared_25 : decode cX11_cleared 25 = .ok (.iload_n 3, 1) := by decide +kernel
theorem dX11_cleared_26 : decode cX11_cleared 26 = .ok (.iconst 0, 1) := by decide +kernel
theorem dX11_cleared_27 : decode cX11_cleared 27 = .ok (.invokevirtual 185, 3) := by decide +kernel
theorem dX11_cleared_30 : decode cX11_cleared 30 = .ok (.istore 5, 2) := by decide +kernel
theorem dX11_cleared_32 : decode cX11_cleared 32 = .ok (.iload 5, 2) := by decide +kernel
theorem dX11_cleared_34 : decode cX11_cleared 34 = .ok (.bipush (-9), 2) := by decide +kernel
theorem dX11_cleared_36 : decode cX11_cleared 36 = .ok (.if_icmp .eq 9, 3) := by decide +kernel
theorem dX11_cleared_39 : decode cX11_cleared 39 = .ok (.iload 4, 2) := by decide +kernel
theorem dX11_cleared_41 : decode cX11_cleared 41 = .ok (.iconst 1, 1) := by decide +kernel
theorem dX11_cleared_42 : decode cX11_cleared 42 = .ok (.if_icmp .ne 8, 3) := by decide +kernel
theorem dX11_cleared_45 : decode cX11_cleared 45 = .ok (.iload 5, 2) := by decide +kernel
theorem dX11_cleared_47 : decode cX11_cleared 47 = .ok (.goto 9, 3) := by decide +kernel
theorem dX11_cleared_50 : decode cX11_cleared 50 = .ok (.aload_n 0, 1) := by decide +kernel
theorem dX11_cleared_51 : decode cX11_cleared 51 = .ok (.iload 5, 2) := by decide +kernel
theorem dX11_cleared_53 : decode cX11_cleared 53 = .ok (.invokevirtual 175, 3) := by decide +kernel
theorem dX11_cleared_56 : decode cX11_cleared 56 = .ok (.ireturn, 1) := by decide +kernel
theorem dX11_forged_0 : decode cX11_forged 0 = .ok (.aload_n 0, 1) := by decide +kernel
theorem dX11_forged_1 : decode cX11_forged 1 = .ok (.iload_n 1, 1) := by decide +kernel
theorem dX11_forged_2 : decode cX11_forged 2 = .ok (.iload_n 2, 1) := by decide +kernel
theorem dX11_forged_3 : decode cX11_forged 3 = .ok (.iload_n 3, 1) := by decide +kernel
theorem dX11_forged_4 : decode cX11_forged 4 = .ok (.invokevirtual 182, 3) := by decide +kernel
theorem dX11_forged_7 : decode cX11_forged 7 = .ok (.ifCond .ne 5, 3) := by decide +kernel
theorem dX11_forged_10 : decode cX11_forged 10 = .ok (.iconst (-1), 1) := by decide +kernel
theorem dX11_forged_11 : decode cX11_forged 11 = .ok (.ireturn, 1) := by decide +kernel
theorem dX11_forged_12 : decode cX11_forged 12 = .ok (.aload_n 0, 1) := by decide +kernel
theorem dX11_forged_13 : decode cX11_forged 13 = .ok (.getfield 50, 3) := by decide +kernel
theorem dX11_forged_16 : decode cX11_forged 16 = .ok (.iconst 0, 1) := by decide +kernel
theorem dX11_forged_17 : decode cX11_forged 17 = .ok (.iaload, 1) := by decide +kernel
theorem dX11_forged_18 : decode cX11_forged 18 = .ok (.aload_n 0, 1) := by decide +kernel
theorem dX11_forged_19 : decode cX11_forged 19 = .ok (.getfield 47, 3) := by decide +kernel
theorem dX11_forged_22 : decode cX11_forged 22 = .ok (.iconst 0, 1) := by decide +kernel
theorem dX11_forged_23 : decode cX11_forged 23 = .ok (.iaload, 1) := by decide +kernel
theorem dX11_forged_24 : decode cX11_forged 24 = .ok (.isub, 1) := by decide +kernel
theorem dX11_forged_25 : decode cX11_forged 25 = .ok (.iconst 1, 1) := by decide +kernel
theorem dX11_forged_26 : decode cX11_forged 26 = .ok (.iadd, 1) := by decide +kernel
theorem dX11_forged_27 : decode cX11_forged 27 = .ok (.aload_n 0, 1) := by decide +kernel
theorem dX11_forged_28 : decode cX11_forged 28 = .ok (.iload_n 1, 1) := by decide +kernel
theorem dX11_forged_29 : decode cX11_forged 29 = .ok (.invokevirtual 137, 3) := by decide +kernel
theorem dX11_forged_32 : decode cX11_forged 32 = .ok (.isub, 1) := by decide +kernel
theorem dX11_forged_33 : decode cX11_forged 33 = .ok (.istore 4, 2) := by decide +kernel
theorem dX11_forged_35 : decode cX11_forged 35 = .ok (.aload_n 0, 1) := by decide +kernel
theorem dX11_forged_36 : decode cX11_forged 36 = .ok (.aload_n 0, 1) := by decide +kernel
theorem dX11_forged_37 : decode cX11_forged 37 = .ok (.getfield 53, 3) := by decide +kernel
theorem dX11_forged_40 : decode cX11_forged 40 = .ok (.iconst 0, 1) := by decide +kernel
theorem dX11_forged_41 : decode cX11_forged 41 = .ok (.iaload, 1) := by decide +kernel
theorem dX11_forged_42 : decode cX11_forged 42 = .ok (.invokevirtual 147, 3) := by decide +kernel
theorem dX11_forged_45 : decode cX11_forged 45 = .ok (.aload_n 0, 1) := by decide +kernel
theorem dX11_forged_46 : decode cX11_forged 46 = .ok (.getfield 60, 3) := by decide +kernel
theorem dX11_forged_49 : decode cX11_forged 49 = .ok (.iload_n 1, 1) := by decide +kernel
theorem dX11_forged_50 : decode cX11_forged 50 = .ok (.iaload, 1) := by decide +kernel
theorem dX11_forged_51 : decode cX11_forged 51 = .ok (.istore 5, 2) := by decide +kernel
theorem dX11_forged_53 : decode cX11_forged 53 = .ok (.aload_n 0, 1) := by decide +kernel
theorem dX11_forged_54 : decode cX11_forged 54 = .ok (.getfield 141, 3) := by decide +kernel
theorem dX11_forged_57 : decode cX11_forged 57 = .ok (.istore 6, 2) := by decide +kernel
theorem dX11_forged_59 : decode cX11_forged 59 = .ok (.iconst 0, 1) := by decide +kernel
theorem dX11_forged_60 : decode cX11_forged 60 = .ok (.istore 7, 2) := by decide +kernel
theorem dX11_forged_62 : decode cX11_forged 62 = .ok (.iload 7, 2) := by decide +kernel
theorem dX11_forged_64 : decode cX11_forged 64 = .ok (.iload 4, 2) := by decide +kernel
theorem dX11_forged_66 : decode cX11_forged 66 = .ok (.if_icmp .gt 61, 3) := by decide +kernel
theorem dX11_forged_69 : decode cX11_forged 69 = .ok (.aload_n 0, 1) := by decide +kernel
theorem dX11_forged_70 : decode cX11_forged 70 = .ok (.getfield 60, 3) := by decide +kernel
theorem dX11_forged_73 : decode cX11_forged 73 = .ok (.iload_n 1, 1) := by decide +kernel
theorem dX11_forged_74 : decode cX11_forged 74 = .ok (.iload 5, 2) := by decide +kernel
theorem dX11_forged_76 : decode cX11_forged 76 = .ok (.iload 7, 2) := by decide +kernel
theorem dX11_forged_78 : decode cX11_forged 78 = .ok (.if_icmp .le 11, 3) := by decide +kernel
theorem dX11_forged_81 : decode cX11_forged 81 = .ok (.iload 5, 2) := by decide +kernel
theorem dX11_forged_83 : decode cX11_forged 83 = .ok (.iload 7, 2) := by decide +kernel
theorem dX11_forged_85 : decode cX11_forged 85 = .ok (.isub, 1) := by decide +kernel
theorem dX11_forged_86 : decode cX11_forged 86 = .ok (.goto 4, 3) := by decide +kernel
theorem dX11_forged_89 : decode cX11_forged 89 = .ok (.iconst 0, 1) := by decide +kernel
theorem dX11_forged_90 : decode cX11_forged 90 = .ok (.iastore, 1) := by decide +kernel
theorem dX11_forged_91 : decode cX11_forged 91 = .ok (.aload_n 0, 1) := by decide +kernel
theorem dX11_forged_92 : decode cX11_forged 92 = .ok (.iload 6, 2) := by decide +kernel
theorem dX11_forged_94 : decode cX11_forged 94 = .ok (.iload 5, 2) := by decide +kernel
theorem dX11_forged_96 : decode cX11_forged 96 = .ok (.isub, 1) := by decide +kernel
theorem dX11_forged_97 : decode cX11_forged 97 = .ok (.aload_n 0, 1) := by decide +kernel
theorem dX11_forged_98 : decode cX11_forged 98 = .ok (.getfield 60, 3) := by decide +kernel
theorem dX11_forged_101 : decode cX11_forged 101 = .ok (.iload_n 1, 1) := by decide +kernel
theorem dX11_forged_102 : decode cX11_forged 102 = .ok (.iaload, 1) := by decide +kernel
theorem dX11_forged_103 : decode cX11_forged 103 = .ok (.iadd, 1) := by decide +kernel
theorem dX11_forged_104 : decode cX11_forged 104 = .ok (.putfield 141, 3) := by decide +kernel
theorem dX11_forged_107 : decode cX11_forged 107 = .ok (.aload_n 0, 1) := by decide +kernel
theorem dX11_forged_108 : decode cX11_forged 108 = .ok (.iload_n 1, 1) := by decide +kernel
theorem dX11_forged_109 : decode cX11_forged 109 = .ok (.iload_n 2, 1) := by decide +kernel
theorem dX11_forged_110 : decode cX11_forged 110 = .ok (.iload_n 3, 1) := by decide +kernel
theorem dX11_forged_111 : decode cX11_forged 111 = .ok (.iconst 0, 1) := by decide +kernel
theorem dX11_forged_112 : decode cX11_forged 112 = .ok (.invokevirtual 178, 3) := by decide +kernel
theorem dX11_forged_115 : decode cX11_forged 115 = .ok (.ifCond .eq 6, 3) := by decide +kernel
theorem dX11_forged_118 : decode cX11_forged 118 = .ok (.iload 7, 2) := by decide +kernel
theorem dX11_forged_120 : decode cX11_forged 120 = .ok (.ireturn, 1) := by decide +kernel
theorem dX11_forged_121 : decode cX11_forged 121 = .ok (.iinc 7 1, 3) := by decide +kernel
theorem dX11_forged_124 : decode cX11_forged 124 = .ok (.goto (-62), 3) := by decide +kernel
theorem dX11_forged_127 : decode cX11_forged 127 = .ok (.bipush (-9), 2) := by decide +kernel
theorem dX11_forged_129 : decode cX11_forged 129 = .ok (.ireturn, 1) := by decide +kernel
theorem dX11_clashes_0 : decode cX11_clashes 0 = .ok (.aload_n 0, 1) := by decide +kernel
theorem dX11_clashes_1 : decode cX11_clashes 1 = .ok (.getfield 35, 3) := by decide +kernel
theorem dX11_clashes_4 : decode cX11_clashes 4 = .ok (.iload_n 1, 1) := by decide +kernel
theorem dX11_clashes_5 : decode cX11_clashes 5 = .ok (.iaload, 1) := by decide +kernel
theorem dX11_clashes_6 : decode cX11_clashes 6 = .ok (.aload_n 0, 1) := by decide +kernel
theorem dX11_clashes_7 : decode cX11_clashes 7 = .ok (.getfield 35, 3) := by decide +kernel
theorem dX11_clashes_10 : decode cX11_clashes 10 = .ok (.iload_n 2, 1) := by decide +kernel
theorem dX11_clashes_11 : decode cX11_clashes 11 = .ok (.iaload, 1) := by decide +kernel
theorem dX11_clashes_12 : decode cX11_clashes 12 = .ok (.if_icmp .ne 52, 3) := by decide +kernel
theorem dX11_clashes_15 : decode cX11_clashes 15 = .ok (.aload_n 0, 1) := by decide +kernel
theorem dX11_clashes_16 : decode cX11_clashes 16 = .ok (.getfield 38, 3) := by decide +kernel
theorem dX11_clashes_19 : decode cX11_clashes 19 = .ok (.iload_n 1, 1) := by decide +kernel
theorem dX11_clashes_20 : decode cX11_clashes 20 = .ok (.iaload, 1) := by decide +kernel
theorem dX11_clashes_21 : decode cX11_clashes 21 = .ok (.aload_n 0, 1) := by decide +kernel
theorem dX11_clashes_22 : decode cX11_clashes 22 = .ok (.getfield 38, 3) := by decide +kernel
theorem dX11_clashes_25 : decode cX11_clashes 25 = .ok (.iload_n 2, 1) := by decide +kernel
theorem dX11_clashes_26 : decode cX11_clashes 26 = .ok (.iaload, 1) := by decide +kernel
theorem dX11_clashes_27 : decode cX11_clashes 27 = .ok (.if_icmp .eq 37, 3) := by decide +kernel
theorem dX11_clashes_30 : decode cX11_clashes 30 = .ok (.aload_n 0, 1) := by decide +kernel
theorem dX11_clashes_31 : decode cX11_clashes 31 = .ok (.getfield 41, 3) := by decide +kernel
theorem dX11_clashes_34 : decode cX11_clashes 34 = .ok (.iload_n 1, 1) := by decide +kernel
theorem dX11_clashes_35 : decode cX11_clashes 35 = .ok (.iaload, 1) := by decide +kernel
theorem dX11_clashes_36 : decode cX11_clashes 36 = .ok (.aload_n 0, 1) := by decide +kernel
theorem dX11_clashes_37 : decode cX11_clashes 37 = .ok (.getfield 44, 3) := by decide +kernel
theorem dX11_clashes_40 : decode cX11_clashes 40 = .ok (.iload_n 2, 1) := by decide +kernel
theorem dX11_clashes_41 : decode cX11_clashes 41 = .ok (.iaload, 1) := by decide +kernel
theorem dX11_clashes_42 : decode cX11_clashes 42 = .ok (.if_icmp .gt 22, 3) := by decide +kernel
theorem dX11_clashes_45 : decode cX11_clashes 45 = .ok (.aload_n 0, 1) := by decide +kernel
theorem dX11_clashes_46 : decode cX11_clashes 46 = .ok (.getfield 41, 3) := by decide +kernel
theorem dX11_clashes_49 : decode cX11_clashes 49 = .ok (.iload_n 2, 1) := by decide +kernel
theorem dX11_clashes_50 : decode cX11_clashes 50 = .ok (.iaload, 1) := by decide +kernel
theorem dX11_clashes_51 : decode cX11_clashes 51 = .ok (.aload_n 0, 1) := by decide +kernel
theorem dX11_clashes_52 : decode cX11_clashes 52 = .ok (.getfield 44, 3) := by decide +kernel
theorem dX11_clashes_55 : decode cX11_clashes 55 = .ok (.iload_n 1, 1) := by decide +kernel
theorem dX11_clashes_56 : decode cX11_clashes 56 = .ok (.iaload, 1) := by decide +kernel
theorem dX11_clashes_57 : decode cX11_clashes 57 = .ok (.if_icmp .gt 7, 3) := by decide +kernel
theorem dX11_clashes_60 : decode cX11_clashes 60 = .ok (.iconst 1, 1) := by decide +kernel
theorem dX11_clashes_61 : decode cX11_clashes 61 = .ok (.goto 4, 3) := by decide +kernel
theorem dX11_clashes_64 : decode cX11_clashes 64 = .ok (.iconst 0, 1) := by decide +kernel
theorem dX11_clashes_65 : decode cX11_clashes 65 = .ok (.ireturn, 1) := by decide +kernel
theorem dX11_hasClash_0 : decode cX11_hasClash 0 = .ok (.iconst 0, 1) := by decide +kernel
theorem dX11_hasClash_1 : decode cX11_hasClash 1 = .ok (.istore_n 2, 1) := by decide +kernel
theorem dX11_hasClash_2 : decode cX11_hasClash 2 = .ok (.iconst 0, 1) := by decide +kernel
theorem dX11_hasClash_3 : decode cX11_hasClash 3 = .ok (.istore_n 3, 1) := by decide +kernel
theorem dX11_hasClash_4 : decode cX11_hasClash 4 = .ok (.iload_n 3, 1) := by decide +kernel
theorem dX11_hasClash_5 : decode cX11_hasClash 5 = .ok (.aload_n 0, 1) := by decide +kernel
theorem dX11_hasClash_6 : decode cX11_hasClash 6 = .ok (.getfield 32, 3) := by decide +kernel
theorem dX11_hasClash_9 : decode cX11_hasClash 9 = .ok (.iconst 0, 1) := by decide +kernel
theorem dX11_hasClash_10 : decode cX11_hasClash 10 = .ok (.iaload, 1) := by decide +kernel
theorem dX11_hasClash_11 : decode cX11_hasClash 11 = .ok (.if_icmp .ge 61, 3) := by decide +kernel
theorem dX11_hasClash_14 : decode cX11_hasClash 14 = .ok (.iconst 0, 1) := by decide +kernel
theorem dX11_hasClash_15 : decode cX11_hasClash 15 = .ok (.istore 4, 2) := by decide +kernel
theorem dX11_hasClash_17 : decode cX11_hasClash 17 = .ok (.iload 4, 2) := by decide +kernel
theorem dX11_hasClash_19 : decode cX11_hasClash 19 = .ok (.iload_n 3, 1) := by decide +kernel
theorem dX11_hasClash_20 : decode cX11_hasClash 20 = .ok (.if_icmp .ge 46, 3) := by decide +kernel
theorem dX11_hasClash_23 : decode cX11_hasClash 23 = .ok (.iload_n 2, 1) := by decide +kernel
theorem dX11_hasClash_24 : decode cX11_hasClash 24 = .ok (.ifCond .ne 30, 3) := by decide +kernel
theorem dX11_hasClash_27 : decode cX11_hasClash 27 = .ok (.iload_n 1, 1) := by decide +kernel
theorem dX11_hasClash_28 : decode cX11_hasClash 28 = .ok (.iload_n 3, 1) := by decide +kernel
theorem dX11_hasClash_29 : decode cX11_hasClash 29 = .ok (.ishr, 1) := by decide +kernel
theorem dX11_hasClash_30 : decode cX11_hasClash 30 = .ok (.iconst 1, 1) := by decide +kernel
theorem dX11_hasClash_31 : decode cX11_hasClash 31 = .ok (.iand, 1) := by decide +kernel
theorem dX11_hasClash_32 : decode cX11_hasClash 32 = .ok (.ifCond .ne 26, 3) := by decide +kernel
theorem dX11_hasClash_35 : decode cX11_hasClash 35 = .ok (.iload_n 1, 1) := by decide +kernel
theorem dX11_hasClash_36 : decode cX11_hasClash 36 = .ok (.iload 4, 2) := by decide +kernel
theorem dX11_hasClash_38 : decode cX11_hasClash 38 = .ok (.ishr, 1) := by decide +kernel
theorem dX11_hasClash_39 : decode cX11_hasClash 39 = .ok (.iconst 1, 1) := by decide +kernel
theorem dX11_hasClash_40 : decode cX11_hasClash 40 = .ok (.iand, 1) := by decide +kernel
theorem dX11_hasClash_41 : decode cX11_hasClash 41 = .ok (.ifCond .ne 17, 3) := by decide +kernel
theorem dX11_hasClash_44 : decode cX11_hasClash 44 = .ok (.aload_n 0, 1) := by decide +kernel
theorem dX11_hasClash_45 : decode cX11_hasClash 45 = .ok (.iload_n 3, 1) := by decide +kernel
theorem dX11_hasClash_46 : decode cX11_hasClash 46 = .ok (.iload 4, 2) := by decide +kernel
theorem dX11_hasClash_48 : decode cX11_hasClash 48 = .ok (.invokevirtual 189, 3) := by decide +kernel
theorem dX11_hasClash_51 : decode cX11_hasClash 51 = .ok (.ifCond .eq 7, 3) := by decide +kernel
theorem dX11_hasClash_54 : decode cX11_hasClash 54 = .ok (.iconst 1, 1) := by decide +kernel
theorem dX11_hasClash_55 : decode cX11_hasClash 55 = .ok (.goto 4, 3) := by decide +kernel
theorem dX11_hasClash_58 : decode cX11_hasClash 58 = .ok (.iconst 0, 1) := by decide +kernel
theorem dX11_hasClash_59 : decode cX11_hasClash 59 = .ok (.istore_n 2, 1) := by decide +kernel
theorem dX11_hasClash_60 : decode cX11_hasClash 60 = .ok (.iinc 4 1, 3) := by decide +kernel
theorem dX11_hasClash_63 : decode cX11_hasClash 63 = .ok (.goto (-46), 3) := by decide +kernel
theorem dX11_hasClash_66 : decode cX11_hasClash 66 = .ok (.iinc 3 1, 3) := by decide +kernel
theorem dX11_hasClash_69 : decode cX11_hasClash 69 = .ok (.goto (-65), 3) := by decide +kernel
theorem dX11_hasClash_72 : decode cX11_hasClash 72 = .ok (.iload_n 2, 1) := by decide +kernel
theorem dX11_hasClash_73 : decode cX11_hasClash 73 = .ok (.ireturn, 1) := by decide +kernel
theorem dX11_manyOf_0 : decode cX11_manyOf 0 = .ok (.iconst 0, 1) := by decide +kernel
theorem dX11_manyOf_1 : decode cX11_manyOf 1 = .ok (.istore_n 1, 1) := by decide +kernel
theorem dX11_manyOf_2 : decode cX11_manyOf 2 = .ok (.iconst 0, 1) := by decide +kernel
theorem dX11_manyOf_3 : decode cX11_manyOf 3 = .ok (.istore_n 2, 1) := by decide +kernel
theorem dX11_manyOf_4 : decode cX11_manyOf 4 = .ok (.iload_n 2, 1) := by decide +kernel
theorem dX11_manyOf_5 : decode cX11_manyOf 5 = .ok (.bipush 8, 2) := by decide +kernel
theorem dX11_manyOf_7 : decode cX11_manyOf 7 = .ok (.if_icmp .ge 17, 3) := by decide +kernel
theorem dX11_manyOf_10 : decode cX11_manyOf 10 = .ok (.iload_n 1, 1) := by decide +kernel
theorem dX11_manyOf_11 : decode cX11_manyOf 11 = .ok (.iload_n 0, 1) := by decide +kernel
theorem dX11_manyOf_12 : decode cX11_manyOf 12 = .ok (.iload_n 2, 1) := by decide +kernel
theorem dX11_manyOf_13 : decode cX11_manyOf 13 = .ok (.ishr, 1) := by decide +kernel
theorem dX11_manyOf_14 : decode cX11_manyOf 14 = .ok (.iconst 1, 1) := by decide +kernel
theorem dX11_manyOf_15 : decode cX11_manyOf 15 = .ok (.iand, 1) := by decide +kernel
theorem dX11_manyOf_16 : decode cX11_manyOf 16 = .ok (.iadd, 1) := by decide +kernel
theorem dX11_manyOf_17 : decode cX11_manyOf 17 = .ok (.istore_n 1, 1) := by decide +kernel
theorem dX11_manyOf_18 : decode cX11_manyOf 18 = .ok (.iinc 2 1, 3) := by decide +kernel
theorem dX11_manyOf_21 : decode cX11_manyOf 21 = .ok (.goto (-17), 3) := by decide +kernel
theorem dX11_manyOf_24 : decode cX11_manyOf 24 = .ok (.iload_n 1, 1) := by decide +kernel
theorem dX11_manyOf_25 : decode cX11_manyOf 25 = .ok (.ireturn, 1) := by decide +kernel
theorem dX11_clash_0 : decode cX11_clash 0 = .ok (.iload_n 1, 1) := by decide +kernel
theorem dX11_clash_1 : decode cX11_clash 1 = .ok (.iconst 0, 1) := by decide +kernel
theorem dX11_clash_2 : decode cX11_clash 2 = .ok (.iconst 1, 1) := by decide +kernel
theorem dX11_clash_3 : decode cX11_clash 3 = .ok (.invokestatic 72, 3) := by decide +kernel
theorem dX11_clash_6 : decode cX11_clash 6 = .ok (.ifCond .ne 5, 3) := by decide +kernel
theorem dX11_clash_9 : decode cX11_clash 9 = .ok (.iconst (-1), 1) := by decide +kernel
theorem dX11_clash_10 : decode cX11_clash 10 = .ok (.ireturn, 1) := by decide +kernel
theorem dX11_clash_11 : decode cX11_clash 11 = .ok (.iload_n 1, 1) := by decide +kernel
theorem dX11_clash_12 : decode cX11_clash 12 = .ok (.ifCond .ne 58, 3) := by decide +kernel
theorem dX11_clash_15 : decode cX11_clash 15 = .ok (.iconst 0, 1) := by decide +kernel
theorem dX11_clash_16 : decode cX11_clash 16 = .ok (.istore_n 2, 1) := by decide +kernel
theorem dX11_clash_17 : decode cX11_clash 17 = .ok (.iconst 0, 1) := by decide +kernel
theorem dX11_clash_18 : decode cX11_clash 18 = .ok (.istore_n 3, 1) := by decide +kernel
theorem dX11_clash_19 : decode cX11_clash 19 = .ok (.iload_n 3, 1) := by decide +kernel
theorem dX11_clash_20 : decode cX11_clash 20 = .ok (.aload_n 0, 1) := by decide +kernel
theorem dX11_clash_21 : decode cX11_clash 21 = .ok (.getfield 32, 3) := by decide +kernel
theorem dX11_clash_24 : decode cX11_clash 24 = .ok (.iconst 0, 1) := by decide +kernel
theorem dX11_clash_25 : decode cX11_clash 25 = .ok (.iaload, 1) := by decide +kernel
theorem dX11_clash_26 : decode cX11_clash 26 = .ok (.if_icmp .ge 42, 3) := by decide +kernel
theorem dX11_clash_29 : decode cX11_clash 29 = .ok (.iconst 0, 1) := by decide +kernel
theorem dX11_clash_30 : decode cX11_clash 30 = .ok (.istore 4, 2) := by decide +kernel
theorem dX11_clash_32 : decode cX11_clash 32 = .ok (.iload 4, 2) := by decide +kernel
theorem dX11_clash_34 : decode cX11_clash 34 = .ok (.iload_n 3, 1) := by decide +kernel
theorem dX11_clash_35 : decode cX11_clash 35 = .ok (.if_icmp .ge 27, 3) := by decide +kernel
theorem dX11_clash_38 : decode cX11_clash 38 = .ok (.iload_n 2, 1) := by decide +kernel
theorem dX11_clash_39 : decode cX11_clash 39 = .ok (.aload_n 0, 1) := by decide +kernel
theorem dX11_clash_40 : decode cX11_clash 40 = .ok (.iload_n 3, 1) := by decide +kernel
theorem dX11_clash_41 : decode cX11_clash 41 = .ok (.iload 4, 2) := by decide +kernel
theorem dX11_clash_43 : decode cX11_clash 43 = .ok (.invokevirtual 189, 3) := by decide +kernel
theorem dX11_clash_46 : decode cX11_clash 46 = .ok (.ifCond .eq 7, 3) := by decide +kernel
theorem dX11_clash_49 : decode cX11_clash 49 = .ok (.iconst 1, 1) := by decide +kernel
theorem dX11_clash_50 : decode cX11_clash 50 = .ok (.goto 4, 3) := by decide +kernel
theorem dX11_clash_53 : decode cX11_clash 53 = .ok (.iconst 0, 1) := by decide +kernel
theorem dX11_clash_54 : decode cX11_clash 54 = .ok (.iadd, 1) := by decide +kernel
theorem dX11_clash_55 : decode cX11_clash 55 = .ok (.istore_n 2, 1) := by decide +kernel
theorem dX11_clash_56 : decode cX11_clash 56 = .ok (.iinc 4 1, 3) := by decide +kernel
theorem dX11_clash_59 : decode cX11_clash 59 = .ok (.goto (-27), 3) := by decide +kernel
theorem dX11_clash_62 : decode cX11_clash 62 = .ok (.iinc 3 1, 3) := by decide +kernel
theorem dX11_clash_65 : decode cX11_clash 65 = .ok (.goto (-46), 3) := by decide +kernel
theorem dX11_clash_68 : decode cX11_clash 68 = .ok (.iload_n 2, 1) := by decide +kernel
theorem dX11_clash_69 : decode cX11_clash 69 = .ok (.ireturn, 1) := by decide +kernel
theorem dX11_clash_70 : decode cX11_clash 70 = .ok (.bipush (-9), 2) := by decide +kernel
theorem dX11_clash_72 : decode cX11_clash 72 = .ok (.istore_n 2, 1) := by decide +kernel
theorem dX11_clash_73 : decode cX11_clash 73 = .ok (.iconst 0, 1) := by decide +kernel
theorem dX11_clash_74 : decode cX11_clash 74 = .ok (.istore_n 3, 1) := by decide +kernel
theorem dX11_clash_75 : decode cX11_clash 75 = .ok (.iload_n 3, 1) := by decide +kernel
theorem dX11_clash_76 : decode cX11_clash 76 = .ok (.iconst 1, 1) := by decide +kernel
theorem dX11_clash_77 : decode cX11_clash 77 = .ok (.aload_n 0, 1) := by decide +kernel
theorem dX11_clash_78 : decode cX11_clash 78 = .ok (.getfield 32, 3) := by decide +kernel
theorem dX11_clash_81 : decode cX11_clash 81 = .ok (.iconst 0, 1) := by decide +kernel
theorem dX11_clash_82 : decode cX11_clash 82 = .ok (.iaload, 1) := by decide +kernel
theorem dX11_clash_83 : decode cX11_clash 83 = .ok (.ishl, 1) := by decide +kernel
theorem dX11_clash_84 : decode cX11_clash 84 = .ok (.if_icmp .ge 36, 3) := by decide +kernel
theorem dX11_clash_87 : decode cX11_clash 87 = .ok (.iload_n 2, 1) := by decide +kernel
theorem dX11_clash_88 : decode cX11_clash 88 = .ok (.bipush (-9), 2) := by decide +kernel
theorem dX11_clash_90 : decode cX11_clash 90 = .ok (.if_icmp .eq 14, 3) := by decide +kernel
theorem dX11_clash_93 : decode cX11_clash 93 = .ok (.iload_n 3, 1) := by decide +kernel
theorem dX11_clash_94 : decode cX11_clash 94 = .ok (.invokestatic 193, 3) := by decide +kernel
theorem dX11_clash_97 : decode cX11_clash 97 = .ok (.iload_n 2, 1) := by decide +kernel
theorem dX11_clash_98 : decode cX11_clash 98 = .ok (.invokestatic 193, 3) := by decide +kernel
theorem dX11_clash_101 : decode cX11_clash 101 = .ok (.if_icmp .ge 13, 3) := by decide +kernel
theorem dX11_clash_104 : decode cX11_clash 104 = .ok (.aload_n 0, 1) := by decide +kernel
theorem dX11_clash_105 : decode cX11_clash 105 = .ok (.iload_n 3, 1) := by decide +kernel
theorem dX11_clash_106 : decode cX11_clash 106 = .ok (.invokevirtual 196, 3) := by decide +kernel
theorem dX11_clash_109 : decode cX11_clash 109 = .ok (.ifCond .ne 5, 3) := by decide +kernel
theorem dX11_clash_112 : decode cX11_clash 112 = .ok (.iload_n 3, 1) := by decide +kernel
theorem dX11_clash_113 : decode cX11_clash 113 = .ok (.istore_n 2, 1) := by decide +kernel
theorem dX11_clash_114 : decode cX11_clash 114 = .ok (.iinc 3 1, 3) := by decide +kernel
theorem dX11_clash_117 : decode cX11_clash 117 = .ok (.goto (-42), 3) := by decide +kernel
theorem dX11_clash_120 : decode cX11_clash 120 = .ok (.iload_n 2, 1) := by decide +kernel
theorem dX11_clash_121 : decode cX11_clash 121 = .ok (.ireturn, 1) := by decide +kernel
theorem dX11_bandHeld_0 : decode cX11_bandHeld 0 = .ok (.iload_n 2, 1) := by decide +kernel
theorem dX11_bandHeld_1 : decode cX11_bandHeld 1 = .ok (.iload_n 1, 1) := by decide +kernel
theorem dX11_bandHeld_2 : decode cX11_bandHeld 2 = .ok (.ishr, 1) := by decide +kernel
theorem dX11_bandHeld_3 : decode cX11_bandHeld 3 = .ok (.iconst 1, 1) := by decide +kernel
theorem dX11_bandHeld_4 : decode cX11_bandHeld 4 = .ok (.iand, 1) := by decide +kernel
theorem dX11_bandHeld_5 : decode cX11_bandHeld 5 = .ok (.iconst 1, 1) := by decide +kernel
theorem dX11_bandHeld_6 : decode cX11_bandHeld 6 = .ok (.if_icmp .ne 7, 3) := by decide +kernel
theorem dX11_bandHeld_9 : decode cX11_bandHeld 9 = .ok (.iconst 1, 1) := by decide +kernel
theorem dX11_bandHeld_10 : decode cX11_bandHeld 10 = .ok (.goto 4, 3) := by decide +kernel
theorem dX11_bandHeld_13 : decode cX11_bandHeld 13 = .ok (.iconst 0, 1) := by decide +kernel
theorem dX11_bandHeld_14 : decode cX11_bandHeld 14 = .ok (.istore_n 3, 1) := by decide +kernel
theorem dX11_bandHeld_15 : decode cX11_bandHeld 15 = .ok (.iload_n 2, 1) := by decide +kernel
theorem dX11_bandHeld_16 : decode cX11_bandHeld 16 = .ok (.invokestatic 193, 3) := by decide +kernel
theorem dX11_bandHeld_19 : decode cX11_bandHeld 19 = .ok (.iload_n 3, 1) := by decide +kernel
theorem dX11_bandHeld_20 : decode cX11_bandHeld 20 = .ok (.ifCond .eq 7, 3) := by decide +kernel
theorem dX11_bandHeld_23 : decode cX11_bandHeld 23 = .ok (.iconst 1, 1) := by decide +kernel
theorem dX11_bandHeld_24 : decode cX11_bandHeld 24 = .ok (.goto 4, 3) := by decide +kernel
theorem dX11_bandHeld_27 : decode cX11_bandHeld 27 = .ok (.iconst 0, 1) := by decide +kernel
theorem dX11_bandHeld_28 : decode cX11_bandHeld 28 = .ok (.isub, 1) := by decide +kernel
theorem dX11_bandHeld_29 : decode cX11_bandHeld 29 = .ok (.istore 4, 2) := by decide +kernel
theorem dX11_bandHeld_31 : decode cX11_bandHeld 31 = .ok (.iload_n 3, 1) := by decide +kernel
theorem dX11_bandHeld_32 : decode cX11_bandHeld 32 = .ok (.ifCond .eq 14, 3) := by decide +kernel
theorem dX11_bandHeld_35 : decode cX11_bandHeld 35 = .ok (.aload_n 0, 1) := by decide +kernel
theorem dX11_bandHeld_36 : decode cX11_bandHeld 36 = .ok (.getfield 60, 3) := by decide +kernel
theorem dX11_bandHeld_39 : decode cX11_bandHeld 39 = .ok (.iload_n 1, 1) := by decide +kernel
theorem dX11_bandHeld_40 : decode cX11_bandHeld 40 = .ok (.iaload, 1) := by decide +kernel
theorem dX11_bandHeld_41 : decode cX11_bandHeld 41 = .ok (.iconst 2, 1) := by decide +kernel
theorem dX11_bandHeld_42 : decode cX11_bandHeld 42 = .ok (.idiv, 1) := by decide +kernel
theorem dX11_bandHeld_43 : decode cX11_bandHeld 43 = .ok (.goto 9, 3) := by decide +kernel
theorem dX11_bandHeld_46 : decode cX11_bandHeld 46 = .ok (.aload_n 0, 1) := by decide +kernel
theorem dX11_bandHeld_47 : decode cX11_bandHeld 47 = .ok (.getfield 60, 3) := by decide +kernel
theorem dX11_bandHeld_50 : decode cX11_bandHeld 50 = .ok (.iload_n 1, 1) := by decide +kernel
theorem dX11_bandHeld_51 : decode cX11_bandHeld 51 = .ok (.iaload, 1) := by decide +kernel
theorem dX11_bandHeld_52 : decode cX11_bandHeld 52 = .ok (.iconst 3, 1) := by decide +kernel
theorem dX11_bandHeld_53 : decode cX11_bandHeld 53 = .ok (.iload 4, 2) := by decide +kernel
theorem dX11_bandHeld_55 : decode cX11_bandHeld 55 = .ok (.imul, 1) := by decide +kernel
theorem dX11_bandHeld_56 : decode cX11_bandHeld 56 = .ok (.iadd, 1) := by decide +kernel
theorem dX11_bandHeld_57 : decode cX11_bandHeld 57 = .ok (.ireturn, 1) := by decide +kernel
theorem dX11_bandDays_0 : decode cX11_bandDays 0 = .ok (.iconst 0, 1) := by decide +kernel
theorem dX11_bandDays_1 : decode cX11_bandDays 1 = .ok (.istore_n 3, 1) := by decide +kernel
theorem dX11_bandDays_2 : decode cX11_bandDays 2 = .ok (.iconst 0, 1) := by decide +kernel
theorem dX11_bandDays_3 : decode cX11_bandDays 3 = .ok (.istore 4, 2) := by decide +kernel
theorem dX11_bandDays_5 : decode cX11_bandDays 5 = .ok (.iload 4, 2) := by decide +kernel
theorem dX11_bandDays_7 : decode cX11_bandDays 7 = .ok (.aload_n 0, 1) := by decide +kernel
theorem dX11_bandDays_8 : decode cX11_bandDays 8 = .ok (.getfield 13, 3) := by decide +kernel
theorem dX11_bandDays_11 : decode cX11_bandDays 11 = .ok (.iconst 0, 1) := by decide +kernel
theorem dX11_bandDays_12 : decode cX11_bandDays 12 = .ok (.iaload, 1) := by decide +kernel
theorem dX11_bandDays_13 : decode cX11_bandDays 13 = .ok (.if_icmp .ge 19, 3) := by decide +kernel
theorem dX11_bandDays_16 : decode cX11_bandDays 16 = .ok (.iload_n 3, 1) := by decide +kernel
theorem dX11_bandDays_17 : decode cX11_bandDays 17 = .ok (.aload_n 0, 1) := by decide +kernel
theorem dX11_bandDays_18 : decode cX11_bandDays 18 = .ok (.iload 4, 2) := by decide +kernel
theorem dX11_bandDays_20 : decode cX11_bandDays 20 = .ok (.iload_n 2, 1) := by decide +kernel
theorem dX11_bandDays_21 : decode cX11_bandDays 21 = .ok (.invokevirtual 199, 3) := by decide +kernel
theorem dX11_bandDays_24 : decode cX11_bandDays 24 = .ok (.iadd, 1) := by decide +kernel
theorem dX11_bandDays_25 : decode cX11_bandDays 25 = .ok (.istore_n 3, 1) := by decide +kernel
theorem dX11_bandDays_26 : decode cX11_bandDays 26 = .ok (.iinc 4 1, 3) := by decide +kernel
theorem dX11_bandDays_29 : decode cX11_bandDays 29 = .ok (.goto (-24), 3) := by decide +kernel
theorem dX11_bandDays_32 : decode cX11_bandDays 32 = .ok (.iload_n 3, 1) := by decide +kernel
theorem dX11_bandDays_33 : decode cX11_bandDays 33 = .ok (.ifCond .ne 7, 3) := by decide +kernel
theorem dX11_bandDays_36 : decode cX11_bandDays 36 = .ok (.iconst 0, 1) := by decide +kernel
theorem dX11_bandDays_37 : decode cX11_bandDays 37 = .ok (.goto 18, 3) := by decide +kernel
theorem dX11_bandDays_40 : decode cX11_bandDays 40 = .ok (.aload_n 0, 1) := by decide +kernel
theorem dX11_bandDays_41 : decode cX11_bandDays 41 = .ok (.getfield 53, 3) := by decide +kernel
theorem dX11_bandDays_44 : decode cX11_bandDays 44 = .ok (.iconst 2, 1) := by decide +kernel
theorem dX11_bandDays_45 : decode cX11_bandDays 45 = .ok (.iaload, 1) := by decide +kernel
theorem dX11_bandDays_46 : decode cX11_bandDays 46 = .ok (.aload_n 0, 1) := by decide +kernel
theorem dX11_bandDays_47 : decode cX11_bandDays 47 = .ok (.iload_n 1, 1) := by decide +kernel
theorem dX11_bandDays_48 : decode cX11_bandDays 48 = .ok (.iload_n 2, 1) := by decide +kernel
theorem dX11_bandDays_49 : decode cX11_bandDays 49 = .ok (.invokevirtual 199, 3) := by decide +kernel
theorem dX11_bandDays_52 : decode cX11_bandDays 52 = .ok (.imul, 1) := by decide +kernel
theorem dX11_bandDays_53 : decode cX11_bandDays 53 = .ok (.iload_n 3, 1) := by decide +kernel
theorem dX11_bandDays_54 : decode cX11_bandDays 54 = .ok (.idiv, 1) := by decide +kernel
theorem dX11_bandDays_55 : decode cX11_bandDays 55 = .ok (.ireturn, 1) := by decide +kernel
theorem dX11_firstWhoGains_0 : decode cX11_firstWhoGains 0 = .ok (.iconst 0, 1) := by decide +kernel
theorem dX11_firstWhoGains_1 : decode cX11_firstWhoGains 1 = .ok (.istore_n 2, 1) := by decide +kernel
theorem dX11_firstWhoGains_2 : decode cX11_firstWhoGains 2 = .ok (.iload_n 2, 1) := by decide +kernel
theorem dX11_firstWhoGains_3 : decode cX11_firstWhoGains 3 = .ok (.aload_n 0, 1) := by decide +kernel
theorem dX11_firstWhoGains_4 : decode cX11_firstWhoGains 4 = .ok (.getfield 13, 3) := by decide +kernel
theorem dX11_firstWhoGains_7 : decode cX11_firstWhoGains 7 = .ok (.iconst 0, 1) := by decide +kernel
theorem dX11_firstWhoGains_8 : decode cX11_firstWhoGains 8 = .ok (.iaload, 1) := by decide +kernel
theorem dX11_firstWhoGains_9 : decode cX11_firstWhoGains 9 = .ok (.if_icmp .ge 30, 3) := by decide +kernel
theorem dX11_firstWhoGains_12 : decode cX11_firstWhoGains 12 = .ok (.aload_n 0, 1) := by decide +kernel
theorem dX11_firstWhoGains_13 : decode cX11_firstWhoGains 13 = .ok (.iload_n 2, 1) := by decide +kernel
theorem dX11_firstWhoGains_14 : decode cX11_firstWhoGains 14 = .ok (.iload_n 1, 1) := by decide +kernel
theorem dX11_firstWhoGains_15 : decode cX11_firstWhoGains 15 = .ok (.iconst 1, 1) := by decide +kernel
theorem dX11_firstWhoGains_16 : decode cX11_firstWhoGains 16 = .ok (.iload_n 2, 1) := by decide +kernel
theorem dX11_firstWhoGains_17 : decode cX11_firstWhoGains 17 = .ok (.ishl, 1) := by decide +kernel
theorem dX11_firstWhoGains_18 : decode cX11_firstWhoGains 18 = .ok (.ixor, 1) := by decide +kernel
theorem dX11_firstWhoGains_19 : decode cX11_firstWhoGains 19 = .ok (.invokevirtual 202, 3) := by decide +kernel
theorem dX11_firstWhoGains_22 : decode cX11_firstWhoGains 22 = .ok (.aload_n 0, 1) := by decide +kernel
theorem dX11_firstWhoGains_23 : decode cX11_firstWhoGains 23 = .ok (.iload_n 2, 1) := by decide +kernel
theorem dX11_firstWhoGains_24 : decode cX11_firstWhoGains 24 = .ok (.iload_n 1, 1) := by decide +kernel
theorem dX11_firstWhoGains_25 : decode cX11_firstWhoGains 25 = .ok (.invokevirtual 202, 3) := by decide +kernel
theorem dX11_firstWhoGains_28 : decode cX11_firstWhoGains 28 = .ok (.if_icmp .ge 5, 3) := by decide +kernel
theorem dX11_firstWhoGains_31 : decode cX11_firstWhoGains 31 = .ok (.iload_n 2, 1) := by decide +kernel
theorem dX11_firstWhoGains_32 : decode cX11_firstWhoGains 32 = .ok (.ireturn, 1) := by decide +kernel
theorem dX11_firstWhoGains_33 : decode cX11_firstWhoGains 33 = .ok (.iinc 2 1, 3) := by decide +kernel
theorem dX11_firstWhoGains_36 : decode cX11_firstWhoGains 36 = .ok (.goto (-34), 3) := by decide +kernel
theorem dX11_firstWhoGains_39 : decode cX11_firstWhoGains 39 = .ok (.bipush (-9), 2) := by decide +kernel
theorem dX11_firstWhoGains_41 : decode cX11_firstWhoGains 41 = .ok (.ireturn, 1) := by decide +kernel
theorem dX11_rests_0 : decode cX11_rests 0 = .ok (.iload_n 1, 1) := by decide +kernel
theorem dX11_rests_1 : decode cX11_rests 1 = .ok (.iconst 0, 1) := by decide +kernel
theorem dX11_rests_2 : decode cX11_rests 2 = .ok (.iconst 1, 1) := by decide +kernel
theorem dX11_rests_3 : decode cX11_rests 3 = .ok (.invokestatic 72, 3) := by decide +kernel
theorem dX11_rests_6 : decode cX11_rests 6 = .ok (.ifCond .ne 5, 3) := by decide +kernel
theorem dX11_rests_9 : decode cX11_rests 9 = .ok (.iconst (-1), 1) := by decide +kernel
theorem dX11_rests_10 : decode cX11_rests 10 = .ok (.ireturn, 1) := by decide +kernel
theorem dX11_rests_11 : decode cX11_rests 11 = .ok (.aload_n 0, 1) := by decide +kernel
theorem dX11_rests_12 : decode cX11_rests 12 = .ok (.aload_n 0, 1) := by decide +kernel
theorem dX11_rests_13 : decode cX11_rests 13 = .ok (.getfield 53, 3) := by decide +kernel
theorem dX11_rests_16 : decode cX11_rests 16 = .ok (.iconst 0, 1) := by decide +kernel
theorem dX11_rests_17 : decode cX11_rests 17 = .ok (.iaload, 1) := by decide +kernel
theorem dX11_rests_18 : decode cX11_rests 18 = .ok (.invokevirtual 147, 3) := by decide +kernel
theorem dX11_rests_21 : decode cX11_rests 21 = .ok (.iconst 0, 1) := by decide +kernel
theorem dX11_rests_22 : decode cX11_rests 22 = .ok (.istore_n 2, 1) := by decide +kernel
theorem dX11_rests_23 : decode cX11_rests 23 = .ok (.bipush (-9), 2) := by decide +kernel
theorem dX11_rests_25 : decode cX11_rests 25 = .ok (.istore_n 3, 1) := by decide +kernel
theorem dX11_rests_26 : decode cX11_rests 26 = .ok (.iconst 1, 1) := by decide +kernel
theorem dX11_rests_27 : decode cX11_rests 27 = .ok (.aload_n 0, 1) := by decide +kernel
theorem dX11_rests_28 : decode cX11_rests 28 = .ok (.getfield 13, 3) := by decide +kernel
theorem dX11_rests_31 : decode cX11_rests 31 = .ok (.iconst 0, 1) := by decide +kernel
theorem dX11_rests_32 : decode cX11_rests 32 = .ok (.iaload, 1) := by decide +kernel
theorem dX11_rests_33 : decode cX11_rests 33 = .ok (.ishl, 1) := by decide +kernel
theorem dX11_rests_34 : decode cX11_rests 34 = .ok (.iconst 1, 1) := by decide +kernel
theorem dX11_rests_35 : decode cX11_rests 35 = .ok (.isub, 1) := by decide +kernel
theorem dX11_rests_36 : decode cX11_rests 36 = .ok (.istore 4, 2) := by decide +kernel
theorem dX11_rests_38 : decode cX11_rests 38 = .ok (.iload 4, 2) := by decide +kernel
theorem dX11_rests_40 : decode cX11_rests 40 = .ok (.ifCond .lt 52, 3) := by decide +kernel
theorem dX11_rests_43 : decode cX11_rests 43 = .ok (.aload_n 0, 1) := by decide +kernel
theorem dX11_rests_44 : decode cX11_rests 44 = .ok (.iload 4, 2) := by decide +kernel
theorem dX11_rests_46 : decode cX11_rests 46 = .ok (.invokevirtual 205, 3) := by decide +kernel
theorem dX11_rests_49 : decode cX11_rests 49 = .ok (.bipush (-9), 2) := by decide +kernel
theorem dX11_rests_51 : decode cX11_rests 51 = .ok (.if_icmp .ne 7, 3) := by decide +kernel
theorem dX11_rests_54 : decode cX11_rests 54 = .ok (.iconst 1, 1) := by decide +kernel
theorem dX11_rests_55 : decode cX11_rests 55 = .ok (.goto 4, 3) := by decide +kernel
theorem dX11_rests_58 : decode cX11_rests 58 = .ok (.iconst 0, 1) := by decide +kernel
theorem dX11_rests_59 : decode cX11_rests 59 = .ok (.istore 5, 2) := by decide +kernel
theorem dX11_rests_61 : decode cX11_rests 61 = .ok (.iload_n 2, 1) := by decide +kernel
theorem dX11_rests_62 : decode cX11_rests 62 = .ok (.iload 5, 2) := by decide +kernel
theorem dX11_rests_64 : decode cX11_rests 64 = .ok (.ifCond .eq 7, 3) := by decide +kernel
theorem dX11_rests_67 : decode cX11_rests 67 = .ok (.iconst 1, 1) := by decide +kernel
theorem dX11_rests_68 : decode cX11_rests 68 = .ok (.goto 4, 3) := by decide +kernel
theorem dX11_rests_71 : decode cX11_rests 71 = .ok (.iconst 0, 1) := by decide +kernel
theorem dX11_rests_72 : decode cX11_rests 72 = .ok (.iadd, 1) := by decide +kernel
theorem dX11_rests_73 : decode cX11_rests 73 = .ok (.istore_n 2, 1) := by decide +kernel
theorem dX11_rests_74 : decode cX11_rests 74 = .ok (.iload 5, 2) := by decide +kernel
theorem dX11_rests_76 : decode cX11_rests 76 = .ok (.ifCond .eq 8, 3) := by decide +kernel
theorem dX11_rests_79 : decode cX11_rests 79 = .ok (.iload 4, 2) := by decide +kernel
theorem dX11_rests_81 : decode cX11_rests 81 = .ok (.goto 4, 3) := by decide +kernel
theorem dX11_rests_84 : decode cX11_rests 84 = .ok (.iload_n 3, 1) := by decide +kernel
theorem dX11_rests_85 : decode cX11_rests 85 = .ok (.istore_n 3, 1) := by decide +kernel
theorem dX11_rests_86 : decode cX11_rests 86 = .ok (.iinc 4 (-1), 3) := by decide +kernel
theorem dX11_rests_89 : decode cX11_rests 89 = .ok (.goto (-51), 3) := by decide +kernel
theorem dX11_rests_92 : decode cX11_rests 92 = .ok (.iload_n 1, 1) := by decide +kernel
theorem dX11_rests_93 : decode cX11_rests 93 = .ok (.ifCond .ne 7, 3) := by decide +kernel
theorem dX11_rests_96 : decode cX11_rests 96 = .ok (.iload_n 2, 1) := by decide +kernel
theorem dX11_rests_97 : decode cX11_rests 97 = .ok (.goto 4, 3) := by decide +kernel
theorem dX11_rests_100 : decode cX11_rests 100 = .ok (.iload_n 3, 1) := by decide +kernel
theorem dX11_rests_101 : decode cX11_rests 101 = .ok (.ireturn, 1) := by decide +kernel
theorem dX11_gains_0 : decode cX11_gains 0 = .ok (.iload_n 1, 1) := by decide +kernel
theorem dX11_gains_1 : decode cX11_gains 1 = .ok (.iconst 0, 1) := by decide +kernel
theorem dX11_gains_2 : decode cX11_gains 2 = .ok (.iconst 1, 1) := by decide +kernel
theorem dX11_gains_3 : decode cX11_gains 3 = .ok (.aload_n 0, 1) := by decide +kernel
theorem dX11_gains_4 : decode cX11_gains 4 = .ok (.getfield 13, 3) := by decide +kernel
theorem dX11_gains_7 : decode cX11_gains 7 = .ok (.iconst 0, 1) := by decide +kernel
theorem dX11_gains_8 : decode cX11_gains 8 = .ok (.iaload, 1) := by decide +kernel
theorem dX11_gains_9 : decode cX11_gains 9 = .ok (.ishl, 1) := by decide +kernel
theorem dX11_gains_10 : decode cX11_gains 10 = .ok (.iconst 1, 1) := by decide +kernel
theorem dX11_gains_11 : decode cX11_gains 11 = .ok (.isub, 1) := by decide +kernel
theorem dX11_gains_12 : decode cX11_gains 12 = .ok (.invokestatic 72, 3) := by decide +kernel
theorem dX11_gains_15 : decode cX11_gains 15 = .ok (.ifCond .ne 5, 3) := by decide +kernel
theorem dX11_gains_18 : decode cX11_gains 18 = .ok (.iconst (-1), 1) := by decide +kernel
theorem dX11_gains_19 : decode cX11_gains 19 = .ok (.ireturn, 1) := by decide +kernel
theorem dX11_gains_20 : decode cX11_gains 20 = .ok (.aload_n 0, 1) := by decide +kernel
theorem dX11_gains_21 : decode cX11_gains 21 = .ok (.aload_n 0, 1) := by decide +kernel
theorem dX11_gains_22 : decode cX11_gains 22 = .ok (.getfield 53, 3) := by decide +kernel
theorem dX11_gains_25 : decode cX11_gains 25 = .ok (.iconst 0, 1) := by decide +kernel
theorem dX11_gains_26 : decode cX11_gains 26 = .ok (.iaload, 1) := by decide +kernel
theorem dX11_gains_27 : decode cX11_gains 27 = .ok (.invokevirtual 147, 3) := by decide +kernel
theorem dX11_gains_30 : decode cX11_gains 30 = .ok (.aload_n 0, 1) := by decide +kernel
theorem dX11_gains_31 : decode cX11_gains 31 = .ok (.iload_n 1, 1) := by decide +kernel
theorem dX11_gains_32 : decode cX11_gains 32 = .ok (.invokevirtual 205, 3) := by decide +kernel
theorem dX11_gains_35 : decode cX11_gains 35 = .ok (.ireturn, 1) := by decide +kernel
theorem dX11_fitsIn_0 : decode cX11_fitsIn 0 = .ok (.iconst 1, 1) := by decide +kernel
theorem dX11_fitsIn_1 : decode cX11_fitsIn 1 = .ok (.istore_n 2, 1) := by decide +kernel
theorem dX11_fitsIn_2 : decode cX11_fitsIn 2 = .ok (.iconst 0, 1) := by decide +kernel
theorem dX11_fitsIn_3 : decode cX11_fitsIn 3 = .ok (.istore_n 3, 1) := by decide +kernel
theorem dX11_fitsIn_4 : decode cX11_fitsIn 4 = .ok (.iload_n 3, 1) := by decide +kernel
theorem dX11_fitsIn_5 : decode cX11_fitsIn 5 = .ok (.aload_n 0, 1) := by decide +kernel
theorem dX11_fitsIn_6 : decode cX11_fitsIn 6 = .ok (.getfield 13, 3) := by decide +kernel
theorem dX11_fitsIn_9 : decode cX11_fitsIn 9 = .ok (.iconst 0, 1) := by decide +kernel
theorem dX11_fitsIn_10 : decode cX11_fitsIn 10 = .ok (.iaload, 1) := by decide +kernel
theorem dX11_fitsIn_11 : decode cX11_fitsIn 11 = .ok (.if_icmp .ge 29, 3) := by decide +kernel
theorem dX11_fitsIn_14 : decode cX11_fitsIn 14 = .ok (.iload_n 2, 1) := by decide +kernel
theorem dX11_fitsIn_15 : decode cX11_fitsIn 15 = .ok (.ifCond .eq 17, 3) := by decide +kernel
theorem dX11_fitsIn_18 : decode cX11_fitsIn 18 = .ok (.aload_n 0, 1) := by decide +kernel
theorem dX11_fitsIn_19 : decode cX11_fitsIn 19 = .ok (.getfield 63, 3) := by decide +kernel
theorem dX11_fitsIn_22 : decode cX11_fitsIn 22 = .ok (.iload_n 3, 1) := by decide +kernel
theorem dX11_fitsIn_23 : decode cX11_fitsIn 23 = .ok (.iaload, 1) := by decide +kernel
theorem dX11_fitsIn_24 : decode cX11_fitsIn 24 = .ok (.iload_n 1, 1) := by decide +kernel
theorem dX11_fitsIn_25 : decode cX11_fitsIn 25 = .ok (.if_icmp .gt 7, 3) := by decide +kernel
theorem dX11_fitsIn_28 : decode cX11_fitsIn 28 = .ok (.iconst 1, 1) := by decide +kernel
theorem dX11_fitsIn_29 : decode cX11_fitsIn 29 = .ok (.goto 4, 3) := by decide +kernel
theorem dX11_fitsIn_32 : decode cX11_fitsIn 32 = .ok (.iconst 0, 1) := by decide +kernel
theorem dX11_fitsIn_33 : decode cX11_fitsIn 33 = .ok (.istore_n 2, 1) := by decide +kernel
theorem dX11_fitsIn_34 : decode cX11_fitsIn 34 = .ok (.iinc 3 1, 3) := by decide +kernel
theorem dX11_fitsIn_37 : decode cX11_fitsIn 37 = .ok (.goto (-33), 3) := by decide +kernel
theorem dX11_fitsIn_40 : decode cX11_fitsIn 40 = .ok (.iload_n 2, 1) := by decide +kernel
theorem dX11_fitsIn_41 : decode cX11_fitsIn 41 = .ok (.ireturn, 1) := by decide +kernel
theorem dX11_cellsFor_0 : decode cX11_cellsFor 0 = .ok (.iload_n 1, 1) := by decide +kernel
theorem dX11_cellsFor_1 : decode cX11_cellsFor 1 = .ok (.iconst 1, 1) := by decide +kernel
theorem dX11_cellsFor_2 : decode cX11_cellsFor 2 = .ok (.bipush 60, 2) := by decide +kernel
theorem dX11_cellsFor_4 : decode cX11_cellsFor 4 = .ok (.invokestatic 72, 3) := by decide +kernel
theorem dX11_cellsFor_7 : decode cX11_cellsFor 7 = .ok (.ifCond .ne 5, 3) := by decide +kernel
theorem dX11_cellsFor_10 : decode cX11_cellsFor 10 = .ok (.iconst (-1), 1) := by decide +kernel
theorem dX11_cellsFor_11 : decode cX11_cellsFor 11 = .ok (.ireturn, 1) := by decide +kernel
theorem dX11_cellsFor_12 : decode cX11_cellsFor 12 = .ok (.aload_n 0, 1) := by decide +kernel
theorem dX11_cellsFor_13 : decode cX11_cellsFor 13 = .ok (.invokevirtual 172, 3) := by decide +kernel
theorem dX11_cellsFor_16 : decode cX11_cellsFor 16 = .ok (.istore_n 2, 1) := by decide +kernel
theorem dX11_cellsFor_17 : decode cX11_cellsFor 17 = .ok (.aload_n 0, 1) := by decide +kernel
theorem dX11_cellsFor_18 : decode cX11_cellsFor 18 = .ok (.iload_n 1, 1) := by decide +kernel
theorem dX11_cellsFor_19 : decode cX11_cellsFor 19 = .ok (.invokevirtual 208, 3) := by decide +kernel
theorem dX11_cellsFor_22 : decode cX11_cellsFor 22 = .ok (.ifCond .eq 13, 3) := by decide +kernel
theorem dX11_cellsFor_25 : decode cX11_cellsFor 25 = .ok (.iload_n 2, 1) := by decide +kernel
theorem dX11_cellsFor_26 : decode cX11_cellsFor 26 = .ok (.iload_n 1, 1) := by decide +kernel
theorem dX11_cellsFor_27 : decode cX11_cellsFor 27 = .ok (.iadd, 1) := by decide +kernel
theorem dX11_cellsFor_28 : decode cX11_cellsFor 28 = .ok (.iconst 1, 1) := by decide +kernel
theorem dX11_cellsFor_29 : decode cX11_cellsFor 29 = .ok (.isub, 1) := by decide +kernel
theorem dX11_cellsFor_30 : decode cX11_cellsFor 30 = .ok (.iload_n 1, 1) := by decide +kernel
theorem dX11_cellsFor_31 : decode cX11_cellsFor 31 = .ok (.idiv, 1) := by decide +kernel
theorem dX11_cellsFor_32 : decode cX11_cellsFor 32 = .ok (.goto 5, 3) := by decide +kernel
theorem dX11_cellsFor_35 : decode cX11_cellsFor 35 = .ok (.bipush (-9), 2) := by decide +kernel
theorem dX11_cellsFor_37 : decode cX11_cellsFor 37 = .ok (.ireturn, 1) := by decide +kernel
theorem dX11_sits_0 : decode cX11_sits 0 = .ok (.iload_n 1, 1) := by decide +kernel
theorem dX11_sits_1 : decode cX11_sits 1 = .ok (.iconst 1, 1) := by decide +kernel
theorem dX11_sits_2 : decode cX11_sits 2 = .ok (.bipush 60, 2) := by decide +kernel
theorem dX11_sits_4 : decode cX11_sits 4 = .ok (.invokestatic 72, 3) := by decide +kernel
theorem dX11_sits_7 : decode cX11_sits 7 = .ok (.ifCond .eq 22, 3) := by decide +kernel
theorem dX11_sits_10 : decode cX11_sits 10 = .ok (.aload_n 0, 1) := by decide +kernel
theorem dX11_sits_11 : decode cX11_sits 11 = .ok (.iload_n 2, 1) := by decide +kernel
theorem dX11_sits_12 : decode cX11_sits 12 = .ok (.invokevirtual 153, 3) := by decide +kernel
theorem dX11_sits_15 : decode cX11_sits 15 = .ok (.ifCond .eq 14, 3) := by decide +kernel
theorem dX11_sits_18 : decode cX11_sits 18 = .ok (.iload_n 3, 1) := by decide +kernel
theorem dX11_sits_19 : decode cX11_sits 19 = .ok (.iconst 0, 1) := by decide +kernel
theorem dX11_sits_20 : decode cX11_sits 20 = .ok (.iload_n 1, 1) := by decide +kernel
theorem dX11_sits_21 : decode cX11_sits 21 = .ok (.iconst 1, 1) := by decide +kernel
theorem dX11_sits_22 : decode cX11_sits 22 = .ok (.isub, 1) := by decide +kernel
theorem dX11_sits_23 : decode cX11_sits 23 = .ok (.invokestatic 72, 3) := by decide +kernel
theorem dX11_sits_26 : decode cX11_sits 26 = .ok (.ifCond .ne 5, 3) := by decide +kernel
theorem dX11_sits_29 : decode cX11_sits 29 = .ok (.iconst (-1), 1) := by decide +kernel
theorem dX11_sits_30 : decode cX11_sits 30 = .ok (.ireturn, 1) := by decide +kernel
theorem dX11_sits_31 : decode cX11_sits 31 = .ok (.aload_n 0, 1) := by decide +kernel
theorem dX11_sits_32 : decode cX11_sits 32 = .ok (.invokevirtual 156, 3) := by decide +kernel
theorem dX11_sits_35 : decode cX11_sits 35 = .ok (.aload_n 0, 1) := by decide +kernel
theorem dX11_sits_36 : decode cX11_sits 36 = .ok (.iload_n 1, 1) := by decide +kernel
theorem dX11_sits_37 : decode cX11_sits 37 = .ok (.invokevirtual 208, 3) := by decide +kernel
theorem dX11_sits_40 : decode cX11_sits 40 = .ok (.ifCond .ne 6, 3) := by decide +kernel
theorem dX11_sits_43 : decode cX11_sits 43 = .ok (.bipush (-9), 2) := by decide +kernel
theorem dX11_sits_45 : decode cX11_sits 45 = .ok (.ireturn, 1) := by decide +kernel
theorem dX11_sits_46 : decode cX11_sits 46 = .ok (.iconst 0, 1) := by decide +kernel
theorem dX11_sits_47 : decode cX11_sits 47 = .ok (.istore 4, 2) := by decide +kernel
theorem dX11_sits_49 : decode cX11_sits 49 = .ok (.iconst 0, 1) := by decide +kernel
theorem dX11_sits_50 : decode cX11_sits 50 = .ok (.istore 5, 2) := by decide +kernel
theorem dX11_sits_52 : decode cX11_sits 52 = .ok (.iload 5, 2) := by decide +kernel
theorem dX11_sits_54 : decode cX11_sits 54 = .ok (.iload_n 2, 1) := by decide +kernel
theorem dX11_sits_55 : decode cX11_sits 55 = .ok (.if_icmp .ge 21, 3) := by decide +kernel
theorem dX11_sits_58 : decode cX11_sits 58 = .ok (.iload 4, 2) := by decide +kernel
theorem dX11_sits_60 : decode cX11_sits 60 = .ok (.aload_n 0, 1) := by decide +kernel
theorem dX11_sits_61 : decode cX11_sits 61 = .ok (.getfield 63, 3) := by decide +kernel
theorem dX11_sits_64 : decode cX11_sits 64 = .ok (.iload 5, 2) := by decide +kernel
theorem dX11_sits_66 : decode cX11_sits 66 = .ok (.iaload, 1) := by decide +kernel
theorem dX11_sits_67 : decode cX11_sits 67 = .ok (.iadd, 1) := by decide +kernel
theorem dX11_sits_68 : decode cX11_sits 68 = .ok (.istore 4, 2) := by decide +kernel
theorem dX11_sits_70 : decode cX11_sits 70 = .ok (.iinc 5 1, 3) := by decide +kernel
theorem dX11_sits_73 : decode cX11_sits 73 = .ok (.goto (-21), 3) := by decide +kernel
theorem dX11_sits_76 : decode cX11_sits 76 = .ok (.iload 4, 2) := by decide +kernel
theorem dX11_sits_78 : decode cX11_sits 78 = .ok (.istore 5, 2) := by decide +kernel
theorem dX11_sits_80 : decode cX11_sits 80 = .ok (.iload 5, 2) := by decide +kernel
theorem dX11_sits_82 : decode cX11_sits 82 = .ok (.iload 4, 2) := by decide +kernel
theorem dX11_sits_84 : decode cX11_sits 84 = .ok (.aload_n 0, 1) := by decide +kernel
theorem dX11_sits_85 : decode cX11_sits 85 = .ok (.getfield 63, 3) := by decide +kernel
theorem dX11_sits_88 : decode cX11_sits 88 = .ok (.iload_n 2, 1) := by decide +kernel
theorem dX11_sits_89 : decode cX11_sits 89 = .ok (.iaload, 1) := by decide +kernel
theorem dX11_sits_90 : decode cX11_sits 90 = .ok (.iadd, 1) := by decide +kernel
theorem dX11_sits_91 : decode cX11_sits 91 = .ok (.if_icmp .ge 22, 3) := by decide +kernel
theorem dX11_sits_94 : decode cX11_sits 94 = .ok (.iload 5, 2) := by decide +kernel
theorem dX11_sits_96 : decode cX11_sits 96 = .ok (.iload_n 1, 1) := by decide +kernel
theorem dX11_sits_97 : decode cX11_sits 97 = .ok (.irem, 1) := by decide +kernel
theorem dX11_sits_98 : decode cX11_sits 98 = .ok (.iload_n 3, 1) := by decide +kernel
theorem dX11_sits_99 : decode cX11_sits 99 = .ok (.if_icmp .ne 8, 3) := by decide +kernel
theorem dX11_sits_102 : decode cX11_sits 102 = .ok (.iload 5, 2) := by decide +kernel
theorem dX11_sits_104 : decode cX11_sits 104 = .ok (.iload_n 1, 1) := by decide +kernel
theorem dX11_sits_105 : decode cX11_sits 105 = .ok (.idiv, 1) := by decide +kernel
theorem dX11_sits_106 : decode cX11_sits 106 = .ok (.ireturn, 1) := by decide +kernel
theorem dX11_sits_107 : decode cX11_sits 107 = .ok (.iinc 5 1, 3) := by decide +kernel
theorem dX11_sits_110 : decode cX11_sits 110 = .ok (.goto (-30), 3) := by decide +kernel
theorem dX11_sits_113 : decode cX11_sits 113 = .ok (.bipush (-9), 2) := by decide +kernel
theorem dX11_sits_115 : decode cX11_sits 115 = .ok (.ireturn, 1) := by decide +kernel
theorem dX11_byOther_0 : decode cX11_byOther 0 = .ok (.aload_n 0, 1) := by decide +kernel
theorem dX11_byOther_1 : decode cX11_byOther 1 = .ok (.getfield 53, 3) := by decide +kernel
theorem dX11_byOther_4 : decode cX11_byOther 4 = .ok (.iconst 2, 1) := by decide +kernel
theorem dX11_byOther_5 : decode cX11_byOther 5 = .ok (.iaload, 1) := by decide +kernel
theorem dX11_byOther_6 : decode cX11_byOther 6 = .ok (.aload_n 0, 1) := by decide +kernel
theorem dX11_byOther_7 : decode cX11_byOther 7 = .ok (.getfield 60, 3) := by decide +kernel
theorem dX11_byOther_10 : decode cX11_byOther 10 = .ok (.iload_n 1, 1) := by decide +kernel
theorem dX11_byOther_11 : decode cX11_byOther 11 = .ok (.iaload, 1) := by decide +kernel
theorem dX11_byOther_12 : decode cX11_byOther 12 = .ok (.imul, 1) := by decide +kernel
theorem dX11_byOther_13 : decode cX11_byOther 13 = .ok (.bipush 20, 2) := by decide +kernel
theorem dX11_byOther_15 : decode cX11_byOther 15 = .ok (.idiv, 1) := by decide +kernel
theorem dX11_byOther_16 : decode cX11_byOther 16 = .ok (.istore_n 2, 1) := by decide +kernel
theorem dX11_byOther_17 : decode cX11_byOther 17 = .ok (.iload_n 2, 1) := by decide +kernel
theorem dX11_byOther_18 : decode cX11_byOther 18 = .ok (.aload_n 0, 1) := by decide +kernel
theorem dX11_byOther_19 : decode cX11_byOther 19 = .ok (.getfield 53, 3) := by decide +kernel
theorem dX11_byOther_22 : decode cX11_byOther 22 = .ok (.iconst 2, 1) := by decide +kernel
theorem dX11_byOther_23 : decode cX11_byOther 23 = .ok (.iaload, 1) := by decide +kernel
theorem dX11_byOther_24 : decode cX11_byOther 24 = .ok (.if_icmp .le 12, 3) := by decide +kernel
theorem dX11_byOther_27 : decode cX11_byOther 27 = .ok (.aload_n 0, 1) := by decide +kernel
theorem dX11_byOther_28 : decode cX11_byOther 28 = .ok (.getfield 53, 3) := by decide +kernel
theorem dX11_byOther_31 : decode cX11_byOther 31 = .ok (.iconst 2, 1) := by decide +kernel
theorem dX11_byOther_32 : decode cX11_byOther 32 = .ok (.iaload, 1) := by decide +kernel
theorem dX11_byOther_33 : decode cX11_byOther 33 = .ok (.goto 4, 3) := by decide +kernel
theorem dX11_byOther_36 : decode cX11_byOther 36 = .ok (.iload_n 2, 1) := by decide +kernel
theorem dX11_byOther_37 : decode cX11_byOther 37 = .ok (.ireturn, 1) := by decide +kernel
theorem dX11_wronged_0 : decode cX11_wronged 0 = .ok (.iload_n 1, 1) := by decide +kernel
theorem dX11_wronged_1 : decode cX11_wronged 1 = .ok (.iconst (-1), 1) := by decide +kernel
theorem dX11_wronged_2 : decode cX11_wronged 2 = .ok (.if_icmp .eq 14, 3) := by decide +kernel
theorem dX11_wronged_5 : decode cX11_wronged 5 = .ok (.aload_n 0, 1) := by decide +kernel
theorem dX11_wronged_6 : decode cX11_wronged 6 = .ok (.iload_n 1, 1) := by decide +kernel
theorem dX11_wronged_7 : decode cX11_wronged 7 = .ok (.invokevirtual 153, 3) := by decide +kernel
theorem dX11_wronged_10 : decode cX11_wronged 10 = .ok (.ifCond .ne 6, 3) := by decide +kernel
theorem dX11_wronged_13 : decode cX11_wronged 13 = .ok (.ldc 162, 2) := by decide +kernel
theorem dX11_wronged_15 : decode cX11_wronged 15 = .ok (.ireturn, 1) := by decide +kernel
theorem dX11_wronged_16 : decode cX11_wronged 16 = .ok (.aload_n 0, 1) := by decide +kernel
theorem dX11_wronged_17 : decode cX11_wronged 17 = .ok (.invokevirtual 156, 3) := by decide +kernel
theorem dX11_wronged_20 : decode cX11_wronged 20 = .ok (.iconst 0, 1) := by decide +kernel
theorem dX11_wronged_21 : decode cX11_wronged 21 = .ok (.istore_n 2, 1) := by decide +kernel
theorem dX11_wronged_22 : decode cX11_wronged 22 = .ok (.iconst 0, 1) := by decide +kernel
theorem dX11_wronged_23 : decode cX11_wronged 23 = .ok (.istore_n 3, 1) := by decide +kernel
theorem dX11_wronged_24 : decode cX11_wronged 24 = .ok (.iload_n 3, 1) := by decide +kernel
theorem dX11_wronged_25 : decode cX11_wronged 25 = .ok (.aload_n 0, 1) := by decide +kernel
theorem dX11_wronged_26 : decode cX11_wronged 26 = .ok (.getfield 13, 3) := by decide +kernel
theorem dX11_wronged_29 : decode cX11_wronged 29 = .ok (.iconst 0, 1) := by decide +kernel
theorem dX11_wronged_30 : decode cX11_wronged 30 = .ok (.iaload, 1) := by decide +kernel
theorem dX11_wronged_31 : decode cX11_wronged 31 = .ok (.if_icmp .ge 39, 3) := by decide +kernel
theorem dX11_wronged_34 : decode cX11_wronged 34 = .ok (.aload_n 0, 1) := by decide +kernel
theorem dX11_wronged_35 : decode cX11_wronged 35 = .ok (.getfield 63, 3) := by decide +kernel
theorem dX11_wronged_38 : decode cX11_wronged 38 = .ok (.iload_n 3, 1) := by decide +kernel
theorem dX11_wronged_39 : decode cX11_wronged 39 = .ok (.iaload, 1) := by decide +kernel
theorem dX11_wronged_40 : decode cX11_wronged 40 = .ok (.aload_n 0, 1) := by decide +kernel
theorem dX11_wronged_41 : decode cX11_wronged 41 = .ok (.iload_n 3, 1) := by decide +kernel
theorem dX11_wronged_42 : decode cX11_wronged 42 = .ok (.invokevirtual 211, 3) := by decide +kernel
theorem dX11_wronged_45 : decode cX11_wronged 45 = .ok (.isub, 1) := by decide +kernel
theorem dX11_wronged_46 : decode cX11_wronged 46 = .ok (.istore 4, 2) := by decide +kernel
theorem dX11_wronged_48 : decode cX11_wronged 48 = .ok (.iload_n 2, 1) := by decide +kernel
theorem dX11_wronged_49 : decode cX11_wronged 49 = .ok (.iload 4, 2) := by decide +kernel
theorem dX11_wronged_51 : decode cX11_wronged 51 = .ok (.ifCond .ge 9, 3) := by decide +kernel
theorem dX11_wronged_54 : decode cX11_wronged 54 = .ok (.iload 4, 2) := by decide +kernel
theorem dX11_wronged_56 : decode cX11_wronged 56 = .ok (.ineg, 1) := by decide +kernel
theorem dX11_wronged_57 : decode cX11_wronged 57 = .ok (.goto 5, 3) := by decide +kernel
theorem dX11_wronged_60 : decode cX11_wronged 60 = .ok (.iload 4, 2) := by decide +kernel
theorem dX11_wronged_62 : decode cX11_wronged 62 = .ok (.iadd, 1) := by decide +kernel
theorem dX11_wronged_63 : decode cX11_wronged 63 = .ok (.istore_n 2, 1) := by decide +kernel
theorem dX11_wronged_64 : decode cX11_wronged 64 = .ok (.iinc 3 1, 3) := by decide +kernel
theorem dX11_wronged_67 : decode cX11_wronged 67 = .ok (.goto (-43), 3) := by decide +kernel
theorem dX11_wronged_70 : decode cX11_wronged 70 = .ok (.iload_n 1, 1) := by decide +kernel
theorem dX11_wronged_71 : decode cX11_wronged 71 = .ok (.iconst (-1), 1) := by decide +kernel
theorem dX11_wronged_72 : decode cX11_wronged 72 = .ok (.if_icmp .ne 7, 3) := by decide +kernel
theorem dX11_wronged_75 : decode cX11_wronged 75 = .ok (.iload_n 2, 1) := by decide +kernel
theorem dX11_wronged_76 : decode cX11_wronged 76 = .ok (.goto 15, 3) := by decide +kernel
theorem dX11_wronged_79 : decode cX11_wronged 79 = .ok (.aload_n 0, 1) := by decide +kernel
theorem dX11_wronged_80 : decode cX11_wronged 80 = .ok (.getfield 63, 3) := by decide +kernel
theorem dX11_wronged_83 : decode cX11_wronged 83 = .ok (.iload_n 1, 1) := by decide +kernel
theorem dX11_wronged_84 : decode cX11_wronged 84 = .ok (.iaload, 1) := by decide +kernel
theorem dX11_wronged_85 : decode cX11_wronged 85 = .ok (.aload_n 0, 1) := by decide +kernel
theorem dX11_wronged_86 : decode cX11_wronged 86 = .ok (.iload_n 1, 1) := by decide +kernel
theorem dX11_wronged_87 : decode cX11_wronged 87 = .ok (.invokevirtual 211, 3) := by decide +kernel
theorem dX11_wronged_90 : decode cX11_wronged 90 = .ok (.isub, 1) := by decide +kernel
theorem dX11_wronged_91 : decode cX11_wronged 91 = .ok (.ireturn, 1) := by decide +kernel
theorem dX11_book_0 : decode cX11_book 0 = .ok (.aload_n 0, 1) := by decide +kernel
theorem dX11_book_1 : decode cX11_book 1 = .ok (.iload_n 1, 1) := by decide +kernel
theorem dX11_book_2 : decode cX11_book 2 = .ok (.invokevirtual 153, 3) := by decide +kernel
theorem dX11_book_5 : decode cX11_book 5 = .ok (.ifCond .eq 13, 3) := by decide +kernel
theorem dX11_book_8 : decode cX11_book 8 = .ok (.iload_n 2, 1) := by decide +kernel
theorem dX11_book_9 : decode cX11_book 9 = .ok (.iconst 0, 1) := by decide +kernel
theorem dX11_book_10 : decode cX11_book 10 = .ok (.bipush 60, 2) := by decide +kernel
theorem dX11_book_12 : decode cX11_book 12 = .ok (.invokestatic 72, 3) := by decide +kernel
theorem dX11_book_15 : decode cX11_book 15 = .ok (.ifCond .ne 5, 3) := by decide +kernel
theorem dX11_book_18 : decode cX11_book 18 = .ok (.iconst (-1), 1) := by decide +kernel
theorem dX11_book_19 : decode cX11_book 19 = .ok (.ireturn, 1) := by decide +kernel
theorem dX11_book_20 : decode cX11_book 20 = .ok (.aload_n 0, 1) := by decide +kernel
theorem dX11_book_21 : decode cX11_book 21 = .ok (.getfield 134, 3) := by decide +kernel
theorem dX11_book_24 : decode cX11_book 24 = .ok (.bipush 6, 2) := by decide +kernel
theorem dX11_book_26 : decode cX11_book 26 = .ok (.if_icmp .ne 6, 3) := by decide +kernel
theorem dX11_book_29 : decode cX11_book 29 = .ok (.bipush (-3), 2) := by decide +kernel
theorem dX11_book_31 : decode cX11_book 31 = .ok (.ireturn, 1) := by decide +kernel
theorem dX11_book_32 : decode cX11_book 32 = .ok (.aload_n 0, 1) := by decide +kernel
theorem dX11_book_33 : decode cX11_book 33 = .ok (.getfield 66, 3) := by decide +kernel
theorem dX11_book_36 : decode cX11_book 36 = .ok (.aload_n 0, 1) := by decide +kernel
theorem dX11_book_37 : decode cX11_book 37 = .ok (.getfield 134, 3) := by decide +kernel
theorem dX11_book_40 : decode cX11_book 40 = .ok (.iload_n 1, 1) := by decide +kernel
theorem dX11_book_41 : decode cX11_book 41 = .ok (.iastore, 1) := by decide +kernel
theorem dX11_book_42 : decode cX11_book 42 = .ok (.aload_n 0, 1) := by decide +kernel
theorem dX11_book_43 : decode cX11_book 43 = .ok (.getfield 69, 3) := by decide +kernel
theorem dX11_book_46 : decode cX11_book 46 = .ok (.aload_n 0, 1) := by decide +kernel
theorem dX11_book_47 : decode cX11_book 47 = .ok (.getfield 134, 3) := by decide +kernel
theorem dX11_book_50 : decode cX11_book 50 = .ok (.iload_n 2, 1) := by decide +kernel
theorem dX11_book_51 : decode cX11_book 51 = .ok (.iastore, 1) := by decide +kernel
theorem dX11_book_52 : decode cX11_book 52 = .ok (.aload_n 0, 1) := by decide +kernel
theorem dX11_book_53 : decode cX11_book 53 = .ok (.dup, 1) := by decide +kernel
theorem dX11_book_54 : decode cX11_book 54 = .ok (.getfield 134, 3) := by decide +kernel
theorem dX11_book_57 : decode cX11_book 57 = .ok (.iconst 1, 1) := by decide +kernel
theorem dX11_book_58 : decode cX11_book 58 = .ok (.iadd, 1) := by decide +kernel
theorem dX11_book_59 : decode cX11_book 59 = .ok (.putfield 134, 3) := by decide +kernel
theorem dX11_book_62 : decode cX11_book 62 = .ok (.aload_n 0, 1) := by decide +kernel
theorem dX11_book_63 : decode cX11_book 63 = .ok (.getfield 134, 3) := by decide +kernel
theorem dX11_book_66 : decode cX11_book 66 = .ok (.ireturn, 1) := by decide +kernel
theorem dX11_burn_0 : decode cX11_burn 0 = .ok (.aload_n 0, 1) := by decide +kernel
theorem dX11_burn_1 : decode cX11_burn 1 = .ok (.getfield 134, 3) := by decide +kernel
theorem dX11_burn_4 : decode cX11_burn 4 = .ok (.istore_n 1, 1) := by decide +kernel
theorem dX11_burn_5 : decode cX11_burn 5 = .ok (.aload_n 0, 1) := by decide +kernel
theorem dX11_burn_6 : decode cX11_burn 6 = .ok (.iconst 0, 1) := by decide +kernel
theorem dX11_burn_7 : decode cX11_burn 7 = .ok (.putfield 134, 3) := by decide +kernel
theorem dX11_burn_10 : decode cX11_burn 10 = .ok (.iload_n 1, 1) := by decide +kernel
theorem dX11_burn_11 : decode cX11_burn 11 = .ok (.ireturn, 1) := by decide +kernel
theorem dX11_books_0 : decode cX11_books 0 = .ok (.iload_n 1, 1) := by decide +kernel
theorem dX11_books_1 : decode cX11_books 1 = .ok (.iconst 0, 1) := by decide +kernel
theorem dX11_books_2 : decode cX11_books 2 = .ok (.iconst 2, 1) := by decide +kernel
theorem dX11_books_3 : decode cX11_books 3 = .ok (.invokestatic 72, 3) := by decide +kernel
theorem dX11_books_6 : decode cX11_books 6 = .ok (.ifCond .ne 5, 3) := by decide +kernel
theorem dX11_books_9 : decode cX11_books 9 = .ok (.iconst (-1), 1) := by decide +kernel
theorem dX11_books_10 : decode cX11_books 10 = .ok (.ireturn, 1) := by decide +kernel
theorem dX11_books_11 : decode cX11_books 11 = .ok (.iconst 0, 1) := by decide +kernel
theorem dX11_books_12 : decode cX11_books 12 = .ok (.istore_n 2, 1) := by decide +kernel
theorem dX11_books_13 : decode cX11_books 13 = .ok (.bipush (-9), 2) := by decide +kernel
theorem dX11_books_15 : decode cX11_books 15 = .ok (.istore_n 3, 1) := by decide +kernel
theorem dX11_books_16 : decode cX11_books 16 = .ok (.sipush 255, 3) := by decide +kernel
theorem dX11_books_19 : decode cX11_books 19 = .ok (.istore 4, 2) := by decide +kernel
theorem dX11_books_21 : decode cX11_books 21 = .ok (.iconst 1, 1) := by decide +kernel
theorem dX11_books_22 : decode cX11_books 22 = .ok (.aload_n 0, 1) := by decide +kernel
theorem dX11_books_23 : decode cX11_books 23 = .ok (.getfield 20, 3) := by decide +kernel
theorem dX11_books_26 : decode cX11_books 26 = .ok (.iconst 0, 1) := by decide +kernel
theorem dX11_books_27 : decode cX11_books 27 = .ok (.iaload, 1) := by decide +kernel
theorem dX11_books_28 : decode cX11_books 28 = .ok (.ishl, 1) := by decide +kernel
theorem dX11_books_29 : decode cX11_books 29 = .ok (.iconst 1, 1) := by decide +kernel
theorem dX11_books_30 : decode cX11_books 30 = .ok (.isub, 1) := by decide +kernel
theorem dX11_books_31 : decode cX11_books 31 = .ok (.istore 5, 2) := by decide +kernel
theorem dX11_books_33 : decode cX11_books 33 = .ok (.iload 5, 2) := by decide +kernel
theorem dX11_books_35 : decode cX11_books 35 = .ok (.ifCond .lt 117, 3) := by decide +kernel
theorem dX11_books_38 : decode cX11_books 38 = .ok (.aload_n 0, 1) := by decide +kernel
theorem dX11_books_39 : decode cX11_books 39 = .ok (.iload 5, 2) := by decide +kernel
theorem dX11_books_41 : decode cX11_books 41 = .ok (.invokevirtual 147, 3) := by decide +kernel
theorem dX11_books_44 : decode cX11_books 44 = .ok (.aload_n 0, 1) := by decide +kernel
theorem dX11_books_45 : decode cX11_books 45 = .ok (.invokevirtual 150, 3) := by decide +kernel
theorem dX11_books_48 : decode cX11_books 48 = .ok (.iconst 1, 1) := by decide +kernel
theorem dX11_books_49 : decode cX11_books 49 = .ok (.istore 6, 2) := by decide +kernel
theorem dX11_books_51 : decode cX11_books 51 = .ok (.iconst 0, 1) := by decide +kernel
theorem dX11_books_52 : decode cX11_books 52 = .ok (.istore 7, 2) := by decide +kernel
theorem dX11_books_54 : decode cX11_books 54 = .ok (.iload 7, 2) := by decide +kernel
theorem dX11_books_56 : decode cX11_books 56 = .ok (.aload_n 0, 1) := by decide +kernel
theorem dX11_books_57 : decode cX11_books 57 = .ok (.getfield 134, 3) := by decide +kernel
theorem dX11_books_60 : decode cX11_books 60 = .ok (.if_icmp .ge 43, 3) := by decide +kernel
theorem dX11_books_63 : decode cX11_books 63 = .ok (.iload 6, 2) := by decide +kernel
theorem dX11_books_65 : decode cX11_books 65 = .ok (.ifCond .eq 29, 3) := by decide +kernel
theorem dX11_books_68 : decode cX11_books 68 = .ok (.aload_n 0, 1) := by decide +kernel
theorem dX11_books_69 : decode cX11_books 69 = .ok (.getfield 63, 3) := by decide +kernel
theorem dX11_books_72 : decode cX11_books 72 = .ok (.aload_n 0, 1) := by decide +kernel
theorem dX11_books_73 : decode cX11_books 73 = .ok (.getfield 66, 3) := by decide +kernel
theorem dX11_books_76 : decode cX11_books 76 = .ok (.iload 7, 2) := by decide +kernel
theorem dX11_books_78 : decode cX11_books 78 = .ok (.iaload, 1) := by decide +kernel
theorem dX11_books_79 : decode cX11_books 79 = .ok (.iaload, 1) := by decide +kernel
theorem dX11_books_80 : decode cX11_books 80 = .ok (.aload_n 0, 1) := by decide +kernel
theorem dX11_books_81 : decode cX11_books 81 = .ok (.getfield 69, 3) := by decide +kernel
theorem dX11_books_84 : decode cX11_books 84 = .ok (.iload 7, 2) := by decide +kernel
theorem dX11_books_86 : decode cX11_books 86 = .ok (.iaload, 1) := by decide +kernel
theorem dX11_books_87 : decode cX11_books 87 = .ok (.if_icmp .ne 7, 3) := by decide +kernel
theorem dX11_books_90 : decode cX11_books 90 = .ok (.iconst 1, 1) := by decide +kernel
theorem dX11_books_91 : decode cX11_books 91 = .ok (.goto 4, 3) := by decide +kernel
theorem dX11_books_94 : decode cX11_books 94 = .ok (.iconst 0, 1) := by decide +kernel
theorem dX11_books_95 : decode cX11_books 95 = .ok (.istore 6, 2) := by decide +kernel
theorem dX11_books_97 : decode cX11_books 97 = .ok (.iinc 7 1, 3) := by decide +kernel
theorem dX11_books_100 : decode cX11_books 100 = .ok (.goto (-46), 3) := by decide +kernel
theorem dX11_books_103 : decode cX11_books 103 = .ok (.iload_n 2, 1) := by decide +kernel
theorem dX11_books_104 : decode cX11_books 104 = .ok (.iload 6, 2) := by decide +kernel
theorem dX11_books_106 : decode cX11_books 106 = .ok (.ifCond .eq 7, 3) := by decide +kernel
theorem dX11_books_109 : decode cX11_books 109 = .ok (.iconst 1, 1) := by decide +kernel
theorem dX11_books_110 : decode cX11_books 110 = .ok (.goto 4, 3) := by decide +kernel
theorem dX11_books_113 : decode cX11_books 113 = .ok (.iconst 0, 1) := by decide +kernel
theorem dX11_books_114 : decode cX11_books 114 = .ok (.iadd, 1) := by decide +kernel
theorem dX11_books_115 : decode cX11_books 115 = .ok (.istore_n 2, 1) := by decide +kernel
theorem dX11_books_116 : decode cX11_books 116 = .ok (.iload 6, 2) := by decide +kernel
theorem dX11_books_118 : decode cX11_books 118 = .ok (.ifCond .eq 8, 3) := by decide +kernel
theorem dX11_books_121 : decode cX11_books 121 = .ok (.iload 5, 2) := by decide +kernel
theorem dX11_books_123 : decode cX11_books 123 = .ok (.goto 4, 3) := by decide +kernel
theorem dX11_books_126 : decode cX11_books 126 = .ok (.iload_n 3, 1) := by decide +kernel
theorem dX11_books_127 : decode cX11_books 127 = .ok (.istore_n 3, 1) := by decide +kernel
theorem dX11_books_128 : decode cX11_books 128 = .ok (.iload 4, 2) := by decide +kernel
theorem dX11_books_130 : decode cX11_books 130 = .ok (.iload 6, 2) := by decide +kernel
theorem dX11_books_132 : decode cX11_books 132 = .ok (.ifCond .eq 8, 3) := by decide +kernel
theorem dX11_books_135 : decode cX11_books 135 = .ok (.iload 5, 2) := by decide +kernel
theorem dX11_books_137 : decode cX11_books 137 = .ok (.goto 6, 3) := by decide +kernel
theorem dX11_books_140 : decode cX11_books 140 = .ok (.sipush 255, 3) := by decide +kernel
theorem dX11_books_143 : decode cX11_books 143 = .ok (.iand, 1) := by decide +kernel
theorem dX11_books_144 : decode cX11_books 144 = .ok (.istore 4, 2) := by decide +kernel
theorem dX11_books_146 : decode cX11_books 146 = .ok (.iinc 5 (-1), 3) := by decide +kernel
theorem dX11_books_149 : decode cX11_books 149 = .ok (.goto (-116), 3) := by decide +kernel
theorem dX11_books_152 : decode cX11_books 152 = .ok (.iload_n 1, 1) := by decide +kernel
theorem dX11_books_153 : decode cX11_books 153 = .ok (.ifCond .ne 7, 3) := by decide +kernel
theorem dX11_books_156 : decode cX11_books 156 = .ok (.iload_n 2, 1) := by decide +kernel
theorem dX11_books_157 : decode cX11_books 157 = .ok (.goto 23, 3) := by decide +kernel
theorem dX11_books_160 : decode cX11_books 160 = .ok (.iload_n 2, 1) := by decide +kernel
theorem dX11_books_161 : decode cX11_books 161 = .ok (.ifCond .ne 8, 3) := by decide +kernel
theorem dX11_books_164 : decode cX11_books 164 = .ok (.bipush (-9), 2) := by decide +kernel
theorem dX11_books_166 : decode cX11_books 166 = .ok (.goto 14, 3) := by decide +kernel
theorem dX11_books_169 : decode cX11_books 169 = .ok (.iload_n 1, 1) := by decide +kernel
theorem dX11_books_170 : decode cX11_books 170 = .ok (.iconst 1, 1) := by decide +kernel
theorem dX11_books_171 : decode cX11_books 171 = .ok (.if_icmp .ne 7, 3) := by decide +kernel
theorem dX11_books_174 : decode cX11_books 174 = .ok (.iload_n 3, 1) := by decide +kernel
theorem dX11_books_175 : decode cX11_books 175 = .ok (.goto 5, 3) := by decide +kernel
theorem dX11_books_178 : decode cX11_books 178 = .ok (.iload 4, 2) := by decide +kernel
theorem dX11_books_180 : decode cX11_books 180 = .ok (.ireturn, 1) := by decide +kernel
theorem dX11_innocent_0 : decode cX11_innocent 0 = .ok (.aload_n 0, 1) := by decide +kernel
theorem dX11_innocent_1 : decode cX11_innocent 1 = .ok (.iload_n 1, 1) := by decide +kernel
theorem dX11_innocent_2 : decode cX11_innocent 2 = .ok (.invokevirtual 153, 3) := by decide +kernel
theorem dX11_innocent_5 : decode cX11_innocent 5 = .ok (.ifCond .ne 5, 3) := by decide +kernel
theorem dX11_innocent_8 : decode cX11_innocent 8 = .ok (.iconst (-1), 1) := by decide +kernel
theorem dX11_innocent_9 : decode cX11_innocent 9 = .ok (.ireturn, 1) := by decide +kernel
theorem dX11_innocent_10 : decode cX11_innocent 10 = .ok (.iconst 0, 1) := by decide +kernel
theorem dX11_innocent_11 : decode cX11_innocent 11 = .ok (.istore_n 2, 1) := by decide +kernel
theorem dX11_innocent_12 : decode cX11_innocent 12 = .ok (.iconst 0, 1) := by decide +kernel
theorem dX11_innocent_13 : decode cX11_innocent 13 = .ok (.istore_n 3, 1) := by decide +kernel
theorem dX11_innocent_14 : decode cX11_innocent 14 = .ok (.iload_n 3, 1) := by decide +kernel
theorem dX11_innocent_15 : decode cX11_innocent 15 = .ok (.iconst 1, 1) := by decide +kernel
theorem dX11_innocent_16 : decode cX11_innocent 16 = .ok (.aload_n 0, 1) := by decide +kernel
theorem dX11_innocent_17 : decode cX11_innocent 17 = .ok (.getfield 20, 3) := by decide +kernel
theorem dX11_innocent_20 : decode cX11_innocent 20 = .ok (.iconst 0, 1) := by decide +kernel
theorem dX11_innocent_21 : decode cX11_innocent 21 = .ok (.iaload, 1) := by decide +kernel
theorem dX11_innocent_22 : decode cX11_innocent 22 = .ok (.ishl, 1) := by decide +kernel
theorem dX11_innocent_23 : decode cX11_innocent 23 = .ok (.if_icmp .ge 26, 3) := by decide +kernel
theorem dX11_innocent_26 : decode cX11_innocent 26 = .ok (.iload_n 2, 1) := by decide +kernel
theorem dX11_innocent_27 : decode cX11_innocent 27 = .ok (.aload_n 0, 1) := by decide +kernel
theorem dX11_innocent_28 : decode cX11_innocent 28 = .ok (.iload_n 1, 1) := by decide +kernel
theorem dX11_innocent_29 : decode cX11_innocent 29 = .ok (.iload_n 3, 1) := by decide +kernel
theorem dX11_innocent_30 : decode cX11_innocent 30 = .ok (.invokevirtual 144, 3) := by decide +kernel
theorem dX11_innocent_33 : decode cX11_innocent 33 = .ok (.ifCond .ne 7, 3) := by decide +kernel
theorem dX11_innocent_36 : decode cX11_innocent 36 = .ok (.iconst 1, 1) := by decide +kernel
theorem dX11_innocent_37 : decode cX11_innocent 37 = .ok (.goto 4, 3) := by decide +kernel
theorem dX11_innocent_40 : decode cX11_innocent 40 = .ok (.iconst 0, 1) := by decide +kernel
theorem dX11_innocent_41 : decode cX11_innocent 41 = .ok (.iadd, 1) := by decide +kernel
theorem dX11_innocent_42 : decode cX11_innocent 42 = .ok (.istore_n 2, 1) := by decide +kernel
theorem dX11_innocent_43 : decode cX11_innocent 43 = .ok (.iinc 3 1, 3) := by decide +kernel
theorem dX11_innocent_46 : decode cX11_innocent 46 = .ok (.goto (-32), 3) := by decide +kernel
theorem dX11_innocent_49 : decode cX11_innocent 49 = .ok (.iload_n 2, 1) := by decide +kernel
theorem dX11_innocent_50 : decode cX11_innocent 50 = .ok (.ireturn, 1) := by decide +kernel
theorem dX11_mark_0 : decode cX11_mark 0 = .ok (.iload_n 1, 1) := by decide +kernel
theorem dX11_mark_1 : decode cX11_mark 1 = .ok (.iconst 0, 1) := by decide +kernel
theorem dX11_mark_2 : decode cX11_mark 2 = .ok (.iconst 5, 1) := by decide +kernel
theorem dX11_mark_3 : decode cX11_mark 3 = .ok (.invokestatic 72, 3) := by decide +kernel
theorem dX11_mark_6 : decode cX11_mark 6 = .ok (.ifCond .eq 11, 3) := by decide +kernel
theorem dX11_mark_9 : decode cX11_mark 9 = .ok (.aload_n 0, 1) := by decide +kernel
theorem dX11_mark_10 : decode cX11_mark 10 = .ok (.iload_n 2, 1) := by decide +kernel
theorem dX11_mark_11 : decode cX11_mark 11 = .ok (.invokevirtual 153, 3) := by decide +kernel
theorem dX11_mark_14 : decode cX11_mark 14 = .ok (.ifCond .ne 6, 3) := by decide +kernel
theorem dX11_mark_17 : decode cX11_mark 17 = .ok (.ldc 162, 2) := by decide +kernel
theorem dX11_mark_19 : decode cX11_mark 19 = .ok (.ireturn, 1) := by decide +kernel
theorem dX11_mark_20 : decode cX11_mark 20 = .ok (.aload_n 0, 1) := by decide +kernel
theorem dX11_mark_21 : decode cX11_mark 21 = .ok (.iload_n 2, 1) := by decide +kernel
theorem dX11_mark_22 : decode cX11_mark 22 = .ok (.aload_n 0, 1) := by decide +kernel
theorem dX11_mark_23 : decode cX11_mark 23 = .ok (.getfield 53, 3) := by decide +kernel
theorem dX11_mark_26 : decode cX11_mark 26 = .ok (.iconst 0, 1) := by decide +kernel
theorem dX11_mark_27 : decode cX11_mark 27 = .ok (.iaload, 1) := by decide +kernel
theorem dX11_mark_28 : decode cX11_mark 28 = .ok (.invokevirtual 144, 3) := by decide +kernel
theorem dX11_mark_31 : decode cX11_mark 31 = .ok (.istore_n 3, 1) := by decide +kernel
theorem dX11_mark_32 : decode cX11_mark 32 = .ok (.iconst 0, 1) := by decide +kernel
theorem dX11_mark_33 : decode cX11_mark 33 = .ok (.istore 4, 2) := by decide +kernel
theorem dX11_mark_35 : decode cX11_mark 35 = .ok (.iconst 0, 1) := by decide +kernel
theorem dX11_mark_36 : decode cX11_mark 36 = .ok (.istore 5, 2) := by decide +kernel
theorem dX11_mark_38 : decode cX11_mark 38 = .ok (.iload 5, 2) := by decide +kernel
theorem dX11_mark_40 : decode cX11_mark 40 = .ok (.aload_n 0, 1) := by decide +kernel
theorem dX11_mark_41 : decode cX11_mark 41 = .ok (.getfield 32, 3) := by decide +kernel
theorem dX11_mark_44 : decode cX11_mark 44 = .ok (.iconst 0, 1) := by decide +kernel
theorem dX11_mark_45 : decode cX11_mark 45 = .ok (.iaload, 1) := by decide +kernel
theorem dX11_mark_46 : decode cX11_mark 46 = .ok (.if_icmp .ge 30, 3) := by decide +kernel
theorem dX11_mark_49 : decode cX11_mark 49 = .ok (.iload 4, 2) := by decide +kernel
theorem dX11_mark_51 : decode cX11_mark 51 = .ok (.aload_n 0, 1) := by decide +kernel
theorem dX11_mark_52 : decode cX11_mark 52 = .ok (.getfield 35, 3) := by decide +kernel
theorem dX11_mark_55 : decode cX11_mark 55 = .ok (.iload 5, 2) := by decide +kernel
theorem dX11_mark_57 : decode cX11_mark 57 = .ok (.iaload, 1) := by decide +kernel
theorem dX11_mark_58 : decode cX11_mark 58 = .ok (.iload_n 2, 1) := by decide +kernel
theorem dX11_mark_59 : decode cX11_mark 59 = .ok (.if_icmp .ne 7, 3) := by decide +kernel
theorem dX11_mark_62 : decode cX11_mark 62 = .ok (.iconst 1, 1) := by decide +kernel
theorem dX11_mark_63 : decode cX11_mark 63 = .ok (.goto 4, 3) := by decide +kernel
theorem dX11_mark_66 : decode cX11_mark 66 = .ok (.iconst 0, 1) := by decide +kernel
theorem dX11_mark_67 : decode cX11_mark 67 = .ok (.iadd, 1) := by decide +kernel
theorem dX11_mark_68 : decode cX11_mark 68 = .ok (.istore 4, 2) := by decide +kernel
theorem dX11_mark_70 : decode cX11_mark 70 = .ok (.iinc 5 1, 3) := by decide +kernel
theorem dX11_mark_73 : decode cX11_mark 73 = .ok (.goto (-35), 3) := by decide +kernel
theorem dX11_mark_76 : decode cX11_mark 76 = .ok (.iload_n 1, 1) := by decide +kernel
theorem dX11_mark_77 : decode cX11_mark 77 = .ok (.tableswitch 127 0 4 #[35, 47, 68, 85, 108], 35) := by decide +kernel
theorem dX11_mark_112 : decode cX11_mark 112 = .ok (.aload_n 0, 1) := by decide +kernel
theorem dX11_mark_113 : decode cX11_mark 113 = .ok (.dup, 1) := by decide +kernel
theorem dX11_mark_114 : decode cX11_mark 114 = .ok (.getfield 214, 3) := by decide +kernel
theorem dX11_mark_117 : decode cX11_mark 117 = .ok (.lconst 1, 1) := by decide +kernel
theorem dX11_mark_118 : decode cX11_mark 118 = .ok (.ladd, 1) := by decide +kernel
theorem dX11_mark_119 : decode cX11_mark 119 = .ok (.putfield 214, 3) := by decide +kernel
theorem dX11_mark_122 : decode cX11_mark 122 = .ok (.iload_n 3, 1) := by decide +kernel
theorem dX11_mark_123 : decode cX11_mark 123 = .ok (.ireturn, 1) := by decide +kernel
theorem dX11_mark_124 : decode cX11_mark 124 = .ok (.aload_n 0, 1) := by decide +kernel
theorem dX11_mark_125 : decode cX11_mark 125 = .ok (.dup, 1) := by decide +kernel
theorem dX11_mark_126 : decode cX11_mark 126 = .ok (.getfield 214, 3) := by decide +kernel
theorem dX11_mark_129 : decode cX11_mark 129 = .ok (.ldc2_w 218, 3) := by decide +kernel
theorem dX11_mark_132 : decode cX11_mark 132 = .ok (.ladd, 1) := by decide +kernel
theorem dX11_mark_133 : decode cX11_mark 133 = .ok (.putfield 214, 3) := by decide +kernel
theorem dX11_mark_136 : decode cX11_mark 136 = .ok (.iload_n 3, 1) := by decide +kernel
theorem dX11_mark_137 : decode cX11_mark 137 = .ok (.aload_n 0, 1) := by decide +kernel
theorem dX11_mark_138 : decode cX11_mark 138 = .ok (.getfield 17, 3) := by decide +kernel
theorem dX11_mark_141 : decode cX11_mark 141 = .ok (.iload_n 2, 1) := by decide +kernel
theorem dX11_mark_142 : decode cX11_mark 142 = .ok (.iaload, 1) := by decide +kernel
theorem dX11_mark_143 : decode cX11_mark 143 = .ok (.iadd, 1) := by decide +kernel
theorem dX11_mark_144 : decode cX11_mark 144 = .ok (.ireturn, 1) := by decide +kernel
theorem dX11_mark_145 : decode cX11_mark 145 = .ok (.aload_n 0, 1) := by decide +kernel
theorem dX11_mark_146 : decode cX11_mark 146 = .ok (.dup, 1) := by decide +kernel
theorem dX11_mark_147 : decode cX11_mark 147 = .ok (.getfield 214, 3) := by decide +kernel
theorem dX11_mark_150 : decode cX11_mark 150 = .ok (.ldc2_w 220, 3) := by decide +kernel
theorem dX11_mark_153 : decode cX11_mark 153 = .ok (.ladd, 1) := by decide +kernel
theorem dX11_mark_154 : decode cX11_mark 154 = .ok (.putfield 214, 3) := by decide +kernel
theorem dX11_mark_157 : decode cX11_mark 157 = .ok (.iload_n 3, 1) := by decide +kernel
theorem dX11_mark_158 : decode cX11_mark 158 = .ok (.iload 4, 2) := by decide +kernel
theorem dX11_mark_160 : decode cX11_mark 160 = .ok (.isub, 1) := by decide +kernel
theorem dX11_mark_161 : decode cX11_mark 161 = .ok (.ireturn, 1) := by decide +kernel
theorem dX11_mark_162 : decode cX11_mark 162 = .ok (.aload_n 0, 1) := by decide +kernel
theorem dX11_mark_163 : decode cX11_mark 163 = .ok (.dup, 1) := by decide +kernel
theorem dX11_mark_164 : decode cX11_mark 164 = .ok (.getfield 214, 3) := by decide +kernel
theorem dX11_mark_167 : decode cX11_mark 167 = .ok (.ldc2_w 222, 3) := by decide +kernel
theorem dX11_mark_170 : decode cX11_mark 170 = .ok (.ladd, 1) := by decide +kernel
theorem dX11_mark_171 : decode cX11_mark 171 = .ok (.putfield 214, 3) := by decide +kernel
theorem dX11_mark_174 : decode cX11_mark 174 = .ok (.iconst 2, 1) := by decide +kernel
theorem dX11_mark_175 : decode cX11_mark 175 = .ok (.iload_n 3, 1) := by decide +kernel
theorem dX11_mark_176 : decode cX11_mark 176 = .ok (.aload_n 0, 1) := by decide +kernel
theorem dX11_mark_177 : decode cX11_mark 177 = .ok (.getfield 17, 3) := by decide +kernel
theorem dX11_mark_180 : decode cX11_mark 180 = .ok (.iload_n 2, 1) := by decide +kernel
theorem dX11_mark_181 : decode cX11_mark 181 = .ok (.iaload, 1) := by decide +kernel
theorem dX11_mark_182 : decode cX11_mark 182 = .ok (.iadd, 1) := by decide +kernel
theorem dX11_mark_183 : decode cX11_mark 183 = .ok (.imul, 1) := by decide +kernel
theorem dX11_mark_184 : decode cX11_mark 184 = .ok (.ireturn, 1) := by decide +kernel
theorem dX11_mark_185 : decode cX11_mark 185 = .ok (.aload_n 0, 1) := by decide +kernel
theorem dX11_mark_186 : decode cX11_mark 186 = .ok (.dup, 1) := by decide +kernel
theorem dX11_mark_187 : decode cX11_mark 187 = .ok (.getfield 214, 3) := by decide +kernel
theorem dX11_mark_190 : decode cX11_mark 190 = .ok (.ldc2_w 224, 3) := by decide +kernel
theorem dX11_mark_193 : decode cX11_mark 193 = .ok (.ladd, 1) := by decide +kernel
theorem dX11_mark_194 : decode cX11_mark 194 = .ok (.putfield 214, 3) := by decide +kernel
theorem dX11_mark_197 : decode cX11_mark 197 = .ok (.iload_n 3, 1) := by decide +kernel
theorem dX11_mark_198 : decode cX11_mark 198 = .ok (.iload 4, 2) := by decide +kernel
theorem dX11_mark_200 : decode cX11_mark 200 = .ok (.isub, 1) := by decide +kernel
theorem dX11_mark_201 : decode cX11_mark 201 = .ok (.iload_n 2, 1) := by decide +kernel
theorem dX11_mark_202 : decode cX11_mark 202 = .ok (.iadd, 1) := by decide +kernel
theorem dX11_mark_203 : decode cX11_mark 203 = .ok (.ireturn, 1) := by decide +kernel
theorem dX11_mark_204 : decode cX11_mark 204 = .ok (.aload_n 0, 1) := by decide +kernel
theorem dX11_mark_205 : decode cX11_mark 205 = .ok (.dup, 1) := by decide +kernel
theorem dX11_mark_206 : decode cX11_mark 206 = .ok (.getfield 214, 3) := by decide +kernel
theorem dX11_mark_209 : decode cX11_mark 209 = .ok (.ldc2_w 226, 3) := by decide +kernel
theorem dX11_mark_212 : decode cX11_mark 212 = .ok (.ladd, 1) := by decide +kernel
theorem dX11_mark_213 : decode cX11_mark 213 = .ok (.putfield 214, 3) := by decide +kernel
theorem dX11_mark_216 : decode cX11_mark 216 = .ok (.iload_n 3, 1) := by decide +kernel
theorem dX11_mark_217 : decode cX11_mark 217 = .ok (.aload_n 0, 1) := by decide +kernel
theorem dX11_mark_218 : decode cX11_mark 218 = .ok (.getfield 53, 3) := by decide +kernel
theorem dX11_mark_221 : decode cX11_mark 221 = .ok (.iconst 0, 1) := by decide +kernel
theorem dX11_mark_222 : decode cX11_mark 222 = .ok (.iaload, 1) := by decide +kernel
theorem dX11_mark_223 : decode cX11_mark 223 = .ok (.invokestatic 193, 3) := by decide +kernel
theorem dX11_mark_226 : decode cX11_mark 226 = .ok (.iadd, 1) := by decide +kernel
theorem dX11_mark_227 : decode cX11_mark 227 = .ok (.ireturn, 1) := by decide +kernel
theorem dX11_copy_0 : decode cX11_copy 0 = .ok (.iconst 0, 1) := by decide +kernel
theorem dX11_copy_1 : decode cX11_copy 1 = .ok (.istore_n 3, 1) := by decide +kernel
theorem dX11_copy_2 : decode cX11_copy 2 = .ok (.iload_n 3, 1) := by decide +kernel
theorem dX11_copy_3 : decode cX11_copy 3 = .ok (.bipush 34, 2) := by decide +kernel
theorem dX11_copy_5 : decode cX11_copy 5 = .ok (.if_icmp .ge 25, 3) := by decide +kernel
theorem dX11_copy_8 : decode cX11_copy 8 = .ok (.aload_n 0, 1) := by decide +kernel
theorem dX11_copy_9 : decode cX11_copy 9 = .ok (.getfield 53, 3) := by decide +kernel
theorem dX11_copy_12 : decode cX11_copy 12 = .ok (.iload_n 2, 1) := by decide +kernel
theorem dX11_copy_13 : decode cX11_copy 13 = .ok (.iload_n 3, 1) := by decide +kernel
theorem dX11_copy_14 : decode cX11_copy 14 = .ok (.iadd, 1) := by decide +kernel
theorem dX11_copy_15 : decode cX11_copy 15 = .ok (.aload_n 0, 1) := by decide +kernel
theorem dX11_copy_16 : decode cX11_copy 16 = .ok (.getfield 53, 3) := by decide +kernel
theorem dX11_copy_19 : decode cX11_copy 19 = .ok (.iload_n 1, 1) := by decide +kernel
theorem dX11_copy_20 : decode cX11_copy 20 = .ok (.iload_n 3, 1) := by decide +kernel
theorem dX11_copy_21 : decode cX11_copy 21 = .ok (.iadd, 1) := by decide +kernel
theorem dX11_copy_22 : decode cX11_copy 22 = .ok (.iaload, 1) := by decide +kernel
theorem dX11_copy_23 : decode cX11_copy 23 = .ok (.iastore, 1) := by decide +kernel
theorem dX11_copy_24 : decode cX11_copy 24 = .ok (.iinc 3 1, 3) := by decide +kernel
theorem dX11_copy_27 : decode cX11_copy 27 = .ok (.goto (-25), 3) := by decide +kernel
theorem dX11_copy_30 : decode cX11_copy 30 = .ok (.return_, 1) := by decide +kernel
theorem dX11_keep_0 : decode cX11_keep 0 = .ok (.iload_n 1, 1) := by decide +kernel
theorem dX11_keep_1 : decode cX11_keep 1 = .ok (.iconst 0, 1) := by decide +kernel
theorem dX11_keep_2 : decode cX11_keep 2 = .ok (.iconst 1, 1) := by decide +kernel
theorem dX11_keep_3 : decode cX11_keep 3 = .ok (.invokestatic 72, 3) := by decide +kernel
theorem dX11_keep_6 : decode cX11_keep 6 = .ok (.ifCond .ne 5, 3) := by decide +kernel
theorem dX11_keep_9 : decode cX11_keep 9 = .ok (.iconst (-1), 1) := by decide +kernel
theorem dX11_keep_10 : decode cX11_keep 10 = .ok (.ireturn, 1) := by decide +kernel
theorem dX11_keep_11 : decode cX11_keep 11 = .ok (.aload_n 0, 1) := by decide +kernel
theorem dX11_keep_12 : decode cX11_keep 12 = .ok (.iconst 0, 1) := by decide +kernel
theorem dX11_keep_13 : decode cX11_keep 13 = .ok (.bipush 34, 2) := by decide +kernel
theorem dX11_keep_15 : decode cX11_keep 15 = .ok (.iconst 1, 1) := by decide +kernel
theorem dX11_keep_16 : decode cX11_keep 16 = .ok (.iload_n 1, 1) := by decide +kernel
theorem dX11_keep_17 : decode cX11_keep 17 = .ok (.iadd, 1) := by decide +kernel
theorem dX11_keep_18 : decode cX11_keep 18 = .ok (.imul, 1) := by decide +kernel
theorem dX11_keep_19 : decode cX11_keep 19 = .ok (.invokevirtual 228, 3) := by decide +kernel
theorem dX11_keep_22 : decode cX11_keep 22 = .ok (.aload_n 0, 1) := by decide +kernel
theorem dX11_keep_23 : decode cX11_keep 23 = .ok (.getfield 56, 3) := by decide +kernel
theorem dX11_keep_26 : decode cX11_keep 26 = .ok (.iload_n 1, 1) := by decide +kernel
theorem dX11_keep_27 : decode cX11_keep 27 = .ok (.iconst 1, 1) := by decide +kernel
theorem dX11_keep_28 : decode cX11_keep 28 = .ok (.bastore, 1) := by decide +kernel
theorem dX11_keep_29 : decode cX11_keep 29 = .ok (.aload_n 0, 1) := by decide +kernel
theorem dX11_keep_30 : decode cX11_keep 30 = .ok (.invokevirtual 169, 3) := by decide +kernel
theorem dX11_keep_33 : decode cX11_keep 33 = .ok (.ireturn, 1) := by decide +kernel
theorem dX11_back_0 : decode cX11_back 0 = .ok (.iload_n 1, 1) := by decide +kernel
theorem dX11_back_1 : decode cX11_back 1 = .ok (.iconst 0, 1) := by decide +kernel
theorem dX11_back_2 : decode cX11_back 2 = .ok (.iconst 1, 1) := by decide +kernel
theorem dX11_back_3 : decode cX11_back 3 = .ok (.invokestatic 72, 3) := by decide +kernel
theorem dX11_back_6 : decode cX11_back 6 = .ok (.ifCond .ne 5, 3) := by decide +kernel
theorem dX11_back_9 : decode cX11_back 9 = .ok (.iconst (-1), 1) := by decide +kernel
theorem dX11_back_10 : decode cX11_back 10 = .ok (.ireturn, 1) := by decide +kernel
theorem dX11_back_11 : decode cX11_back 11 = .ok (.aload_n 0, 1) := by decide +kernel
theorem dX11_back_12 : decode cX11_back 12 = .ok (.getfield 56, 3) := by decide +kernel
theorem dX11_back_15 : decode cX11_back 15 = .ok (.iload_n 1, 1) := by decide +kernel
theorem dX11_back_16 : decode cX11_back 16 = .ok (.baload, 1) := by decide +kernel
theorem dX11_back_17 : decode cX11_back 17 = .ok (.ifCond .ne 6, 3) := by decide +kernel
theorem dX11_back_20 : decode cX11_back 20 = .ok (.bipush (-2), 2) := by decide +kernel
theorem dX11_back_22 : decode cX11_back 22 = .ok (.ireturn, 1) := by decide +kernel
theorem dX11_back_23 : decode cX11_back 23 = .ok (.aload_n 0, 1) := by decide +kernel
theorem dX11_back_24 : decode cX11_back 24 = .ok (.bipush 34, 2) := by decide +kernel
theorem dX11_back_26 : decode cX11_back 26 = .ok (.iconst 1, 1) := by decide +kernel
theorem dX11_back_27 : decode cX11_back 27 = .ok (.iload_n 1, 1) := by decide +kernel
theorem dX11_back_28 : decode cX11_back 28 = .ok (.iadd, 1) := by decide +kernel
theorem dX11_back_29 : decode cX11_back 29 = .ok (.imul, 1) := by decide +kernel
theorem dX11_back_30 : decode cX11_back 30 = .ok (.iconst 0, 1) := by decide +kernel
theorem dX11_back_31 : decode cX11_back 31 = .ok (.invokevirtual 228, 3) := by decide +kernel
theorem dX11_back_34 : decode cX11_back 34 = .ok (.aload_n 0, 1) := by decide +kernel
theorem dX11_back_35 : decode cX11_back 35 = .ok (.invokevirtual 169, 3) := by decide +kernel
theorem dX11_back_38 : decode cX11_back 38 = .ok (.ireturn, 1) := by decide +kernel
theorem dX11_count_0 : decode cX11_count 0 = .ok (.iload_n 1, 1) := by decide +kernel
theorem dX11_count_1 : decode cX11_count 1 = .ok (.tableswitch 77 0 5 #[39, 46, 53, 60, 65, 72], 39) := by decide +kernel
theorem dX11_count_40 : decode cX11_count 40 = .ok (.aload_n 0, 1) := by decide +kernel
theorem dX11_count_41 : decode cX11_count 41 = .ok (.getfield 13, 3) := by decide +kernel
theorem dX11_count_44 : decode cX11_count 44 = .ok (.iconst 0, 1) := by decide +kernel
theorem dX11_count_45 : decode cX11_count 45 = .ok (.iaload, 1) := by decide +kernel
theorem dX11_count_46 : decode cX11_count 46 = .ok (.ireturn, 1) := by decide +kernel
theorem dX11_count_47 : decode cX11_count 47 = .ok (.aload_n 0, 1) := by decide +kernel
theorem dX11_count_48 : decode cX11_count 48 = .ok (.getfield 20, 3) := by decide +kernel
theorem dX11_count_51 : decode cX11_count 51 = .ok (.iconst 0, 1) := by decide +kernel
theorem dX11_count_52 : decode cX11_count 52 = .ok (.iaload, 1) := by decide +kernel
theorem dX11_count_53 : decode cX11_count 53 = .ok (.ireturn, 1) := by decide +kernel
theorem dX11_count_54 : decode cX11_count 54 = .ok (.aload_n 0, 1) := by decide +kernel
theorem dX11_count_55 : decode cX11_count 55 = .ok (.getfield 32, 3) := by decide +kernel
theorem dX11_count_58 : decode cX11_count 58 = .ok (.iconst 0, 1) := by decide +kernel
theorem dX11_count_59 : decode cX11_count 59 = .ok (.iaload, 1) := by decide +kernel
theorem dX11_count_60 : decode cX11_count 60 = .ok (.ireturn, 1) := by decide +kernel
theorem dX11_count_61 : decode cX11_count 61 = .ok (.aload_n 0, 1) := by decide +kernel
theorem dX11_count_62 : decode cX11_count 62 = .ok (.getfield 134, 3) := by decide +kernel
theorem dX11_count_65 : decode cX11_count 65 = .ok (.ireturn, 1) := by decide +kernel
theorem dX11_count_66 : decode cX11_count 66 = .ok (.aload_n 0, 1) := by decide +kernel
theorem dX11_count_67 : decode cX11_count 67 = .ok (.getfield 53, 3) := by decide +kernel
theorem dX11_count_70 : decode cX11_count 70 = .ok (.iconst 3, 1) := by decide +kernel
theorem dX11_count_71 : decode cX11_count 71 = .ok (.iaload, 1) := by decide +kernel
theorem dX11_count_72 : decode cX11_count 72 = .ok (.ireturn, 1) := by decide +kernel
theorem dX11_count_73 : decode cX11_count 73 = .ok (.aload_n 0, 1) := by decide +kernel
theorem dX11_count_74 : decode cX11_count 74 = .ok (.getfield 76, 3) := by decide +kernel
theorem dX11_count_77 : decode cX11_count 77 = .ok (.ireturn, 1) := by decide +kernel
theorem dX11_count_78 : decode cX11_count 78 = .ok (.iconst (-1), 1) := by decide +kernel
theorem dX11_count_79 : decode cX11_count 79 = .ok (.ireturn, 1) := by decide +kernel
theorem dX11_trace_0 : decode cX11_trace 0 = .ok (.aload_n 0, 1) := by decide +kernel
theorem dX11_trace_1 : decode cX11_trace 1 = .ok (.getfield 214, 3) := by decide +kernel
theorem dX11_trace_4 : decode cX11_trace 4 = .ok (.lreturn, 1) := by decide +kernel
end
section
theorem dL_law_0 : decode cL_law 0 = .ok (.new 7, 3) := by decide +kernel
theorem dL_law_3 : decode cL_law 3 = .ok (.dup, 1) := by decide +kernel
theorem dL_law_4 : decode cL_law 4 = .ok (.invokespecial 9, 3) := by decide +kernel
theorem dL_law_7 : decode cL_law 7 = .ok (.astore_n 1, 1) := by decide +kernel
theorem dL_law_8 : decode cL_law 8 = .ok (.new 10, 3) := by decide +kernel
theorem dL_law_11 : decode cL_law 11 = .ok (.dup, 1) := by decide +kernel
theorem dL_law_12 : decode cL_law 12 = .ok (.invokespecial 12, 3) := by decide +kernel
theorem dL_law_15 : decode cL_law 15 = .ok (.astore_n 2, 1) := by decide +kernel
theorem dL_law_16 : decode cL_law 16 = .ok (.iconst 0, 1) := by decide +kernel
theorem dL_law_17 : decode cL_law 17 = .ok (.istore_n 3, 1) := by decide +kernel
theorem dL_law_18 : decode cL_law 18 = .ok (.iload_n 3, 1) := by decide +kernel
theorem dL_law_19 : decode cL_law 19 = .ok (.aload_n 0, 1) := by decide +kernel
theorem dL_law_20 : decode cL_law 20 = .ok (.arraylength, 1) := by decide +kernel
theorem dL_law_21 : decode cL_law 21 = .ok (.iconst 5, 1) := by decide +kernel
theorem dL_law_22 : decode cL_law 22 = .ok (.isub, 1) := by decide +kernel
theorem dL_law_23 : decode cL_law 23 = .ok (.if_icmp .gt 1009, 3) := by decide +kernel
theorem dL_law_26 : decode cL_law 26 = .ok (.aload_n 0, 1) := by decide +kernel
theorem dL_law_27 : decode cL_law 27 = .ok (.iload_n 3, 1) := by decide +kernel
theorem dL_law_28 : decode cL_law 28 = .ok (.iaload, 1) := by decide +kernel
theorem dL_law_29 : decode cL_law 29 = .ok (.bipush 31, 2) := by decide +kernel
theorem dL_law_31 : decode cL_law 31 = .ok (.iand, 1) := by decide +kernel
theorem dL_law_32 : decode cL_law 32 = .ok (.tableswitch 994 0 30 #[140, 163, 176, 189, 222, 255, 288, 321, 354, 387, 410, 423, 456, 479, 532, 585, 628, 651, 674, 697, 720, 763, 786, 819, 832, 855, 878, 911, 934, 957, 980], 140) := by decide +kernel
theorem dL_law_172 : decode cL_law 172 = .ok (.aload_n 1, 1) := by decide +kernel
theorem dL_law_173 : decode cL_law 173 = .ok (.aload_n 0, 1) := by decide +kernel
theorem dL_law_174 : decode cL_law 174 = .ok (.iload_n 3, 1) := by decide +kernel
theorem dL_law_175 : decode cL_law 175 = .ok (.iconst 1, 1) := by decide +kernel
theorem dL_law_176 : decode cL_law 176 = .ok (.iadd, 1) := by decide +kernel
theorem dL_law_177 : decode cL_law 177 = .ok (.iaload, 1) := by decide +kernel
theorem dL_law_178 : decode cL_law 178 = .ok (.invokevirtual 13, 3) := by decide +kernel
theorem dL_law_181 : decode cL_law 181 = .ok (.aload_n 2, 1) := by decide +kernel
theorem dL_law_182 : decode cL_law 182 = .ok (.aload_n 0, 1) := by decide +kernel
theorem dL_law_183 : decode cL_law 183 = .ok (.iload_n 3, 1) := by decide +kernel
theorem dL_law_184 : decode cL_law 184 = .ok (.iconst 1, 1) := by decide +kernel
theorem dL_law_185 : decode cL_law 185 = .ok (.iadd, 1) := by decide +kernel
theorem dL_law_186 : decode cL_law 186 = .ok (.iaload, 1) := by decide +kernel
theorem dL_law_187 : decode cL_law 187 = .ok (.invokevirtual 17, 3) := by decide +kernel
theorem dL_law_190 : decode cL_law 190 = .ok (.if_icmp .eq 836, 3) := by decide +kernel
theorem dL_law_193 : decode cL_law 193 = .ok (.iconst 0, 1) := by decide +kernel
theorem dL_law_194 : decode cL_law 194 = .ok (.ireturn, 1) := by decide +kernel
theorem dL_law_195 : decode cL_law 195 = .ok (.aload_n 1, 1) := by decide +kernel
theorem dL_law_196 : decode cL_law 196 = .ok (.invokevirtual 18, 3) := by decide +kernel
theorem dL_law_199 : decode cL_law 199 = .ok (.aload_n 2, 1) := by decide +kernel
theorem dL_law_200 : decode cL_law 200 = .ok (.invokevirtual 22, 3) := by decide +kernel
theorem dL_law_203 : decode cL_law 203 = .ok (.if_icmp .eq 823, 3) := by decide +kernel
theorem dL_law_206 : decode cL_law 206 = .ok (.iconst 0, 1) := by decide +kernel
theorem dL_law_207 : decode cL_law 207 = .ok (.ireturn, 1) := by decide +kernel
theorem dL_law_208 : decode cL_law 208 = .ok (.aload_n 1, 1) := by decide +kernel
theorem dL_law_209 : decode cL_law 209 = .ok (.invokevirtual 23, 3) := by decide +kernel
theorem dL_law_212 : decode cL_law 212 = .ok (.aload_n 2, 1) := by decide +kernel
theorem dL_law_213 : decode cL_law 213 = .ok (.invokevirtual 26, 3) := by decide +kernel
theorem dL_law_216 : decode cL_law 216 = .ok (.if_icmp .eq 810, 3) := by decide +kernel
theorem dL_law_219 : decode cL_law 219 = .ok (.iconst 0, 1) := by decide +kernel
theorem dL_law_220 : decode cL_law 220 = .ok (.ireturn, 1) := by decide +kernel
theorem dL_law_221 : decode cL_law 221 = .ok (.aload_n 1, 1) := by decide +kernel
theorem dL_law_222 : decode cL_law 222 = .ok (.aload_n 0, 1) := by decide +kernel
theorem dL_law_223 : decode cL_law 223 = .ok (.iload_n 3, 1) := by decide +kernel
theorem dL_law_224 : decode cL_law 224 = .ok (.iconst 1, 1) := by decide +kernel
theorem dL_law_225 : decode cL_law 225 = .ok (.iadd, 1) := by decide +kernel
theorem dL_law_226 : decode cL_law 226 = .ok (.iaload, 1) := by decide +kernel
theorem dL_law_227 : decode cL_law 227 = .ok (.aload_n 0, 1) := by decide +kernel
theorem dL_law_228 : decode cL_law 228 = .ok (.iload_n 3, 1) := by decide +kernel
theorem dL_law_229 : decode cL_law 229 = .ok (.iconst 2, 1) := by decide +kernel
theorem dL_law_230 : decode cL_law 230 = .ok (.iadd, 1) := by decide +kernel
theorem dL_law_231 : decode cL_law 231 = .ok (.iaload, 1) := by decide +kernel
theorem dL_law_232 : decode cL_law 232 = .ok (.invokevirtual 27, 3) := by decide +kernel
theorem dL_law_235 : decode cL_law 235 = .ok (.aload_n 2, 1) := by decide +kernel
theorem dL_law_236 : decode cL_law 236 = .ok (.aload_n 0, 1) := by decide +kernel
theorem dL_law_237 : decode cL_law 237 = .ok (.iload_n 3, 1) := by decide +kernel
theorem dL_law_238 : decode cL_law 238 = .ok (.iconst 1, 1) := by decide +kernel
theorem dL_law_239 : decode cL_law 239 = .ok (.iadd, 1) := by decide +kernel
theorem dL_law_240 : decode cL_law 240 = .ok (.iaload, 1) := by decide +kernel
theorem dL_law_241 : decode cL_law 241 = .ok (.aload_n 0, 1) := by decide +kernel
theorem dL_law_242 : decode cL_law 242 = .ok (.iload_n 3, 1) := by decide +kernel
theorem dL_law_243 : decode cL_law 243 = .ok (.iconst 2, 1) := by decide +kernel
theorem dL_law_244 : decode cL_law 244 = .ok (.iadd, 1) := by decide +kernel
theorem dL_law_245 : decode cL_law 245 = .ok (.iaload, 1) := by decide +kernel
theorem dL_law_246 : decode cL_law 246 = .ok (.invokevirtual 31, 3) := by decide +kernel
theorem dL_law_249 : decode cL_law 249 = .ok (.if_icmp .eq 777, 3) := by decide +kernel
theorem dL_law_252 : decode cL_law 252 = .ok (.iconst 0, 1) := by decide +kernel
theorem dL_law_253 : decode cL_law 253 = .ok (.ireturn, 1) := by decide +kernel
theorem dL_law_254 : decode cL_law 254 = .ok (.aload_n 1, 1) := by decide +kernel
theorem dL_law_255 : decode cL_law 255 = .ok (.aload_n 0, 1) := by decide +kernel
theorem dL_law_256 : decode cL_law 256 = .ok (.iload_n 3, 1) := by decide +kernel
theorem dL_law_257 : decode cL_law 257 = .ok (.iconst 1, 1) := by decide +kernel
theorem dL_law_258 : decode cL_law 258 = .ok (.iadd, 1) := by decide +kernel
theorem dL_law_259 : decode cL_law 259 = .ok (.iaload, 1) := by decide +kernel
theorem dL_law_260 : decode cL_law 260 = .ok (.aload_n 0, 1) := by decide +kernel
theorem dL_law_261 : decode cL_law 261 = .ok (.iload_n 3, 1) := by decide +kernel
theorem dL_law_262 : decode cL_law 262 = .ok (.iconst 2, 1) := by decide +kernel
theorem dL_law_263 : decode cL_law 263 = .ok (.iadd, 1) := by decide +kernel
theorem dL_law_264 : decode cL_law 264 = .ok (.iaload, 1) := by decide +kernel
theorem dL_law_265 : decode cL_law 265 = .ok (.invokevirtual 32, 3) := by decide +kernel
theorem dL_law_268 : decode cL_law 268 = .ok (.aload_n 2, 1) := by decide +kernel
theorem dL_law_269 : decode cL_law 269 = .ok (.aload_n 0, 1) := by decide +kernel
theorem dL_law_270 : decode cL_law 270 = .ok (.iload_n 3, 1) := by decide +kernel
theorem dL_law_271 : decode cL_law 271 = .ok (.iconst 1, 1) := by decide +kernel
theorem dL_law_272 : decode cL_law 272 = .ok (.iadd, 1) := by decide +kernel
theorem dL_law_273 : decode cL_law 273 = .ok (.iaload, 1) := by decide +kernel
theorem dL_law_274 : decode cL_law 274 = .ok (.aload_n 0, 1) := by decide +kernel
theorem dL_law_275 : decode cL_law 275 = .ok (.iload_n 3, 1) := by decide +kernel
theorem dL_law_276 : decode cL_law 276 = .ok (.iconst 2, 1) := by decide +kernel
theorem dL_law_277 : decode cL_law 277 = .ok (.iadd, 1) := by decide +kernel
theorem dL_law_278 : decode cL_law 278 = .ok (.iaload, 1) := by decide +kernel
theorem dL_law_279 : decode cL_law 279 = .ok (.invokevirtual 35, 3) := by decide +kernel
theorem dL_law_282 : decode cL_law 282 = .ok (.if_icmp .eq 744, 3) := by decide +kernel
theorem dL_law_285 : decode cL_law 285 = .ok (.iconst 0, 1) := by decide +kernel
theorem dL_law_286 : decode cL_law 286 = .ok (.ireturn, 1) := by decide +kernel
theorem dL_law_287 : decode cL_law 287 = .ok (.aload_n 1, 1) := by decide +kernel
theorem dL_law_288 : decode cL_law 288 = .ok (.aload_n 0, 1) := by decide +kernel
theorem dL_law_289 : decode cL_law 289 = .ok (.iload_n 3, 1) := by decide +kernel
theorem dL_law_290 : decode cL_law 290 = .ok (.iconst 1, 1) := by decide +kernel
theorem dL_law_291 : decode cL_law 291 = .ok (.iadd, 1) := by decide +kernel
theorem dL_law_292 : decode cL_law 292 = .ok (.iaload, 1) := by decide +kernel
theorem dL_law_293 : decode cL_law 293 = .ok (.aload_n 0, 1) := by decide +kernel
theorem dL_law_294 : decode cL_law 294 = .ok (.iload_n 3, 1) := by decide +kernel
theorem dL_law_295 : decode cL_law 295 = .ok (.iconst 2, 1) := by decide +kernel
theorem dL_law_296 : decode cL_law 296 = .ok (.iadd, 1) := by decide +kernel
theorem dL_law_297 : decode cL_law 297 = .ok (.iaload, 1) := by decide +kernel
theorem dL_law_298 : decode cL_law 298 = .ok (.invokevirtual 36, 3) := by decide +kernel
theorem dL_law_301 : decode cL_law 301 = .ok (.aload_n 2, 1) := by decide +kernel
theorem dL_law_302 : decode cL_law 302 = .ok (.aload_n 0, 1) := by decide +kernel
theorem dL_law_303 : decode cL_law 303 = .ok (.iload_n 3, 1) := by decide +kernel
theorem dL_law_304 : decode cL_law 304 = .ok (.iconst 1, 1) := by decide +kernel
theorem dL_law_305 : decode cL_law 305 = .ok (.iadd, 1) := by decide +kernel
theorem dL_law_306 : decode cL_law 306 = .ok (.iaload, 1) := by decide +kernel
theorem dL_law_307 : decode cL_law 307 = .ok (.aload_n 0, 1) := by decide +kernel
theorem dL_law_308 : decode cL_law 308 = .ok (.iload_n 3, 1) := by decide +kernel
theorem dL_law_309 : decode cL_law 309 = .ok (.iconst 2, 1) := by decide +kernel
theorem dL_law_310 : decode cL_law 310 = .ok (.iadd, 1) := by decide +kernel
theorem dL_law_311 : decode cL_law 311 = .ok (.iaload, 1) := by decide +kernel
theorem dL_law_312 : decode cL_law 312 = .ok (.invokevirtual 39, 3) := by decide +kernel
theorem dL_law_315 : decode cL_law 315 = .ok (.if_icmp .eq 711, 3) := by decide +kernel
theorem dL_law_318 : decode cL_law 318 = .ok (.iconst 0, 1) := by decide +kernel
theorem dL_law_319 : decode cL_law 319 = .ok (.ireturn, 1) := by decide +kernel
theorem dL_law_320 : decode cL_law 320 = .ok (.aload_n 1, 1) := by decide +kernel
theorem dL_law_321 : decode cL_law 321 = .ok (.aload_n 0, 1) := by decide +kernel
theorem dL_law_322 : decode cL_law 322 = .ok (.iload_n 3, 1) := by decide +kernel
theorem dL_law_323 : decode cL_law 323 = .ok (.iconst 1, 1) := by decide +kernel
theorem dL_law_324 : decode cL_law 324 = .ok (.iadd, 1) := by decide +kernel
theorem dL_law_325 : decode cL_law 325 = .ok (.iaload, 1) := by decide +kernel
theorem dL_law_326 : decode cL_law 326 = .ok (.aload_n 0, 1) := by decide +kernel
theorem dL_law_327 : decode cL_law 327 = .ok (.iload_n 3, 1) := by decide +kernel
theorem dL_law_328 : decode cL_law 328 = .ok (.iconst 2, 1) := by decide +kernel
theorem dL_law_329 : decode cL_law 329 = .ok (.iadd, 1) := by decide +kernel
theorem dL_law_330 : decode cL_law 330 = .ok (.iaload, 1) := by decide +kernel
theorem dL_law_331 : decode cL_law 331 = .ok (.invokevirtual 40, 3) := by decide +kernel
theorem dL_law_334 : decode cL_law 334 = .ok (.aload_n 2, 1) := by decide +kernel
theorem dL_law_335 : decode cL_law 335 = .ok (.aload_n 0, 1) := by decide +kernel
theorem dL_law_336 : decode cL_law 336 = .ok (.iload_n 3, 1) := by decide +kernel
theorem dL_law_337 : decode cL_law 337 = .ok (.iconst 1, 1) := by decide +kernel
theorem dL_law_338 : decode cL_law 338 = .ok (.iadd, 1) := by decide +kernel
theorem dL_law_339 : decode cL_law 339 = .ok (.iaload, 1) := by decide +kernel
theorem dL_law_340 : decode cL_law 340 = .ok (.aload_n 0, 1) := by decide +kernel
theorem dL_law_341 : decode cL_law 341 = .ok (.iload_n 3, 1) := by decide +kernel
theorem dL_law_342 : decode cL_law 342 = .ok (.iconst 2, 1) := by decide +kernel
theorem dL_law_343 : decode cL_law 343 = .ok (.iadd, 1) := by decide +kernel
theorem dL_law_344 : decode cL_law 344 = .ok (.iaload, 1) := by decide +kernel
theorem dL_law_345 : decode cL_law 345 = .ok (.invokevirtual 43, 3) := by decide +kernel
theorem dL_law_348 : decode cL_law 348 = .ok (.if_icmp .eq 678, 3) := by decide +kernel
theorem dL_law_351 : decode cL_law 351 = .ok (.iconst 0, 1) := by decide +kernel
theorem dL_law_352 : decode cL_law 352 = .ok (.ireturn, 1) := by decide +kernel
theorem dL_law_353 : decode cL_law 353 = .ok (.aload_n 1, 1) := by decide +kernel
theorem dL_law_354 : decode cL_law 354 = .ok (.aload_n 0, 1) := by decide +kernel
theorem dL_law_355 : decode cL_law 355 = .ok (.iload_n 3, 1) := by decide +kernel
theorem dL_law_356 : decode cL_law 356 = .ok (.iconst 1, 1) := by decide +kernel
theorem dL_law_357 : decode cL_law 357 = .ok (.iadd, 1) := by decide +kernel
theorem dL_law_358 : decode cL_law 358 = .ok (.iaload, 1) := by decide +kernel
theorem dL_law_359 : decode cL_law 359 = .ok (.aload_n 0, 1) := by decide +kernel
theorem dL_law_360 : decode cL_law 360 = .ok (.iload_n 3, 1) := by decide +kernel
theorem dL_law_361 : decode cL_law 361 = .ok (.iconst 2, 1) := by decide +kernel
theorem dL_law_362 : decode cL_law 362 = .ok (.iadd, 1) := by decide +kernel
theorem dL_law_363 : decode cL_law 363 = .ok (.iaload, 1) := by decide +kernel
theorem dL_law_364 : decode cL_law 364 = .ok (.invokevirtual 44, 3) := by decide +kernel
theorem dL_law_367 : decode cL_law 367 = .ok (.aload_n 2, 1) := by decide +kernel
theorem dL_law_368 : decode cL_law 368 = .ok (.aload_n 0, 1) := by decide +kernel
theorem dL_law_369 : decode cL_law 369 = .ok (.iload_n 3, 1) := by decide +kernel
theorem dL_law_370 : decode cL_law 370 = .ok (.iconst 1, 1) := by decide +kernel
theorem dL_law_371 : decode cL_law 371 = .ok (.iadd, 1) := by decide +kernel
theorem dL_law_372 : decode cL_law 372 = .ok (.iaload, 1) := by decide +kernel
theorem dL_law_373 : decode cL_law 373 = .ok (.aload_n 0, 1) := by decide +kernel
theorem dL_law_374 : decode cL_law 374 = .ok (.iload_n 3, 1) := by decide +kernel
theorem dL_law_375 : decode cL_law 375 = .ok (.iconst 2, 1) := by decide +kernel
theorem dL_law_376 : decode cL_law 376 = .ok (.iadd, 1) := by decide +kernel
theorem dL_law_377 : decode cL_law 377 = .ok (.iaload, 1) := by decide +kernel
theorem dL_law_378 : decode cL_law 378 = .ok (.invokevirtual 47, 3) := by decide +kernel
theorem dL_law_381 : decode cL_law 381 = .ok (.if_icmp .eq 645, 3) := by decide +kernel
theorem dL_law_384 : decode cL_law 384 = .ok (.iconst 0, 1) := by decide +kernel
theorem dL_law_385 : decode cL_law 385 = .ok (.ireturn, 1) := by decide +kernel
theorem dL_law_386 : decode cL_law 386 = .ok (.aload_n 1, 1) := by decide +kernel
theorem dL_law_387 : decode cL_law 387 = .ok (.aload_n 0, 1) := by decide +kernel
theorem dL_law_388 : decode cL_law 388 = .ok (.iload_n 3, 1) := by decide +kernel
theorem dL_law_389 : decode cL_law 389 = .ok (.iconst 1, 1) := by decide +kernel
theorem dL_law_390 : decode cL_law 390 = .ok (.iadd, 1) := by decide +kernel
theorem dL_law_391 : decode cL_law 391 = .ok (.iaload, 1) := by decide +kernel
theorem dL_law_392 : decode cL_law 392 = .ok (.aload_n 0, 1) := by decide +kernel
theorem dL_law_393 : decode cL_law 393 = .ok (.iload_n 3, 1) := by decide +kernel
theorem dL_law_394 : decode cL_law 394 = .ok (.iconst 2, 1) := by decide +kernel
theorem dL_law_395 : decode cL_law 395 = .ok (.iadd, 1) := by decide +kernel
theorem dL_law_396 : decode cL_law 396 = .ok (.iaload, 1) := by decide +kernel
theorem dL_law_397 : decode cL_law 397 = .ok (.invokevirtual 48, 3) := by decide +kernel
theorem dL_law_400 : decode cL_law 400 = .ok (.aload_n 2, 1) := by decide +kernel
theorem dL_law_401 : decode cL_law 401 = .ok (.aload_n 0, 1) := by decide +kernel
theorem dL_law_402 : decode cL_law 402 = .ok (.iload_n 3, 1) := by decide +kernel
theorem dL_law_403 : decode cL_law 403 = .ok (.iconst 1, 1) := by decide +kernel
theorem dL_law_404 : decode cL_law 404 = .ok (.iadd, 1) := by decide +kernel
theorem dL_law_405 : decode cL_law 405 = .ok (.iaload, 1) := by decide +kernel
theorem dL_law_406 : decode cL_law 406 = .ok (.aload_n 0, 1) := by decide +kernel
theorem dL_law_407 : decode cL_law 407 = .ok (.iload_n 3, 1) := by decide +kernel
theorem dL_law_408 : decode cL_law 408 = .ok (.iconst 2, 1) := by decide +kernel
theorem dL_law_409 : decode cL_law 409 = .ok (.iadd, 1) := by decide +kernel
theorem dL_law_410 : decode cL_law 410 = .ok (.iaload, 1) := by decide +kernel
theorem dL_law_411 : decode cL_law 411 = .ok (.invokevirtual 51, 3) := by decide +kernel
theorem dL_law_414 : decode cL_law 414 = .ok (.if_icmp .eq 612, 3) := by decide +kernel
theorem dL_law_417 : decode cL_law 417 = .ok (.iconst 0, 1) := by decide +kernel
theorem dL_law_418 : decode cL_law 418 = .ok (.ireturn, 1) := by decide +kernel
theorem dL_law_419 : decode cL_law 419 = .ok (.aload_n 1, 1) := by decide +kernel
theorem dL_law_420 : decode cL_law 420 = .ok (.aload_n 0, 1) := by decide +kernel
theorem dL_law_421 : decode cL_law 421 = .ok (.iload_n 3, 1) := by decide +kernel
theorem dL_law_422 : decode cL_law 422 = .ok (.iconst 1, 1) := by decide +kernel
theorem dL_law_423 : decode cL_law 423 = .ok (.iadd, 1) := by decide +kernel
theorem dL_law_424 : decode cL_law 424 = .ok (.iaload, 1) := by decide +kernel
theorem dL_law_425 : decode cL_law 425 = .ok (.invokevirtual 52, 3) := by decide +kernel
theorem dL_law_428 : decode cL_law 428 = .ok (.aload_n 2, 1) := by decide +kernel
theorem dL_law_429 : decode cL_law 429 = .ok (.aload_n 0, 1) := by decide +kernel
theorem dL_law_430 : decode cL_law 430 = .ok (.iload_n 3, 1) := by decide +kernel
theorem dL_law_431 : decode cL_law 431 = .ok (.iconst 1, 1) := by decide +kernel
theorem dL_law_432 : decode cL_law 432 = .ok (.iadd, 1) := by decide +kernel
theorem dL_law_433 : decode cL_law 433 = .ok (.iaload, 1) := by decide +kernel
theorem dL_law_434 : decode cL_law 434 = .ok (.invokevirtual 55, 3) := by decide +kernel
theorem dL_law_437 : decode cL_law 437 = .ok (.if_icmp .eq 589, 3) := by decide +kernel
theorem dL_law_440 : decode cL_law 440 = .ok (.iconst 0, 1) := by decide +kernel
theorem dL_law_441 : decode cL_law 441 = .ok (.ireturn, 1) := by decide +kernel
theorem dL_law_442 : decode cL_law 442 = .ok (.aload_n 1, 1) := by decide +kernel
theorem dL_law_443 : decode cL_law 443 = .ok (.invokevirtual 56, 3) := by decide +kernel
theorem dL_law_446 : decode cL_law 446 = .ok (.aload_n 2, 1) := by decide +kernel
theorem dL_law_447 : decode cL_law 447 = .ok (.invokevirtual 59, 3) := by decide +kernel
theorem dL_law_450 : decode cL_law 450 = .ok (.if_icmp .eq 576, 3) := by decide +kernel
theorem dL_law_453 : decode cL_law 453 = .ok (.iconst 0, 1) := by decide +kernel
theorem dL_law_454 : decode cL_law 454 = .ok (.ireturn, 1) := by decide +kernel
theorem dL_law_455 : decode cL_law 455 = .ok (.aload_n 1, 1) := by decide +kernel
theorem dL_law_456 : decode cL_law 456 = .ok (.aload_n 0, 1) := by decide +kernel
theorem dL_law_457 : decode cL_law 457 = .ok (.iload_n 3, 1) := by decide +kernel
theorem dL_law_458 : decode cL_law 458 = .ok (.iconst 1, 1) := by decide +kernel
theorem dL_law_459 : decode cL_law 459 = .ok (.iadd, 1) := by decide +kernel
theorem dL_law_460 : decode cL_law 460 = .ok (.iaload, 1) := by decide +kernel
theorem dL_law_461 : decode cL_law 461 = .ok (.aload_n 0, 1) := by decide +kernel
theorem dL_law_462 : decode cL_law 462 = .ok (.iload_n 3, 1) := by decide +kernel
theorem dL_law_463 : decode cL_law 463 = .ok (.iconst 2, 1) := by decide +kernel
theorem dL_law_464 : decode cL_law 464 = .ok (.iadd, 1) := by decide +kernel
theorem dL_law_465 : decode cL_law 465 = .ok (.iaload, 1) := by decide +kernel
theorem dL_law_466 : decode cL_law 466 = .ok (.invokevirtual 60, 3) := by decide +kernel
theorem dL_law_469 : decode cL_law 469 = .ok (.aload_n 2, 1) := by decide +kernel
theorem dL_law_470 : decode cL_law 470 = .ok (.aload_n 0, 1) := by decide +kernel
theorem dL_law_471 : decode cL_law 471 = .ok (.iload_n 3, 1) := by decide +kernel
theorem dL_law_472 : decode cL_law 472 = .ok (.iconst 1, 1) := by decide +kernel
theorem dL_law_473 : decode cL_law 473 = .ok (.iadd, 1) := by decide +kernel
theorem dL_law_474 : decode cL_law 474 = .ok (.iaload, 1) := by decide +kernel
theorem dL_law_475 : decode cL_law 475 = .ok (.aload_n 0, 1) := by decide +kernel
theorem dL_law_476 : decode cL_law 476 = .ok (.iload_n 3, 1) := by decide +kernel
theorem dL_law_477 : decode cL_law 477 = .ok (.iconst 2, 1) := by decide +kernel
theorem dL_law_478 : decode cL_law 478 = .ok (.iadd, 1) := by decide +kernel
theorem dL_law_479 : decode cL_law 479 = .ok (.iaload, 1) := by decide +kernel
theorem dL_law_480 : decode cL_law 480 = .ok (.invokevirtual 63, 3) := by decide +kernel
theorem dL_law_483 : decode cL_law 483 = .ok (.if_icmp .eq 543, 3) := by decide +kernel
theorem dL_law_486 : decode cL_law 486 = .ok (.iconst 0, 1) := by decide +kernel
theorem dL_law_487 : decode cL_law 487 = .ok (.ireturn, 1) := by decide +kernel
theorem dL_law_488 : decode cL_law 488 = .ok (.aload_n 1, 1) := by decide +kernel
theorem dL_law_489 : decode cL_law 489 = .ok (.aload_n 0, 1) := by decide +kernel
theorem dL_law_490 : decode cL_law 490 = .ok (.iload_n 3, 1) := by decide +kernel
theorem dL_law_491 : decode cL_law 491 = .ok (.iconst 1, 1) := by decide +kernel
theorem dL_law_492 : decode cL_law 492 = .ok (.iadd, 1) := by decide +kernel
theorem dL_law_493 : decode cL_law 493 = .ok (.iaload, 1) := by decide +kernel
theorem dL_law_494 : decode cL_law 494 = .ok (.invokevirtual 64, 3) := by decide +kernel
theorem dL_law_497 : decode cL_law 497 = .ok (.aload_n 2, 1) := by decide +kernel
theorem dL_law_498 : decode cL_law 498 = .ok (.aload_n 0, 1) := by decide +kernel
theorem dL_law_499 : decode cL_law 499 = .ok (.iload_n 3, 1) := by decide +kernel
theorem dL_law_500 : decode cL_law 500 = .ok (.iconst 1, 1) := by decide +kernel
theorem dL_law_501 : decode cL_law 501 = .ok (.iadd, 1) := by decide +kernel
theorem dL_law_502 : decode cL_law 502 = .ok (.iaload, 1) := by decide +kernel
theorem dL_law_503 : decode cL_law 503 = .ok (.invokevirtual 67, 3) := by decide +kernel
theorem dL_law_506 : decode cL_law 506 = .ok (.if_icmp .eq 520, 3) := by decide +kernel
theorem dL_law_509 : decode cL_law 509 = .ok (.iconst 0, 1) := by decide +kernel
theorem dL_law_510 : decode cL_law 510 = .ok (.ireturn, 1) := by decide +kernel
theorem dL_law_511 : decode cL_law 511 = .ok (.aload_n 1, 1) := by decide +kernel
theorem dL_law_512 : decode cL_law 512 = .ok (.aload_n 0, 1) := by decide +kernel
theorem dL_law_513 : decode cL_law 513 = .ok (.iload_n 3, 1) := by decide +kernel
theorem dL_law_514 : decode cL_law 514 = .ok (.iconst 1, 1) := by decide +kernel
theorem dL_law_515 : decode cL_law 515 = .ok (.iadd, 1) := by decide +kernel
theorem dL_law_516 : decode cL_law 516 = .ok (.iaload, 1) := by decide +kernel
theorem dL_law_517 : decode cL_law 517 = .ok (.aload_n 0, 1) := by decide +kernel
theorem dL_law_518 : decode cL_law 518 = .ok (.iload_n 3, 1) := by decide +kernel
theorem dL_law_519 : decode cL_law 519 = .ok (.iconst 2, 1) := by decide +kernel
theorem dL_law_520 : decode cL_law 520 = .ok (.iadd, 1) := by decide +kernel
theorem dL_law_521 : decode cL_law 521 = .ok (.iaload, 1) := by decide +kernel
theorem dL_law_522 : decode cL_law 522 = .ok (.aload_n 0, 1) := by decide +kernel
theorem dL_law_523 : decode cL_law 523 = .ok (.iload_n 3, 1) := by decide +kernel
theorem dL_law_524 : decode cL_law 524 = .ok (.iconst 3, 1) := by decide +kernel
theorem dL_law_525 : decode cL_law 525 = .ok (.iadd, 1) := by decide +kernel
theorem dL_law_526 : decode cL_law 526 = .ok (.iaload, 1) := by decide +kernel
theorem dL_law_527 : decode cL_law 527 = .ok (.aload_n 0, 1) := by decide +kernel
theorem dL_law_528 : decode cL_law 528 = .ok (.iload_n 3, 1) := by decide +kernel
theorem dL_law_529 : decode cL_law 529 = .ok (.iconst 4, 1) := by decide +kernel
theorem dL_law_530 : decode cL_law 530 = .ok (.iadd, 1) := by decide +kernel
theorem dL_law_531 : decode cL_law 531 = .ok (.iaload, 1) := by decide +kernel
theorem dL_law_532 : decode cL_law 532 = .ok (.invokevirtual 68, 3) := by decide +kernel
theorem dL_law_535 : decode cL_law 535 = .ok (.aload_n 2, 1) := by decide +kernel
theorem dL_law_536 : decode cL_law 536 = .ok (.aload_n 0, 1) := by decide +kernel
theorem dL_law_537 : decode cL_law 537 = .ok (.iload_n 3, 1) := by decide +kernel
theorem dL_law_538 : decode cL_law 538 = .ok (.iconst 1, 1) := by decide +kernel
theorem dL_law_539 : decode cL_law 539 = .ok (.iadd, 1) := by decide +kernel
theorem dL_law_540 : decode cL_law 540 = .ok (.iaload, 1) := by decide +kernel
theorem dL_law_541 : decode cL_law 541 = .ok (.aload_n 0, 1) := by decide +kernel
theorem dL_law_542 : decode cL_law 542 = .ok (.iload_n 3, 1) := by decide +kernel
theorem dL_law_543 : decode cL_law 543 = .ok (.iconst 2, 1) := by decide +kernel
theorem dL_law_544 : decode cL_law 544 = .ok (.iadd, 1) := by decide +kernel
theorem dL_law_545 : decode cL_law 545 = .ok (.iaload, 1) := by decide +kernel
theorem dL_law_546 : decode cL_law 546 = .ok (.aload_n 0, 1) := by decide +kernel
theorem dL_law_547 : decode cL_law 547 = .ok (.iload_n 3, 1) := by decide +kernel
theorem dL_law_548 : decode cL_law 548 = .ok (.iconst 3, 1) := by decide +kernel
theorem dL_law_549 : decode cL_law 549 = .ok (.iadd, 1) := by decide +kernel
theorem dL_law_550 : decode cL_law 550 = .ok (.iaload, 1) := by decide +kernel
theorem dL_law_551 : decode cL_law 551 = .ok (.aload_n 0, 1) := by decide +kernel
theorem dL_law_552 : decode cL_law 552 = .ok (.iload_n 3, 1) := by decide +kernel
theorem dL_law_553 : decode cL_law 553 = .ok (.iconst 4, 1) := by decide +kernel
theorem dL_law_554 : decode cL_law 554 = .ok (.iadd, 1) := by decide +kernel
theorem dL_law_555 : decode cL_law 555 = .ok (.iaload, 1) := by decide +kernel
theorem dL_law_556 : decode cL_law 556 = .ok (.invokevirtual 72, 3) := by decide +kernel
theorem dL_law_559 : decode cL_law 559 = .ok (.if_icmp .eq 467, 3) := by decide +kernel
theorem dL_law_562 : decode cL_law 562 = .ok (.iconst 0, 1) := by decide +kernel
theorem dL_law_563 : decode cL_law 563 = .ok (.ireturn, 1) := by decide +kernel
theorem dL_law_564 : decode cL_law 564 = .ok (.aload_n 1, 1) := by decide +kernel
theorem dL_law_565 : decode cL_law 565 = .ok (.aload_n 0, 1) := by decide +kernel
theorem dL_law_566 : decode cL_law 566 = .ok (.iload_n 3, 1) := by decide +kernel
theorem dL_law_567 : decode cL_law 567 = .ok (.iconst 1, 1) := by decide +kernel
theorem dL_law_568 : decode cL_law 568 = .ok (.iadd, 1) := by decide +kernel
theorem dL_law_569 : decode cL_law 569 = .ok (.iaload, 1) := by decide +kernel
theorem dL_law_570 : decode cL_law 570 = .ok (.aload_n 0, 1) := by decide +kernel
theorem dL_law_571 : decode cL_law 571 = .ok (.iload_n 3, 1) := by decide +kernel
theorem dL_law_572 : decode cL_law 572 = .ok (.iconst 2, 1) := by decide +kernel
theorem dL_law_573 : decode cL_law 573 = .ok (.iadd, 1) := by decide +kernel
theorem dL_law_574 : decode cL_law 574 = .ok (.iaload, 1) := by decide +kernel
theorem dL_law_575 : decode cL_law 575 = .ok (.aload_n 0, 1) := by decide +kernel
theorem dL_law_576 : decode cL_law 576 = .ok (.iload_n 3, 1) := by decide +kernel
theorem dL_law_577 : decode cL_law 577 = .ok (.iconst 3, 1) := by decide +kernel
theorem dL_law_578 : decode cL_law 578 = .ok (.iadd, 1) := by decide +kernel
theorem dL_law_579 : decode cL_law 579 = .ok (.iaload, 1) := by decide +kernel
theorem dL_law_580 : decode cL_law 580 = .ok (.aload_n 0, 1) := by decide +kernel
theorem dL_law_581 : decode cL_law 581 = .ok (.iload_n 3, 1) := by decide +kernel
theorem dL_law_582 : decode cL_law 582 = .ok (.iconst 4, 1) := by decide +kernel
theorem dL_law_583 : decode cL_law 583 = .ok (.iadd, 1) := by decide +kernel
end
section
theorem dL_law_584 : decode cL_law 584 = .ok (.iaload, 1) := by decide +kernel
theorem dL_law_585 : decode cL_law 585 = .ok (.invokevirtual 73, 3) := by decide +kernel
theorem dL_law_588 : decode cL_law 588 = .ok (.aload_n 2, 1) := by decide +kernel
theorem dL_law_589 : decode cL_law 589 = .ok (.aload_n 0, 1) := by decide +kernel
theorem dL_law_590 : decode cL_law 590 = .ok (.iload_n 3, 1) := by decide +kernel
theorem dL_law_591 : decode cL_law 591 = .ok (.iconst 1, 1) := by decide +kernel
theorem dL_law_592 : decode cL_law 592 = .ok (.iadd, 1) := by decide +kernel
theorem dL_law_593 : decode cL_law 593 = .ok (.iaload, 1) := by decide +kernel
theorem dL_law_594 : decode cL_law 594 = .ok (.aload_n 0, 1) := by decide +kernel
theorem dL_law_595 : decode cL_law 595 = .ok (.iload_n 3, 1) := by decide +kernel
theorem dL_law_596 : decode cL_law 596 = .ok (.iconst 2, 1) := by decide +kernel
theorem dL_law_597 : decode cL_law 597 = .ok (.iadd, 1) := by decide +kernel
theorem dL_law_598 : decode cL_law 598 = .ok (.iaload, 1) := by decide +kernel
theorem dL_law_599 : decode cL_law 599 = .ok (.aload_n 0, 1) := by decide +kernel
theorem dL_law_600 : decode cL_law 600 = .ok (.iload_n 3, 1) := by decide +kernel
theorem dL_law_601 : decode cL_law 601 = .ok (.iconst 3, 1) := by decide +kernel
theorem dL_law_602 : decode cL_law 602 = .ok (.iadd, 1) := by decide +kernel
theorem dL_law_603 : decode cL_law 603 = .ok (.iaload, 1) := by decide +kernel
theorem dL_law_604 : decode cL_law 604 = .ok (.aload_n 0, 1) := by decide +kernel
theorem dL_law_605 : decode cL_law 605 = .ok (.iload_n 3, 1) := by decide +kernel
theorem dL_law_606 : decode cL_law 606 = .ok (.iconst 4, 1) := by decide +kernel
theorem dL_law_607 : decode cL_law 607 = .ok (.iadd, 1) := by decide +kernel
theorem dL_law_608 : decode cL_law 608 = .ok (.iaload, 1) := by decide +kernel
theorem dL_law_609 : decode cL_law 609 = .ok (.invokevirtual 76, 3) := by decide +kernel
theorem dL_law_612 : decode cL_law 612 = .ok (.if_icmp .eq 414, 3) := by decide +kernel
theorem dL_law_615 : decode cL_law 615 = .ok (.iconst 0, 1) := by decide +kernel
theorem dL_law_616 : decode cL_law 616 = .ok (.ireturn, 1) := by decide +kernel
theorem dL_law_617 : decode cL_law 617 = .ok (.aload_n 1, 1) := by decide +kernel
theorem dL_law_618 : decode cL_law 618 = .ok (.aload_n 0, 1) := by decide +kernel
theorem dL_law_619 : decode cL_law 619 = .ok (.iload_n 3, 1) := by decide +kernel
theorem dL_law_620 : decode cL_law 620 = .ok (.iconst 1, 1) := by decide +kernel
theorem dL_law_621 : decode cL_law 621 = .ok (.iadd, 1) := by decide +kernel
theorem dL_law_622 : decode cL_law 622 = .ok (.iaload, 1) := by decide +kernel
theorem dL_law_623 : decode cL_law 623 = .ok (.aload_n 0, 1) := by decide +kernel
theorem dL_law_624 : decode cL_law 624 = .ok (.iload_n 3, 1) := by decide +kernel
theorem dL_law_625 : decode cL_law 625 = .ok (.iconst 2, 1) := by decide +kernel
theorem dL_law_626 : decode cL_law 626 = .ok (.iadd, 1) := by decide +kernel
theorem dL_law_627 : decode cL_law 627 = .ok (.iaload, 1) := by decide +kernel
theorem dL_law_628 : decode cL_law 628 = .ok (.aload_n 0, 1) := by decide +kernel
theorem dL_law_629 : decode cL_law 629 = .ok (.iload_n 3, 1) := by decide +kernel
theorem dL_law_630 : decode cL_law 630 = .ok (.iconst 3, 1) := by decide +kernel
theorem dL_law_631 : decode cL_law 631 = .ok (.iadd, 1) := by decide +kernel
theorem dL_law_632 : decode cL_law 632 = .ok (.iaload, 1) := by decide +kernel
theorem dL_law_633 : decode cL_law 633 = .ok (.invokevirtual 77, 3) := by decide +kernel
theorem dL_law_636 : decode cL_law 636 = .ok (.aload_n 2, 1) := by decide +kernel
theorem dL_law_637 : decode cL_law 637 = .ok (.aload_n 0, 1) := by decide +kernel
theorem dL_law_638 : decode cL_law 638 = .ok (.iload_n 3, 1) := by decide +kernel
theorem dL_law_639 : decode cL_law 639 = .ok (.iconst 1, 1) := by decide +kernel
theorem dL_law_640 : decode cL_law 640 = .ok (.iadd, 1) := by decide +kernel
theorem dL_law_641 : decode cL_law 641 = .ok (.iaload, 1) := by decide +kernel
theorem dL_law_642 : decode cL_law 642 = .ok (.aload_n 0, 1) := by decide +kernel
theorem dL_law_643 : decode cL_law 643 = .ok (.iload_n 3, 1) := by decide +kernel
theorem dL_law_644 : decode cL_law 644 = .ok (.iconst 2, 1) := by decide +kernel
theorem dL_law_645 : decode cL_law 645 = .ok (.iadd, 1) := by decide +kernel
theorem dL_law_646 : decode cL_law 646 = .ok (.iaload, 1) := by decide +kernel
theorem dL_law_647 : decode cL_law 647 = .ok (.aload_n 0, 1) := by decide +kernel
theorem dL_law_648 : decode cL_law 648 = .ok (.iload_n 3, 1) := by decide +kernel
theorem dL_law_649 : decode cL_law 649 = .ok (.iconst 3, 1) := by decide +kernel
theorem dL_law_650 : decode cL_law 650 = .ok (.iadd, 1) := by decide +kernel
theorem dL_law_651 : decode cL_law 651 = .ok (.iaload, 1) := by decide +kernel
theorem dL_law_652 : decode cL_law 652 = .ok (.invokevirtual 81, 3) := by decide +kernel
theorem dL_law_655 : decode cL_law 655 = .ok (.if_icmp .eq 371, 3) := by decide +kernel
theorem dL_law_658 : decode cL_law 658 = .ok (.iconst 0, 1) := by decide +kernel
theorem dL_law_659 : decode cL_law 659 = .ok (.ireturn, 1) := by decide +kernel
theorem dL_law_660 : decode cL_law 660 = .ok (.aload_n 1, 1) := by decide +kernel
theorem dL_law_661 : decode cL_law 661 = .ok (.aload_n 0, 1) := by decide +kernel
theorem dL_law_662 : decode cL_law 662 = .ok (.iload_n 3, 1) := by decide +kernel
theorem dL_law_663 : decode cL_law 663 = .ok (.iconst 1, 1) := by decide +kernel
theorem dL_law_664 : decode cL_law 664 = .ok (.iadd, 1) := by decide +kernel
theorem dL_law_665 : decode cL_law 665 = .ok (.iaload, 1) := by decide +kernel
theorem dL_law_666 : decode cL_law 666 = .ok (.invokevirtual 82, 3) := by decide +kernel
theorem dL_law_669 : decode cL_law 669 = .ok (.aload_n 2, 1) := by decide +kernel
theorem dL_law_670 : decode cL_law 670 = .ok (.aload_n 0, 1) := by decide +kernel
theorem dL_law_671 : decode cL_law 671 = .ok (.iload_n 3, 1) := by decide +kernel
theorem dL_law_672 : decode cL_law 672 = .ok (.iconst 1, 1) := by decide +kernel
theorem dL_law_673 : decode cL_law 673 = .ok (.iadd, 1) := by decide +kernel
theorem dL_law_674 : decode cL_law 674 = .ok (.iaload, 1) := by decide +kernel
theorem dL_law_675 : decode cL_law 675 = .ok (.invokevirtual 85, 3) := by decide +kernel
theorem dL_law_678 : decode cL_law 678 = .ok (.if_icmp .eq 348, 3) := by decide +kernel
theorem dL_law_681 : decode cL_law 681 = .ok (.iconst 0, 1) := by decide +kernel
theorem dL_law_682 : decode cL_law 682 = .ok (.ireturn, 1) := by decide +kernel
theorem dL_law_683 : decode cL_law 683 = .ok (.aload_n 1, 1) := by decide +kernel
theorem dL_law_684 : decode cL_law 684 = .ok (.aload_n 0, 1) := by decide +kernel
theorem dL_law_685 : decode cL_law 685 = .ok (.iload_n 3, 1) := by decide +kernel
theorem dL_law_686 : decode cL_law 686 = .ok (.iconst 1, 1) := by decide +kernel
theorem dL_law_687 : decode cL_law 687 = .ok (.iadd, 1) := by decide +kernel
theorem dL_law_688 : decode cL_law 688 = .ok (.iaload, 1) := by decide +kernel
theorem dL_law_689 : decode cL_law 689 = .ok (.invokevirtual 86, 3) := by decide +kernel
theorem dL_law_692 : decode cL_law 692 = .ok (.aload_n 2, 1) := by decide +kernel
theorem dL_law_693 : decode cL_law 693 = .ok (.aload_n 0, 1) := by decide +kernel
theorem dL_law_694 : decode cL_law 694 = .ok (.iload_n 3, 1) := by decide +kernel
theorem dL_law_695 : decode cL_law 695 = .ok (.iconst 1, 1) := by decide +kernel
theorem dL_law_696 : decode cL_law 696 = .ok (.iadd, 1) := by decide +kernel
theorem dL_law_697 : decode cL_law 697 = .ok (.iaload, 1) := by decide +kernel
theorem dL_law_698 : decode cL_law 698 = .ok (.invokevirtual 89, 3) := by decide +kernel
theorem dL_law_701 : decode cL_law 701 = .ok (.if_icmp .eq 325, 3) := by decide +kernel
theorem dL_law_704 : decode cL_law 704 = .ok (.iconst 0, 1) := by decide +kernel
theorem dL_law_705 : decode cL_law 705 = .ok (.ireturn, 1) := by decide +kernel
theorem dL_law_706 : decode cL_law 706 = .ok (.aload_n 1, 1) := by decide +kernel
theorem dL_law_707 : decode cL_law 707 = .ok (.aload_n 0, 1) := by decide +kernel
theorem dL_law_708 : decode cL_law 708 = .ok (.iload_n 3, 1) := by decide +kernel
theorem dL_law_709 : decode cL_law 709 = .ok (.iconst 1, 1) := by decide +kernel
theorem dL_law_710 : decode cL_law 710 = .ok (.iadd, 1) := by decide +kernel
theorem dL_law_711 : decode cL_law 711 = .ok (.iaload, 1) := by decide +kernel
theorem dL_law_712 : decode cL_law 712 = .ok (.invokevirtual 90, 3) := by decide +kernel
theorem dL_law_715 : decode cL_law 715 = .ok (.aload_n 2, 1) := by decide +kernel
theorem dL_law_716 : decode cL_law 716 = .ok (.aload_n 0, 1) := by decide +kernel
theorem dL_law_717 : decode cL_law 717 = .ok (.iload_n 3, 1) := by decide +kernel
theorem dL_law_718 : decode cL_law 718 = .ok (.iconst 1, 1) := by decide +kernel
theorem dL_law_719 : decode cL_law 719 = .ok (.iadd, 1) := by decide +kernel
theorem dL_law_720 : decode cL_law 720 = .ok (.iaload, 1) := by decide +kernel
theorem dL_law_721 : decode cL_law 721 = .ok (.invokevirtual 93, 3) := by decide +kernel
theorem dL_law_724 : decode cL_law 724 = .ok (.if_icmp .eq 302, 3) := by decide +kernel
theorem dL_law_727 : decode cL_law 727 = .ok (.iconst 0, 1) := by decide +kernel
theorem dL_law_728 : decode cL_law 728 = .ok (.ireturn, 1) := by decide +kernel
theorem dL_law_729 : decode cL_law 729 = .ok (.aload_n 1, 1) := by decide +kernel
theorem dL_law_730 : decode cL_law 730 = .ok (.aload_n 0, 1) := by decide +kernel
theorem dL_law_731 : decode cL_law 731 = .ok (.iload_n 3, 1) := by decide +kernel
theorem dL_law_732 : decode cL_law 732 = .ok (.iconst 1, 1) := by decide +kernel
theorem dL_law_733 : decode cL_law 733 = .ok (.iadd, 1) := by decide +kernel
theorem dL_law_734 : decode cL_law 734 = .ok (.iaload, 1) := by decide +kernel
theorem dL_law_735 : decode cL_law 735 = .ok (.invokevirtual 94, 3) := by decide +kernel
theorem dL_law_738 : decode cL_law 738 = .ok (.aload_n 2, 1) := by decide +kernel
theorem dL_law_739 : decode cL_law 739 = .ok (.aload_n 0, 1) := by decide +kernel
theorem dL_law_740 : decode cL_law 740 = .ok (.iload_n 3, 1) := by decide +kernel
theorem dL_law_741 : decode cL_law 741 = .ok (.iconst 1, 1) := by decide +kernel
theorem dL_law_742 : decode cL_law 742 = .ok (.iadd, 1) := by decide +kernel
theorem dL_law_743 : decode cL_law 743 = .ok (.iaload, 1) := by decide +kernel
theorem dL_law_744 : decode cL_law 744 = .ok (.invokevirtual 97, 3) := by decide +kernel
theorem dL_law_747 : decode cL_law 747 = .ok (.if_icmp .eq 279, 3) := by decide +kernel
theorem dL_law_750 : decode cL_law 750 = .ok (.iconst 0, 1) := by decide +kernel
theorem dL_law_751 : decode cL_law 751 = .ok (.ireturn, 1) := by decide +kernel
theorem dL_law_752 : decode cL_law 752 = .ok (.aload_n 1, 1) := by decide +kernel
theorem dL_law_753 : decode cL_law 753 = .ok (.aload_n 0, 1) := by decide +kernel
theorem dL_law_754 : decode cL_law 754 = .ok (.iload_n 3, 1) := by decide +kernel
theorem dL_law_755 : decode cL_law 755 = .ok (.iconst 1, 1) := by decide +kernel
theorem dL_law_756 : decode cL_law 756 = .ok (.iadd, 1) := by decide +kernel
theorem dL_law_757 : decode cL_law 757 = .ok (.iaload, 1) := by decide +kernel
theorem dL_law_758 : decode cL_law 758 = .ok (.aload_n 0, 1) := by decide +kernel
theorem dL_law_759 : decode cL_law 759 = .ok (.iload_n 3, 1) := by decide +kernel
theorem dL_law_760 : decode cL_law 760 = .ok (.iconst 2, 1) := by decide +kernel
theorem dL_law_761 : decode cL_law 761 = .ok (.iadd, 1) := by decide +kernel
theorem dL_law_762 : decode cL_law 762 = .ok (.iaload, 1) := by decide +kernel
theorem dL_law_763 : decode cL_law 763 = .ok (.aload_n 0, 1) := by decide +kernel
theorem dL_law_764 : decode cL_law 764 = .ok (.iload_n 3, 1) := by decide +kernel
theorem dL_law_765 : decode cL_law 765 = .ok (.iconst 3, 1) := by decide +kernel
theorem dL_law_766 : decode cL_law 766 = .ok (.iadd, 1) := by decide +kernel
theorem dL_law_767 : decode cL_law 767 = .ok (.iaload, 1) := by decide +kernel
theorem dL_law_768 : decode cL_law 768 = .ok (.invokevirtual 98, 3) := by decide +kernel
theorem dL_law_771 : decode cL_law 771 = .ok (.aload_n 2, 1) := by decide +kernel
theorem dL_law_772 : decode cL_law 772 = .ok (.aload_n 0, 1) := by decide +kernel
theorem dL_law_773 : decode cL_law 773 = .ok (.iload_n 3, 1) := by decide +kernel
theorem dL_law_774 : decode cL_law 774 = .ok (.iconst 1, 1) := by decide +kernel
theorem dL_law_775 : decode cL_law 775 = .ok (.iadd, 1) := by decide +kernel
theorem dL_law_776 : decode cL_law 776 = .ok (.iaload, 1) := by decide +kernel
theorem dL_law_777 : decode cL_law 777 = .ok (.aload_n 0, 1) := by decide +kernel
theorem dL_law_778 : decode cL_law 778 = .ok (.iload_n 3, 1) := by decide +kernel
theorem dL_law_779 : decode cL_law 779 = .ok (.iconst 2, 1) := by decide +kernel
theorem dL_law_780 : decode cL_law 780 = .ok (.iadd, 1) := by decide +kernel
theorem dL_law_781 : decode cL_law 781 = .ok (.iaload, 1) := by decide +kernel
theorem dL_law_782 : decode cL_law 782 = .ok (.aload_n 0, 1) := by decide +kernel
theorem dL_law_783 : decode cL_law 783 = .ok (.iload_n 3, 1) := by decide +kernel
theorem dL_law_784 : decode cL_law 784 = .ok (.iconst 3, 1) := by decide +kernel
theorem dL_law_785 : decode cL_law 785 = .ok (.iadd, 1) := by decide +kernel
theorem dL_law_786 : decode cL_law 786 = .ok (.iaload, 1) := by decide +kernel
theorem dL_law_787 : decode cL_law 787 = .ok (.invokevirtual 101, 3) := by decide +kernel
theorem dL_law_790 : decode cL_law 790 = .ok (.if_icmp .eq 236, 3) := by decide +kernel
theorem dL_law_793 : decode cL_law 793 = .ok (.iconst 0, 1) := by decide +kernel
theorem dL_law_794 : decode cL_law 794 = .ok (.ireturn, 1) := by decide +kernel
theorem dL_law_795 : decode cL_law 795 = .ok (.aload_n 1, 1) := by decide +kernel
theorem dL_law_796 : decode cL_law 796 = .ok (.aload_n 0, 1) := by decide +kernel
theorem dL_law_797 : decode cL_law 797 = .ok (.iload_n 3, 1) := by decide +kernel
theorem dL_law_798 : decode cL_law 798 = .ok (.iconst 1, 1) := by decide +kernel
theorem dL_law_799 : decode cL_law 799 = .ok (.iadd, 1) := by decide +kernel
theorem dL_law_800 : decode cL_law 800 = .ok (.iaload, 1) := by decide +kernel
theorem dL_law_801 : decode cL_law 801 = .ok (.invokevirtual 102, 3) := by decide +kernel
theorem dL_law_804 : decode cL_law 804 = .ok (.aload_n 2, 1) := by decide +kernel
theorem dL_law_805 : decode cL_law 805 = .ok (.aload_n 0, 1) := by decide +kernel
theorem dL_law_806 : decode cL_law 806 = .ok (.iload_n 3, 1) := by decide +kernel
theorem dL_law_807 : decode cL_law 807 = .ok (.iconst 1, 1) := by decide +kernel
theorem dL_law_808 : decode cL_law 808 = .ok (.iadd, 1) := by decide +kernel
theorem dL_law_809 : decode cL_law 809 = .ok (.iaload, 1) := by decide +kernel
theorem dL_law_810 : decode cL_law 810 = .ok (.invokevirtual 105, 3) := by decide +kernel
theorem dL_law_813 : decode cL_law 813 = .ok (.if_icmp .eq 213, 3) := by decide +kernel
theorem dL_law_816 : decode cL_law 816 = .ok (.iconst 0, 1) := by decide +kernel
theorem dL_law_817 : decode cL_law 817 = .ok (.ireturn, 1) := by decide +kernel
theorem dL_law_818 : decode cL_law 818 = .ok (.aload_n 1, 1) := by decide +kernel
theorem dL_law_819 : decode cL_law 819 = .ok (.aload_n 0, 1) := by decide +kernel
theorem dL_law_820 : decode cL_law 820 = .ok (.iload_n 3, 1) := by decide +kernel
theorem dL_law_821 : decode cL_law 821 = .ok (.iconst 1, 1) := by decide +kernel
theorem dL_law_822 : decode cL_law 822 = .ok (.iadd, 1) := by decide +kernel
theorem dL_law_823 : decode cL_law 823 = .ok (.iaload, 1) := by decide +kernel
theorem dL_law_824 : decode cL_law 824 = .ok (.aload_n 0, 1) := by decide +kernel
theorem dL_law_825 : decode cL_law 825 = .ok (.iload_n 3, 1) := by decide +kernel
theorem dL_law_826 : decode cL_law 826 = .ok (.iconst 2, 1) := by decide +kernel
theorem dL_law_827 : decode cL_law 827 = .ok (.iadd, 1) := by decide +kernel
theorem dL_law_828 : decode cL_law 828 = .ok (.iaload, 1) := by decide +kernel
theorem dL_law_829 : decode cL_law 829 = .ok (.invokevirtual 106, 3) := by decide +kernel
theorem dL_law_832 : decode cL_law 832 = .ok (.aload_n 2, 1) := by decide +kernel
theorem dL_law_833 : decode cL_law 833 = .ok (.aload_n 0, 1) := by decide +kernel
theorem dL_law_834 : decode cL_law 834 = .ok (.iload_n 3, 1) := by decide +kernel
theorem dL_law_835 : decode cL_law 835 = .ok (.iconst 1, 1) := by decide +kernel
theorem dL_law_836 : decode cL_law 836 = .ok (.iadd, 1) := by decide +kernel
theorem dL_law_837 : decode cL_law 837 = .ok (.iaload, 1) := by decide +kernel
theorem dL_law_838 : decode cL_law 838 = .ok (.aload_n 0, 1) := by decide +kernel
theorem dL_law_839 : decode cL_law 839 = .ok (.iload_n 3, 1) := by decide +kernel
theorem dL_law_840 : decode cL_law 840 = .ok (.iconst 2, 1) := by decide +kernel
theorem dL_law_841 : decode cL_law 841 = .ok (.iadd, 1) := by decide +kernel
theorem dL_law_842 : decode cL_law 842 = .ok (.iaload, 1) := by decide +kernel
theorem dL_law_843 : decode cL_law 843 = .ok (.invokevirtual 109, 3) := by decide +kernel
theorem dL_law_846 : decode cL_law 846 = .ok (.if_icmp .eq 180, 3) := by decide +kernel
theorem dL_law_849 : decode cL_law 849 = .ok (.iconst 0, 1) := by decide +kernel
theorem dL_law_850 : decode cL_law 850 = .ok (.ireturn, 1) := by decide +kernel
theorem dL_law_851 : decode cL_law 851 = .ok (.aload_n 1, 1) := by decide +kernel
theorem dL_law_852 : decode cL_law 852 = .ok (.invokevirtual 110, 3) := by decide +kernel
theorem dL_law_855 : decode cL_law 855 = .ok (.aload_n 2, 1) := by decide +kernel
theorem dL_law_856 : decode cL_law 856 = .ok (.invokevirtual 113, 3) := by decide +kernel
theorem dL_law_859 : decode cL_law 859 = .ok (.if_icmp .eq 167, 3) := by decide +kernel
theorem dL_law_862 : decode cL_law 862 = .ok (.iconst 0, 1) := by decide +kernel
theorem dL_law_863 : decode cL_law 863 = .ok (.ireturn, 1) := by decide +kernel
theorem dL_law_864 : decode cL_law 864 = .ok (.aload_n 1, 1) := by decide +kernel
theorem dL_law_865 : decode cL_law 865 = .ok (.aload_n 0, 1) := by decide +kernel
theorem dL_law_866 : decode cL_law 866 = .ok (.iload_n 3, 1) := by decide +kernel
theorem dL_law_867 : decode cL_law 867 = .ok (.iconst 1, 1) := by decide +kernel
theorem dL_law_868 : decode cL_law 868 = .ok (.iadd, 1) := by decide +kernel
theorem dL_law_869 : decode cL_law 869 = .ok (.iaload, 1) := by decide +kernel
theorem dL_law_870 : decode cL_law 870 = .ok (.invokevirtual 114, 3) := by decide +kernel
theorem dL_law_873 : decode cL_law 873 = .ok (.aload_n 2, 1) := by decide +kernel
theorem dL_law_874 : decode cL_law 874 = .ok (.aload_n 0, 1) := by decide +kernel
theorem dL_law_875 : decode cL_law 875 = .ok (.iload_n 3, 1) := by decide +kernel
theorem dL_law_876 : decode cL_law 876 = .ok (.iconst 1, 1) := by decide +kernel
theorem dL_law_877 : decode cL_law 877 = .ok (.iadd, 1) := by decide +kernel
theorem dL_law_878 : decode cL_law 878 = .ok (.iaload, 1) := by decide +kernel
theorem dL_law_879 : decode cL_law 879 = .ok (.invokevirtual 117, 3) := by decide +kernel
theorem dL_law_882 : decode cL_law 882 = .ok (.if_icmp .eq 144, 3) := by decide +kernel
theorem dL_law_885 : decode cL_law 885 = .ok (.iconst 0, 1) := by decide +kernel
theorem dL_law_886 : decode cL_law 886 = .ok (.ireturn, 1) := by decide +kernel
theorem dL_law_887 : decode cL_law 887 = .ok (.aload_n 1, 1) := by decide +kernel
theorem dL_law_888 : decode cL_law 888 = .ok (.aload_n 0, 1) := by decide +kernel
theorem dL_law_889 : decode cL_law 889 = .ok (.iload_n 3, 1) := by decide +kernel
theorem dL_law_890 : decode cL_law 890 = .ok (.iconst 1, 1) := by decide +kernel
theorem dL_law_891 : decode cL_law 891 = .ok (.iadd, 1) := by decide +kernel
theorem dL_law_892 : decode cL_law 892 = .ok (.iaload, 1) := by decide +kernel
theorem dL_law_893 : decode cL_law 893 = .ok (.invokevirtual 118, 3) := by decide +kernel
theorem dL_law_896 : decode cL_law 896 = .ok (.aload_n 2, 1) := by decide +kernel
theorem dL_law_897 : decode cL_law 897 = .ok (.aload_n 0, 1) := by decide +kernel
theorem dL_law_898 : decode cL_law 898 = .ok (.iload_n 3, 1) := by decide +kernel
theorem dL_law_899 : decode cL_law 899 = .ok (.iconst 1, 1) := by decide +kernel
theorem dL_law_900 : decode cL_law 900 = .ok (.iadd, 1) := by decide +kernel
theorem dL_law_901 : decode cL_law 901 = .ok (.iaload, 1) := by decide +kernel
theorem dL_law_902 : decode cL_law 902 = .ok (.invokevirtual 121, 3) := by decide +kernel
theorem dL_law_905 : decode cL_law 905 = .ok (.if_icmp .eq 121, 3) := by decide +kernel
theorem dL_law_908 : decode cL_law 908 = .ok (.iconst 0, 1) := by decide +kernel
theorem dL_law_909 : decode cL_law 909 = .ok (.ireturn, 1) := by decide +kernel
theorem dL_law_910 : decode cL_law 910 = .ok (.aload_n 1, 1) := by decide +kernel
theorem dL_law_911 : decode cL_law 911 = .ok (.aload_n 0, 1) := by decide +kernel
theorem dL_law_912 : decode cL_law 912 = .ok (.iload_n 3, 1) := by decide +kernel
theorem dL_law_913 : decode cL_law 913 = .ok (.iconst 1, 1) := by decide +kernel
theorem dL_law_914 : decode cL_law 914 = .ok (.iadd, 1) := by decide +kernel
theorem dL_law_915 : decode cL_law 915 = .ok (.iaload, 1) := by decide +kernel
theorem dL_law_916 : decode cL_law 916 = .ok (.aload_n 0, 1) := by decide +kernel
theorem dL_law_917 : decode cL_law 917 = .ok (.iload_n 3, 1) := by decide +kernel
theorem dL_law_918 : decode cL_law 918 = .ok (.iconst 2, 1) := by decide +kernel
theorem dL_law_919 : decode cL_law 919 = .ok (.iadd, 1) := by decide +kernel
theorem dL_law_920 : decode cL_law 920 = .ok (.iaload, 1) := by decide +kernel
theorem dL_law_921 : decode cL_law 921 = .ok (.invokevirtual 122, 3) := by decide +kernel
theorem dL_law_924 : decode cL_law 924 = .ok (.aload_n 2, 1) := by decide +kernel
theorem dL_law_925 : decode cL_law 925 = .ok (.aload_n 0, 1) := by decide +kernel
theorem dL_law_926 : decode cL_law 926 = .ok (.iload_n 3, 1) := by decide +kernel
theorem dL_law_927 : decode cL_law 927 = .ok (.iconst 1, 1) := by decide +kernel
theorem dL_law_928 : decode cL_law 928 = .ok (.iadd, 1) := by decide +kernel
theorem dL_law_929 : decode cL_law 929 = .ok (.iaload, 1) := by decide +kernel
theorem dL_law_930 : decode cL_law 930 = .ok (.aload_n 0, 1) := by decide +kernel
theorem dL_law_931 : decode cL_law 931 = .ok (.iload_n 3, 1) := by decide +kernel
theorem dL_law_932 : decode cL_law 932 = .ok (.iconst 2, 1) := by decide +kernel
theorem dL_law_933 : decode cL_law 933 = .ok (.iadd, 1) := by decide +kernel
theorem dL_law_934 : decode cL_law 934 = .ok (.iaload, 1) := by decide +kernel
theorem dL_law_935 : decode cL_law 935 = .ok (.invokevirtual 125, 3) := by decide +kernel
theorem dL_law_938 : decode cL_law 938 = .ok (.if_icmp .eq 88, 3) := by decide +kernel
theorem dL_law_941 : decode cL_law 941 = .ok (.iconst 0, 1) := by decide +kernel
theorem dL_law_942 : decode cL_law 942 = .ok (.ireturn, 1) := by decide +kernel
theorem dL_law_943 : decode cL_law 943 = .ok (.aload_n 1, 1) := by decide +kernel
theorem dL_law_944 : decode cL_law 944 = .ok (.aload_n 0, 1) := by decide +kernel
theorem dL_law_945 : decode cL_law 945 = .ok (.iload_n 3, 1) := by decide +kernel
theorem dL_law_946 : decode cL_law 946 = .ok (.iconst 1, 1) := by decide +kernel
theorem dL_law_947 : decode cL_law 947 = .ok (.iadd, 1) := by decide +kernel
theorem dL_law_948 : decode cL_law 948 = .ok (.iaload, 1) := by decide +kernel
theorem dL_law_949 : decode cL_law 949 = .ok (.invokevirtual 126, 3) := by decide +kernel
theorem dL_law_952 : decode cL_law 952 = .ok (.aload_n 2, 1) := by decide +kernel
theorem dL_law_953 : decode cL_law 953 = .ok (.aload_n 0, 1) := by decide +kernel
theorem dL_law_954 : decode cL_law 954 = .ok (.iload_n 3, 1) := by decide +kernel
theorem dL_law_955 : decode cL_law 955 = .ok (.iconst 1, 1) := by decide +kernel
theorem dL_law_956 : decode cL_law 956 = .ok (.iadd, 1) := by decide +kernel
theorem dL_law_957 : decode cL_law 957 = .ok (.iaload, 1) := by decide +kernel
theorem dL_law_958 : decode cL_law 958 = .ok (.invokevirtual 129, 3) := by decide +kernel
theorem dL_law_961 : decode cL_law 961 = .ok (.if_icmp .eq 65, 3) := by decide +kernel
theorem dL_law_964 : decode cL_law 964 = .ok (.iconst 0, 1) := by decide +kernel
theorem dL_law_965 : decode cL_law 965 = .ok (.ireturn, 1) := by decide +kernel
theorem dL_law_966 : decode cL_law 966 = .ok (.aload_n 1, 1) := by decide +kernel
theorem dL_law_967 : decode cL_law 967 = .ok (.aload_n 0, 1) := by decide +kernel
theorem dL_law_968 : decode cL_law 968 = .ok (.iload_n 3, 1) := by decide +kernel
theorem dL_law_969 : decode cL_law 969 = .ok (.iconst 1, 1) := by decide +kernel
theorem dL_law_970 : decode cL_law 970 = .ok (.iadd, 1) := by decide +kernel
theorem dL_law_971 : decode cL_law 971 = .ok (.iaload, 1) := by decide +kernel
theorem dL_law_972 : decode cL_law 972 = .ok (.invokevirtual 130, 3) := by decide +kernel
theorem dL_law_975 : decode cL_law 975 = .ok (.aload_n 2, 1) := by decide +kernel
theorem dL_law_976 : decode cL_law 976 = .ok (.aload_n 0, 1) := by decide +kernel
theorem dL_law_977 : decode cL_law 977 = .ok (.iload_n 3, 1) := by decide +kernel
theorem dL_law_978 : decode cL_law 978 = .ok (.iconst 1, 1) := by decide +kernel
theorem dL_law_979 : decode cL_law 979 = .ok (.iadd, 1) := by decide +kernel
theorem dL_law_980 : decode cL_law 980 = .ok (.iaload, 1) := by decide +kernel
theorem dL_law_981 : decode cL_law 981 = .ok (.invokevirtual 133, 3) := by decide +kernel
theorem dL_law_984 : decode cL_law 984 = .ok (.if_icmp .eq 42, 3) := by decide +kernel
theorem dL_law_987 : decode cL_law 987 = .ok (.iconst 0, 1) := by decide +kernel
theorem dL_law_988 : decode cL_law 988 = .ok (.ireturn, 1) := by decide +kernel
theorem dL_law_989 : decode cL_law 989 = .ok (.aload_n 1, 1) := by decide +kernel
theorem dL_law_990 : decode cL_law 990 = .ok (.aload_n 0, 1) := by decide +kernel
theorem dL_law_991 : decode cL_law 991 = .ok (.iload_n 3, 1) := by decide +kernel
theorem dL_law_992 : decode cL_law 992 = .ok (.iconst 1, 1) := by decide +kernel
theorem dL_law_993 : decode cL_law 993 = .ok (.iadd, 1) := by decide +kernel
theorem dL_law_994 : decode cL_law 994 = .ok (.iaload, 1) := by decide +kernel
theorem dL_law_995 : decode cL_law 995 = .ok (.invokevirtual 134, 3) := by decide +kernel
theorem dL_law_998 : decode cL_law 998 = .ok (.aload_n 2, 1) := by decide +kernel
theorem dL_law_999 : decode cL_law 999 = .ok (.aload_n 0, 1) := by decide +kernel
theorem dL_law_1000 : decode cL_law 1000 = .ok (.iload_n 3, 1) := by decide +kernel
theorem dL_law_1001 : decode cL_law 1001 = .ok (.iconst 1, 1) := by decide +kernel
theorem dL_law_1002 : decode cL_law 1002 = .ok (.iadd, 1) := by decide +kernel
theorem dL_law_1003 : decode cL_law 1003 = .ok (.iaload, 1) := by decide +kernel
theorem dL_law_1004 : decode cL_law 1004 = .ok (.invokevirtual 137, 3) := by decide +kernel
theorem dL_law_1007 : decode cL_law 1007 = .ok (.if_icmp .eq 19, 3) := by decide +kernel
theorem dL_law_1010 : decode cL_law 1010 = .ok (.iconst 0, 1) := by decide +kernel
theorem dL_law_1011 : decode cL_law 1011 = .ok (.ireturn, 1) := by decide +kernel
theorem dL_law_1012 : decode cL_law 1012 = .ok (.aload_n 1, 1) := by decide +kernel
theorem dL_law_1013 : decode cL_law 1013 = .ok (.invokevirtual 138, 3) := by decide +kernel
theorem dL_law_1016 : decode cL_law 1016 = .ok (.aload_n 2, 1) := by decide +kernel
theorem dL_law_1017 : decode cL_law 1017 = .ok (.invokevirtual 142, 3) := by decide +kernel
theorem dL_law_1020 : decode cL_law 1020 = .ok (.lcmp, 1) := by decide +kernel
theorem dL_law_1021 : decode cL_law 1021 = .ok (.ifCond .eq 5, 3) := by decide +kernel
theorem dL_law_1024 : decode cL_law 1024 = .ok (.iconst 0, 1) := by decide +kernel
theorem dL_law_1025 : decode cL_law 1025 = .ok (.ireturn, 1) := by decide +kernel
theorem dL_law_1026 : decode cL_law 1026 = .ok (.iinc 3 5, 3) := by decide +kernel
theorem dL_law_1029 : decode cL_law 1029 = .ok (.goto (-1011), 3) := by decide +kernel
theorem dL_law_1032 : decode cL_law 1032 = .ok (.iconst 1, 1) := by decide +kernel
theorem dL_law_1033 : decode cL_law 1033 = .ok (.ireturn, 1) := by decide +kernel
end
section
/-! the words, the two worlds, and a row for each field and array of them -/
def zWs : List Cond := lw_tbl.filter goodWord
theorem z_at {w : Cond} (i : Nat) (h : lw_tbl[i]? = some w) (hg : goodWord w = true) : w ∈ zWs := List.mem_filter.mpr ⟨List.mem_of_getElem? h, hg⟩
theorem z_good {w : Cond} (h : w ∈ zWs) : w ∈ zWs ∧ ((w.onTables && w.keeps) = true ∨ ∃ ty, w = .arrayClass ty) := ⟨h, good_of_word (List.mem_filter.mp h).2⟩
theorem z_gV {own C : String} {idx n : Nat} {y : MethodName} {bytes : ByteArray} {ret : Option FieldType} (h1 : Cond.methodLink own idx y ∈ zWs) (h2 : Cond.instanceMethod y ∈ zWs) (h3 : Cond.selects C y y ∈ zWs) (h4 : Cond.initialized C ∈ zWs) (h5 : Cond.code y bytes n ret ∈ zWs) : GoodIn zWs (wsV own idx C y (.code y bytes n ret :: zWs)) := by
  intro w hw
  refine z_good ?_
  unfold wsV at hw
  simp only [List.cons_append, List.nil_append, List.mem_cons] at hw
  rcases hw with rfl | rfl | rfl | rfl | rfl | hw <;> assumption
theorem z_gS {own : String} {idx n : Nat} {y : MethodName} {bytes : ByteArray} {ret : Option FieldType} (h1 : Cond.methodLink own idx y ∈ zWs) (h2 : Cond.static y ∈ zWs) (h4 : Cond.initialized y.cls ∈ zWs) (h5 : Cond.code y bytes n ret ∈ zWs) : GoodIn zWs (va_wsS own idx y (.code y bytes n ret :: zWs)) := by
  intro w hw
  refine z_good ?_
  unfold va_wsS at hw
  simp only [List.cons_append, List.nil_append, List.mem_cons] at hw
  rcases hw with rfl | rfl | rfl | rfl | hw <;> assumption
theorem z_gC {n : Nat} {y : MethodName} {bytes : ByteArray} {ret : Option FieldType} (h5 : Cond.code y bytes n ret ∈ zWs) : GoodIn zWs (.code y bytes n ret :: zWs) := by
  intro w hw
  refine z_good ?_
  rcases List.mem_cons.mp hw with rfl | hw <;> assumption
set_option maxRecDepth 20000 in
theorem inZ1 : ∀ w ∈ u_ws RX1 TX1 15, w ∈ zWs := by
  have e : u_ws RX1 TX1 15 = [272, 274, 276, 278, 280, 282, 284, 286, 288, 290, 292, 294, 296, 298, 300].filterMap (fun i => lw_tbl[i]?) := by decide +kernel
  have g : (u_ws RX1 TX1 15).all goodWord = true := by decide +kernel
  intro w hw
  have h1 := List.all_eq_true.mp g w hw
  rw [e] at hw
  obtain ⟨i, -, hi⟩ := List.mem_filterMap.mp hw
  exact z_at i hi h1
set_option maxRecDepth 20000 in
theorem inZ5 : ∀ w ∈ u_ws RX5 TX5 6, w ∈ zWs := by
  have e : u_ws RX5 TX5 6 = [133, 135, 137, 139, 141, 143].filterMap (fun i => lw_tbl[i]?) := by decide +kernel
  have g : (u_ws RX5 TX5 6).all goodWord = true := by decide +kernel
  intro w hw
  have h1 := List.all_eq_true.mp g w hw
  rw [e] at hw
  obtain ⟨i, -, hi⟩ := List.mem_filterMap.mp hw
  exact z_at i hi h1
set_option maxRecDepth 20000 in
theorem inZ6 : ∀ w ∈ u_ws RX6 TX6 5, w ∈ zWs := by
  have e : u_ws RX6 TX6 5 = [162, 164, 166, 168, 170].filterMap (fun i => lw_tbl[i]?) := by decide +kernel
  have g : (u_ws RX6 TX6 5).all goodWord = true := by decide +kernel
  intro w hw
  have h1 := List.all_eq_true.mp g w hw
  rw [e] at hw
  obtain ⟨i, -, hi⟩ := List.mem_filterMap.mp hw
  exact z_at i hi h1
set_option maxRecDepth 20000 in
theorem inZ7 : ∀ w ∈ u_ws RX7 TX7 9, w ∈ zWs := by
  have e : u_ws RX7 TX7 9 = [96, 98, 100, 102, 104, 106, 108, 110, 112].filterMap (fun i => lw_tbl[i]?) := by decide +kernel
  have g : (u_ws RX7 TX7 9).all goodWord = true := by decide +kernel
  intro w hw
  have h1 := List.all_eq_true.mp g w hw
  rw [e] at hw
  obtain ⟨i, -, hi⟩ := List.mem_filterMap.mp hw
  exact z_at i hi h1
set_option maxRecDepth 20000 in
theorem inZ10 : ∀ w ∈ u_ws RX10 TX10 13, w ∈ zWs := by
  have e : u_ws RX10 TX10 13 = [334, 336, 338, 340, 342, 344, 346, 348, 350, 352, 354, 356, 358].filterMap (fun i => lw_tbl[i]?) := by decide +kernel
  have g : (u_ws RX10 TX10 13).all goodWord = true := by decide +kernel
  intro w hw
  have h1 := List.all_eq_true.mp g w hw
  rw [e] at hw
  obtain ⟨i, -, hi⟩ := List.mem_filterMap.mp hw
  exact z_at i hi h1
set_option maxRecDepth 20000 in
theorem inZ11 : ∀ w ∈ u_ws RX11 TX11 32, w ∈ zWs := by
  have e : u_ws RX11 TX11 32 = [760, 762, 764, 766, 768, 770, 772, 774, 776, 778, 780, 782, 784, 786, 788, 790, 792, 794, 796, 798, 800, 802, 804, 806, 808, 810, 812, 814, 816, 818, 820, 822].filterMap (fun i => lw_tbl[i]?) := by decide +kernel
  have g : (u_ws RX11 TX11 32).all goodWord = true := by decide +kernel
  intro w hw
  have h1 := List.all_eq_true.mp g w hw
  rw [e] at hw
  obtain ⟨i, -, hi⟩ := List.mem_filterMap.mp hw
  exact z_at i hi h1
abbrev ZF : Type := Nat → Int32
abbrev ZA : Type := Nat → Nat → Int32
abbrev ZS : Type := ZF × ZA × Int64
def zst (A : ZA) (k i : Nat) (x : Int32) : ZA := va_up A k (upd (A k) i x)
def zrw (A : ZA) (k : Nat) (f : Nat → Int32) : ZA := va_up A k f
def gok (i : Int32) (n : Nat) : Bool := !(decide (i < 0) || decide (n ≤ i.toNatClampNeg))
theorem gok_in {i : Int32} {n : Nat} (h : gok i n = true) : vp_in i n := by
  simp [gok] at h
  intro q
  rcases q with q | q
  · exact absurd q (by simpa using h.1)
  · exact absurd q (Nat.not_le.mpr h.2)
theorem gok_of {i : Int32} {n : Nat} (h : vp_in i n) : gok i n = true := by
  unfold vp_in at h
  simp [gok]
  exact ⟨by simpa using fun q => h (Or.inl q), Nat.not_le.mp fun q => h (Or.inr q)⟩
theorem og_t {α : Type} {c : Prop} [Decidable c] {x y r : α} (hc : c) (h : (if c then x else y) = r) : x = r := by rw [if_pos hc] at h; exact h
theorem og_f {α : Type} {c : Prop} [Decidable c] {x y r : α} (hc : ¬ c) (h : (if c then x else y) = r) : y = r := by rw [if_neg hc] at h; exact h
theorem og_g {α : Type} {c : Prop} [Decidable c] {x : Option α} {r : α} (h : (if c then x else none) = some r) : c ∧ x = some r := by
  by_cases hc : c
  · rw [if_pos hc] at h; exact ⟨hc, h⟩
  · rw [if_neg hc] at h; cases h
theorem og_d {α : Type} {c : Prop} [Decidable c] {x : Option α} {r : α} (h : (if c then none else x) = some r) : ¬ c ∧ x = some r := by
  by_cases hc : c
  · rw [if_pos hc] at h; cases h
  · rw [if_neg hc] at h; exact ⟨hc, h⟩
theorem og_b {α β : Type} {x : Option α} {f : α → Option β} {r : β} (h : x.bind f = some r) : ∃ q, x = some q ∧ f q = some r := by
  cases x with
  | none => cases h
  | some q => exact ⟨q, rfl, h⟩
theorem og_n {v : Int32} (h : v &&& 1 = v) : narrow .boolean (.int v) = .int v := congrArg Value.int h
def zNs : List Cond := [.methodLinkNest "FifthsOfGuilt" 9 ⟨"FifthsOfGuilt$TextReader", "<init>", "()V"⟩ "FifthsOfGuilt", .methodLinkNest "FifthsOfGuilt" 18 ⟨"FifthsOfGuilt$Scales", "<init>", "()V"⟩ "FifthsOfGuilt", .methodLinkNest "FifthsOfGuilt" 25 ⟨"FifthsOfGuilt$Standing", "<init>", "()V"⟩ "FifthsOfGuilt", .methodLinkNest "FifthsOfGuilt" 40 ⟨"FifthsOfGuilt$AnySuspect", "<init>", "()V"⟩ "FifthsOfGuilt", .methodLinkNest "FifthsOfGuilt" 43 ⟨"FifthsOfGuilt$Thief", "<init>", "()V"⟩ "FifthsOfGuilt", .methodLinkNest "FifthsOfGuilt$Thief" 1 ⟨"FifthsOfGuilt$AnySuspect", "<init>", "()V"⟩ "FifthsOfGuilt", .methodLinkNest "FifthsOfGuilt" 46 ⟨"FifthsOfGuilt$Witness", "<init>", "()V"⟩ "FifthsOfGuilt", .methodLinkNest "FifthsOfGuilt$Witness" 1 ⟨"FifthsOfGuilt$AnySuspect", "<init>", "()V"⟩ "FifthsOfGuilt", .methodLinkNest "FifthsOfGuilt" 49 ⟨"FifthsOfGuilt$Chief", "<init>", "()V"⟩ "FifthsOfGuilt", .methodLinkNest "FifthsOfGuilt$Chief" 1 ⟨"FifthsOfGuilt$Thief", "<init>", "()V"⟩ "FifthsOfGuilt", .methodLinkNest "FifthsOfGuilt" 52 ⟨"FifthsOfGuilt$Juror", "<init>", "()V"⟩ "FifthsOfGuilt", .methodLinkNest "FifthsOfGuilt$Juror" 1 ⟨"FifthsOfGuilt$Witness", "<init>", "()V"⟩ "FifthsOfGuilt", .methodLinkNest "FifthsOfGuilt" 55 ⟨"FifthsOfGuilt$Saint", "<init>", "()V"⟩ "FifthsOfGuilt", .methodLinkNest "FifthsOfGuilt$Saint" 1 ⟨"FifthsOfGuilt$AnySuspect", "<init>", "()V"⟩ "FifthsOfGuilt", .methodLinkNest "FifthsOfGuilt" 72 ⟨"FifthsOfGuilt$CaseFile", "<init>", "()V"⟩ "FifthsOfGuilt", .fieldLinkNest "FifthsOfGuilt$AnySuspect" 13 "FifthsOfGuilt" "scales" "LFifthsOfGuilt$Scales;" "FifthsOfGuilt", .fieldLinkNest "FifthsOfGuilt$Saint" 19 "FifthsOfGuilt" "present" "LFifthsOfGuilt$Standing;" "FifthsOfGuilt", .fieldLinkNest "FifthsOfGuilt$AnySuspect" 7 "FifthsOfGuilt" "trace" "J" "FifthsOfGuilt", .fieldLinkNest "FifthsOfGuilt$Chief" 7 "FifthsOfGuilt" "trace" "J" "FifthsOfGuilt", .fieldLinkNest "FifthsOfGuilt$Thief" 7 "FifthsOfGuilt" "trace" "J" "FifthsOfGuilt", .fieldLinkNest "FifthsOfGuilt$Juror" 7 "FifthsOfGuilt" "trace" "J" "FifthsOfGuilt", .fieldLinkNest "FifthsOfGuilt$Witness" 7 "FifthsOfGuilt" "trace" "J" "FifthsOfGuilt", .fieldLinkNest "FifthsOfGuilt$Saint" 7 "FifthsOfGuilt" "trace" "J" "FifthsOfGuilt", .fieldLinkNest "FifthsOfGuilt$Thief" 19 "FifthsOfGuilt" "told" "LFifthsOfGuilt$CaseFile;" "FifthsOfGuilt", .fieldLinkNest "FifthsOfGuilt$Witness" 15 "FifthsOfGuilt" "told" "LFifthsOfGuilt$CaseFile;" "FifthsOfGuilt", .methodLinkNest "FifthsOfGuilt$TextReader" 69 ⟨"FifthsOfGuilt", "within", "(III)Z"⟩ "FifthsOfGuilt", .methodLinkNest "FifthsOfGuilt$Scales" 44 ⟨"FifthsOfGuilt", "bit", "(II)I"⟩ "FifthsOfGuilt", .methodLinkNest "FifthsOfGuilt$CaseFile" 58 ⟨"FifthsOfGuilt", "bit", "(II)I"⟩ "FifthsOfGuilt"]
def zNw (s : State) : Prop := ∀ w ∈ zNs, va_Nw w s
theorem zNw.warm {s U : State} (hW : s.WarmedH U.vm) (h : zNw s) : zNw U := by
  intro w hw
  have h1 := h w hw
  simp only [zNs, List.mem_cons, List.not_mem_nil, or_false] at hw
  rcases hw with rfl | rfl | rfl | rfl | rfl | rfl | rfl | rfl | rfl | rfl | rfl | rfl | rfl | rfl | rfl | rfl | rfl | rfl | rfl | rfl | rfl | rfl | rfl | rfl | rfl | rfl | rfl | rfl
  · exact va_Nw.warmM hW h1
  · exact va_Nw.warmM hW h1
  · exact va_Nw.warmM hW h1
  · exact va_Nw.warmM hW h1
  · exact va_Nw.warmM hW h1
  · exact va_Nw.warmM hW h1
  · exact va_Nw.warmM hW h1
  · exact va_Nw.warmM hW h1
  · exact va_Nw.warmM hW h1
  · exact va_Nw.warmM hW h1
  · exact va_Nw.warmM hW h1
  · exact va_Nw.warmM hW h1
  · exact va_Nw.warmM hW h1
  · exact va_Nw.warmM hW h1
  · exact va_Nw.warmM hW h1
  · exact va_Nw.warmF hW h1
  · exact va_Nw.warmF hW h1
  · exact va_Nw.warmF hW h1
  · exact va_Nw.warmF hW h1
  · exact va_Nw.warmF hW h1
  · exact va_Nw.warmF hW h1
  · exact va_Nw.warmF hW h1
  · exact va_Nw.warmF hW h1
  · exact va_Nw.warmF hW h1
  · exact va_Nw.warmF hW h1
  · exact va_Nw.warmM hW h1
  · exact va_Nw.warmM hW h1
  · exact va_Nw.warmM hW h1
theorem zNw.same {s U : State} (hv : s.vm = U.vm) (h : zNw s) : zNw U := by
  intro w hw
  have h1 := h w hw
  simp only [zNs, List.mem_cons, List.not_mem_nil, or_false] at hw
  rcases hw with rfl | rfl | rfl | rfl | rfl | rfl | rfl | rfl | rfl | rfl | rfl | rfl | rfl | rfl | rfl | rfl | rfl | rfl | rfl | rfl | rfl | rfl | rfl | rfl | rfl | rfl | rfl | rfl <;> exact va_Nw.same rfl hv h1
def tyL (cs : Nat → ClassId) : List (ClassId × FieldType) := [(cs 0, .int), (cs 1, .byte), (cs 2, .boolean), (cs 3, .object "FifthsOfGuilt$AnySuspect"), (cs 4, .object "FifthsOfGuilt$Standing")]
def zIm (ad : Nat → Nat) : Nat → Option Nat := fun k => if k = 0 then some (ad 19) else if k = 1 then some (ad 20) else none
def zKd (ad : Nat → Nat) : Nat → Option Nat := fun k => if k = 0 then some (ad 23) else if k = 1 then some (ad 24) else if k = 2 then some (ad 25) else if k = 3 then some (ad 26) else if k = 4 then some (ad 27) else if k = 5 then some (ad 28) else none
def XWc (cs : Nat → ClassId) (ad : Nat → Nat) (td dr : Nat) (F : ZF) (A : ZA) (T : Int64) : va_W := [(ad 0, .inr (10, [.ref (ad 1), .ref (ad 2), .ref (ad 3), .ref (ad 4), .ref (ad 5), .ref (ad 6), .ref (ad 7), .ref (ad 8), .ref (ad 9), .int (F 0), .long T, .ref (ad td), .ref (ad dr)])),
  (ad 1, .inr (7, [.ref (ad 12), .int (F 1), .ref (ad 13), .int (F 2), .int (F 3), .int (F 4), .int (F 5), .int (F 6), .int (F 7)])),
  (ad 2, .inr (5, [.ref (ad 14), .ref (ad 15), .ref (ad 16), .int (F 8), .ref (ad 17), .int (F 9)])),
  (ad 3, .inr (6, [.int (F 10), .int (F 11), .int (F 12), .int (F 13), .ref (ad 18)])),
  (ad 4, .inl (cs 4, 2, .inr (.inr (.inr (.inr (zIm ad)))))),
  (ad 5, .inl (cs 2, 2, .inl (A 5))),
  (ad 6, .inl (cs 3, 6, .inr (.inr (.inr (.inr (zKd ad)))))),
  (ad 7, .inl (cs 0, 8, .inl (A 7))),
  (ad 8, .inl (cs 0, 6, .inl (A 8))),
  (ad 9, .inl (cs 0, 6, .inl (A 9))),
  (ad 10, .inr (1, [.int (F 22), .int (F 23), .int (F 24), .int (F 25), .int (F 26), .int (F 27), .ref (ad 29), .ref (ad 30), .ref (ad 31), .ref (ad 32), .ref (ad 33), .ref (ad 34), .ref (ad 35), .ref (ad 36), .ref (ad 37)])),
  (ad 11, .inr (1, [.int (F 28), .int (F 29), .int (F 30), .int (F 31), .int (F 32), .int (F 33), .ref (ad 38), .ref (ad 39), .ref (ad 40), .ref (ad 41), .ref (ad 42), .ref (ad 43), .ref (ad 44), .ref (ad 45), .ref (ad 46)])),
  (ad 12, .inl (cs 0, 200, .inl (A 12))),
  (ad 13, .inl (cs 0, 8, .inl (A 13))),
  (ad 14, .inl (cs 0, 6, .inl (A 14))),
  (ad 15, .inl (cs 0, 6, .inl (A 15))),
  (ad 16, .inl (cs 0, 6, .inl (A 16))),
  (ad 17, .inl (cs 0, 6, .inl (A 17))),
  (ad 18, .inl (cs 0, 10, .inl (A 18))),
  (ad 19, .inr (6, [.int (F 14), .int (F 15), .int (F 16), .int (F 17), .ref (ad 21)])),
  (ad 20, .inr (6, [.int (F 18), .int (F 19), .int (F 20), .int (F 21), .ref (ad 22)])),
  (ad 21, .inl (cs 0, 10, .inl (A 21))),
  (ad 22, .inl (cs 0, 10, .inl (A 22))),
  (ad 23, .inr (0, [])),
  (ad 24, .inr (8, [])),
  (ad 25, .inr (9, [])),
  (ad 26, .inr (2, [])),
  (ad 27, .inr (3, [])),
  (ad 28, .inr (4, [])),
  (ad 29, .inl (cs 0, 6, .inl (A 29))),
  (ad 30, .inl (cs 0, 8, .inl (A 30))),
  (ad 31, .inl (cs 0, 8, .inl (A 31))),
  (ad 32, .inl (cs 0, 48, .inl (A 32))),
  (ad 33, .inl (cs 0, 48, .inl (A 33))),
  (ad 34, .inl (cs 0, 8, .inl (A 34))),
  (ad 35, .inl (cs 0, 8, .inl (A 35))),
  (ad 36, .inl (cs 0, 8, .inl (A 36))),
  (ad 37, .inl (cs 0, 8, .inl (A 37))),
  (ad 38, .inl (cs 0, 6, .inl (A 38))),
  (ad 39, .inl (cs 0, 8, .inl (A 39))),
  (ad 40, .inl (cs 0, 8, .inl (A 40))),
  (ad 41, .inl (cs 0, 48, .inl (A 41))),
  (ad 42, .inl (cs 0, 48, .inl (A 42))),
  (ad 43, .inl (cs 0, 8, .inl (A 43))),
  (ad 44, .inl (cs 0, 8, .inl (A 44))),
  (ad 45, .inl (cs 0, 8, .inl (A 45))),
  (ad 46, .inl (cs 0, 8, .inl (A 46)))]
abbrev XW (cs : Nat → ClassId) (ad : Nat → Nat) (F : ZF) (A : ZA) (T : Int64) : va_W := XWc cs ad 10 11 F A T
def MW (cs : Nat → ClassId) (ad : Nat → Nat) (F : ZF) (A : ZA) (T : Int64) : va_W := [(ad 0, .inr (11, [.long T, .ref (ad 1), .int (F 0), .ref (ad 2), .ref (ad 3), .ref (ad 4), .ref (ad 5), .ref (ad 6), .ref (ad 7), .ref (ad 8), .ref (ad 9), .ref (ad 10), .ref (ad 11), .ref (ad 12), .ref (ad 13), .ref (ad 14), .int (F 1), .int (F 2), .int (F 3), .int (F 4), .int (F 5), .int (F 6), .int (F 7), .int (F 8), .ref (ad 15), .ref (ad 16), .ref (ad 17), .int (F 9), .ref (ad 18), .ref (ad 19), .ref (ad 20), .int (F 10)])),
  (ad 1, .inl (cs 1, 200, .inl (A 1))),
  (ad 2, .inl (cs 0, 2, .inl (A 2))),
  (ad 3, .inl (cs 0, 12, .inl (A 3))),
  (ad 4, .inl (cs 0, 2, .inl (A 4))),
  (ad 5, .inl (cs 0, 16, .inl (A 5))),
  (ad 6, .inl (cs 0, 16, .inl (A 6))),
  (ad 7, .inl (cs 0, 96, .inl (A 7))),
  (ad 8, .inl (cs 0, 2, .inl (A 8))),
  (ad 9, .inl (cs 0, 16, .inl (A 9))),
  (ad 10, .inl (cs 0, 16, .inl (A 10))),
  (ad 11, .inl (cs 0, 16, .inl (A 11))),
  (ad 12, .inl (cs 0, 16, .inl (A 12))),
  (ad 13, .inl (cs 0, 2, .inl (A 13))),
  (ad 14, .inl (cs 0, 2, .inl (A 14))),
  (ad 15, .inl (cs 0, 102, .inl (A 15))),
  (ad 16, .inl (cs 2, 2, .inl (A 16))),
  (ad 17, .inl (cs 0, 6, .inl (A 17))),
  (ad 18, .inl (cs 0, 6, .inl (A 18))),
  (ad 19, .inl (cs 0, 6, .inl (A 19))),
  (ad 20, .inl (cs 0, 6, .inl (A 20)))]
def ZW (D : va_G) (A0 : Nat → Prop) (H0 : Heap) (ws : va_W) (H : Heap) (locs : List Loc) : Prop := va_P D vwCl ws H ∧ va_D A0 ws ∧ va_S A0 H0 H locs
def ZK (D : va_G) (cs : Nat → ClassId) (s : State) : Prop := va_K D vwCl (tyL cs) s ∧ zNw s
section Z1
variable {p : Program} {l : Launch} {e : Env} {R : Room} {s : State} {m : MethodId} {args : Array Value} {below : List Frame} {meth : Method} {c : Code} {H : Heap} {locs : List Loc} {cells slots : Nat} {Q : State → Prop} {cc : ByteArray} {pc nL : Nat} {ls : Array Slot} {rest : List Value} {own : String} {D : va_G} {cs : Nat → ClassId} {ad : Nat → Nat} {A0 : Nat → Prop} {H0 : Heap} {F : Nat → Int32} {A : Nat → Nat → Int32} {T : Int64} {td dr : Nat} {index : Nat}
theorem z_get {ws : va_W} (S : CallFix p m c cc nL s args zWs own) (K : ZK D cs s) (w : ZW D A0 H0 ws H locs) {ref C : String} {T : u_T} {N ci : Nat} (hin : ∀ w ∈ u_ws C T N, w ∈ zWs) (q0 : Nat) {a : Nat} {fs : List Value} (he : ws[q0]? = some (a, .inr (ci, fs))) (hc : vwCl[ci]? = some (C, T, N)) (k : Nat) (hk : k < N) (hl : Cond.fieldLink own index ref (T k).2.1 (T k).2.2.1 ∈ zWs) (href : (T k).1 = ref) {v : Value} (hv : fs[k]? = some v) (hd : decode cc pc = .ok (.getfield index, 3)) (kk : W p l e R s m args below meth c H locs cells slots Q (F0 m (pc + 3) ls (v :: rest))) : W p l e R s m args below meth c H locs cells slots Q (F0 m pc ls (.ref a :: rest)) :=
  va_get S.1 S.2.1 S.2.2.2.2 hin S.2.2.2.1 K.1 w.1 q0 he hc k hk (S.2.2.2.2 _ hl) (by rw [href]; exact fun _ h => h) hv hd kk
theorem z_getN {ws : va_W} (S : CallFix p m c cc nL s args zWs own) (K : ZK D cs s) (w : ZW D A0 H0 ws H locs) {ref C host : String} {T : u_T} {N ci : Nat} (hin : ∀ w ∈ u_ws C T N, w ∈ zWs) (q0 : Nat) {a : Nat} {fs : List Value} (he : ws[q0]? = some (a, .inr (ci, fs))) (hc : vwCl[ci]? = some (C, T, N)) (k : Nat) (hk : k < N) (hl : Cond.fieldLinkNest own index ref (T k).2.1 (T k).2.2.1 host ∈ zNs) (href : (T k).1 = ref) {v : Value} (hv : fs[k]? = some v) (hd : decode cc pc = .ok (.getfield index, 3)) (kk : W p l e R s m args below meth c H locs cells slots Q (F0 m (pc + 3) ls (v :: rest))) : W p l e R s m args below meth c H locs cells slots Q (F0 m pc ls (.ref a :: rest)) :=
  va_getN S.1 S.2.1 S.2.2.2.2 hin S.2.2.2.1 K.1 w.1 q0 he hc k hk (va_Nw.use rfl (K.2 _ hl)) (by rw [href]; exact fun _ h => h) hv hd kk
theorem z_put {ws ws' : va_W} (S : CallFix p m c cc nL s args zWs own) (K : ZK D cs s) (w : ZW D A0 H0 ws H locs) {ref C : String} {T : u_T} {N ci : Nat} (hin : ∀ w ∈ u_ws C T N, w ∈ zWs) (ty0 : Nat → FieldType) (hty : ∀ k, k < N → parseFieldDescriptor (T k).2.2.1 = some (ty0 k)) (hnm : ∀ a, a < N → ∀ b, b < N → a ≠ b → (T a).2.1 ≠ (T b).2.1) (q0 : Nat) {a : Nat} {fs : List Value} (he : ws[q0]? = some (a, .inr (ci, fs))) (hc : vwCl[ci]? = some (C, T, N)) (k : Nat) (hk : k < N) (hl : Cond.fieldLink own index ref (T k).2.1 (T k).2.2.1 ∈ zWs) (href : (T k).1 = ref) (hfin : (T k).2.2.2 = false) {ty : FieldType} {v : Value} (hd : parseFieldDescriptor (T k).2.2.1 = some ty) (hn : narrow ty v = v) (hfit : fits ty v = true) (hlen : k < fs.length) (hw : ws.set q0 (a, .inr (ci, fs.set k v)) = ws')
    (hdg : decode cc pc = .ok (.putfield index, 3)) (kk : ∀ (H1 : Heap) (locs1 : List Loc), ZW D A0 H0 ws' H1 locs1 → W p l e R s m args below meth c H1 locs1 cells slots Q (F0 m (pc + 3) ls rest)) : W p l e R s m args below meth c H locs cells slots Q (F0 m pc ls (v :: .ref a :: rest)) :=
  va_put S.1 S.2.1 S.2.2.2.2 hin ty0 hty hnm S.2.2.2.1 K.1 w.1 w.2.1 w.2.2 q0 he hc k hk (S.2.2.2.2 _ hl) (by rw [href]; exact fun _ h => h) hfin hd hn hfit hlen hdg (fun H1 locs1 h1 h2 h3 => kk H1 locs1 ⟨hw ▸ h1, hw ▸ h2, h3⟩)
theorem z_putN {ws ws' : va_W} (S : CallFix p m c cc nL s args zWs own) (K : ZK D cs s) (w : ZW D A0 H0 ws H locs) {ref C host : String} {T : u_T} {N ci : Nat} (hin : ∀ w ∈ u_ws C T N, w ∈ zWs) (ty0 : Nat → FieldType) (hty : ∀ k, k < N → parseFieldDescriptor (T k).2.2.1 = some (ty0 k)) (hnm : ∀ a, a < N → ∀ b, b < N → a ≠ b → (T a).2.1 ≠ (T b).2.1) (q0 : Nat) {a : Nat} {fs : List Value} (he : ws[q0]? = some (a, .inr (ci, fs))) (hc : vwCl[ci]? = some (C, T, N)) (k : Nat) (hk : k < N) (hl : Cond.fieldLinkNest own index ref (T k).2.1 (T k).2.2.1 host ∈ zNs) (href : (T k).1 = ref) (hfin : (T k).2.2.2 = false) {ty : FieldType} {v : Value} (hd : parseFieldDescriptor (T k).2.2.1 = some ty) (hn : narrow ty v = v) (hfit : fits ty v = true) (hlen : k < fs.length) (hw : ws.set q0 (a, .inr (ci, fs.set k v)) = ws')
    (hdg : decode cc pc = .ok (.putfield index, 3)) (kk : ∀ (H1 : Heap) (locs1 : List Loc), ZW D A0 H0 ws' H1 locs1 → W p l e R s m args below meth c H1 locs1 cells slots Q (F0 m (pc + 3) ls rest)) : W p l e R s m args below meth c H locs cells slots Q (F0 m pc ls (v :: .ref a :: rest)) :=
  va_putN S.1 S.2.1 S.2.2.2.2 hin ty0 hty hnm S.2.2.2.1 K.1 w.1 w.2.1 w.2.2 q0 he hc k hk (va_Nw.use rfl (K.2 _ hl)) (by rw [href]; exact fun _ h => h) hfin hd hn hfit hlen hdg (fun H1 locs1 h1 h2 h3 => kk H1 locs1 ⟨hw ▸ h1, hw ▸ h2, h3⟩)
theorem z_recv {ws : va_W} (K : ZK D cs s) (w : ZW D A0 H0 ws H locs) (q0 ci : Nat) {C : String} {T : u_T} {N : Nat} {b : Nat} {fs : List Value} (he : ws[q0]? = some (b, .inr (ci, fs))) (hc : vwCl[ci]? = some (C, T, N)) : ∃ cell : Cell, H[b]? = some cell ∧ cell.vm.isStatics = false ∧ s.vm.findClass C = some cell.cls := va_recv K.1 w.1 hc he
end Z1
section Z2
variable {p : Program} {l : Launch} {e : Env} {R : Room} {s : State} {m : MethodId} {args : Array Value} {below : List Frame} {meth : Method} {c : Code} {H : Heap} {locs : List Loc} {cells slots : Nat} {Q : State → Prop} {cc : ByteArray} {pc nL : Nat} {ls : Array Slot} {rest : List Value} {own : String} {D : va_G} {cs : Nat → ClassId} {ad : Nat → Nat} {A0 : Nat → Prop} {H0 : Heap} {F : Nat → Int32} {A : Nat → Nat → Int32} {T : Int64} {td dr : Nat} {index : Nat}
theorem gX_0_0 (S : CallFix p m c cc nL s args zWs own) (K : ZK D cs s) (w : ZW D A0 H0 (XWc cs ad td dr F A T) H locs) (hl : Cond.fieldLink own index "FifthsOfGuilt" "text" "LFifthsOfGuilt$TextReader;" ∈ zWs) (hd : decode cc pc = .ok (.getfield index, 3)) (kk : W p l e R s m args below meth c H locs cells slots Q (F0 m (pc + 3) ls (.ref (ad 1) :: rest))) : W p l e R s m args below meth c H locs cells slots Q (F0 m pc ls (.ref (ad 0) :: rest)) :=
  z_get (C := RX10) (T := TX10) (N := 13) (ci := 10) S K w inZ10 0 rfl rfl 0 (by decide) hl rfl rfl hd kk
theorem gX_0_1 (S : CallFix p m c cc nL s args zWs own) (K : ZK D cs s) (w : ZW D A0 H0 (XWc cs ad td dr F A T) H locs) (hl : Cond.fieldLink own index "FifthsOfGuilt" "scales" "LFifthsOfGuilt$Scales;" ∈ zWs) (hd : decode cc pc = .ok (.getfield index, 3)) (kk : W p l e R s m args below meth c H locs cells slots Q (F0 m (pc + 3) ls (.ref (ad 2) :: rest))) : W p l e R s m args below meth c H locs cells slots Q (F0 m pc ls (.ref (ad 0) :: rest)) :=
  z_get (C := RX10) (T := TX10) (N := 13) (ci := 10) S K w inZ10 0 rfl rfl 1 (by decide) hl rfl rfl hd kk
theorem gX_0_2 (S : CallFix p m c cc nL s args zWs own) (K : ZK D cs s) (w : ZW D A0 H0 (XWc cs ad td dr F A T) H locs) (hl : Cond.fieldLink own index "FifthsOfGuilt" "present" "LFifthsOfGuilt$Standing;" ∈ zWs) (hd : decode cc pc = .ok (.getfield index, 3)) (kk : W p l e R s m args below meth c H locs cells slots Q (F0 m (pc + 3) ls (.ref (ad 3) :: rest))) : W p l e R s m args below meth c H locs cells slots Q (F0 m pc ls (.ref (ad 0) :: rest)) :=
  z_get (C := RX10) (T := TX10) (N := 13) (ci := 10) S K w inZ10 0 rfl rfl 2 (by decide) hl rfl rfl hd kk
theorem gX_0_3 (S : CallFix p m c cc nL s args zWs own) (K : ZK D cs s) (w : ZW D A0 H0 (XWc cs ad td dr F A T) H locs) (hl : Cond.fieldLink own index "FifthsOfGuilt" "images" "[LFifthsOfGuilt$Standing;" ∈ zWs) (hd : decode cc pc = .ok (.getfield index, 3)) (kk : W p l e R s m args below meth c H locs cells slots Q (F0 m (pc + 3) ls (.ref (ad 4) :: rest))) : W p l e R s m args below meth c H locs cells slots Q (F0 m pc ls (.ref (ad 0) :: rest)) :=
  z_get (C := RX10) (T := TX10) (N := 13) (ci := 10) S K w inZ10 0 rfl rfl 3 (by decide) hl rfl rfl hd kk
theorem gX_0_4 (S : CallFix p m c cc nL s args zWs own) (K : ZK D cs s) (w : ZW D A0 H0 (XWc cs ad td dr F A T) H locs) (hl : Cond.fieldLink own index "FifthsOfGuilt" "kept" "[Z" ∈ zWs) (hd : decode cc pc = .ok (.getfield index, 3)) (kk : W p l e R s m args below meth c H locs cells slots Q (F0 m (pc + 3) ls (.ref (ad 5) :: rest))) : W p l e R s m args below meth c H locs cells slots Q (F0 m pc ls (.ref (ad 0) :: rest)) :=
  z_get (C := RX10) (T := TX10) (N := 13) (ci := 10) S K w inZ10 0 rfl rfl 4 (by decide) hl rfl rfl hd kk
theorem gX_0_5 (S : CallFix p m c cc nL s args zWs own) (K : ZK D cs s) (w : ZW D A0 H0 (XWc cs ad td dr F A T) H locs) (hl : Cond.fieldLink own index "FifthsOfGuilt" "kinds" "[LFifthsOfGuilt$AnySuspect;" ∈ zWs) (hd : decode cc pc = .ok (.getfield index, 3)) (kk : W p l e R s m args below meth c H locs cells slots Q (F0 m (pc + 3) ls (.ref (ad 6) :: rest))) : W p l e R s m args below meth c H locs cells slots Q (F0 m pc ls (.ref (ad 0) :: rest)) :=
  z_get (C := RX10) (T := TX10) (N := 13) (ci := 10) S K w inZ10 0 rfl rfl 5 (by decide) hl rfl rfl hd kk
theorem gX_0_6 (S : CallFix p m c cc nL s args zWs own) (K : ZK D cs s) (w : ZW D A0 H0 (XWc cs ad td dr F A T) H locs) (hl : Cond.fieldLink own index "FifthsOfGuilt" "clashers" "[I" ∈ zWs) (hd : decode cc pc = .ok (.getfield index, 3)) (kk : W p l e R s m args below meth c H locs cells slots Q (F0 m (pc + 3) ls (.ref (ad 7) :: rest))) : W p l e R s m args below meth c H locs cells slots Q (F0 m pc ls (.ref (ad 0) :: rest)) :=
  z_get (C := RX10) (T := TX10) (N := 13) (ci := 10) S K w inZ10 0 rfl rfl 6 (by decide) hl rfl rfl hd kk
theorem gX_0_7 (S : CallFix p m c cc nL s args zWs own) (K : ZK D cs s) (w : ZW D A0 H0 (XWc cs ad td dr F A T) H locs) (hl : Cond.fieldLink own index "FifthsOfGuilt" "lineSuspect" "[I" ∈ zWs) (hd : decode cc pc = .ok (.getfield index, 3)) (kk : W p l e R s m args below meth c H locs cells slots Q (F0 m (pc + 3) ls (.ref (ad 8) :: rest))) : W p l e R s m args below meth c H locs cells slots Q (F0 m pc ls (.ref (ad 0) :: rest)) :=
  z_get (C := RX10) (T := TX10) (N := 13) (ci := 10) S K w inZ10 0 rfl rfl 7 (by decide) hl rfl rfl hd kk
theorem gX_0_8 (S : CallFix p m c cc nL s args zWs own) (K : ZK D cs s) (w : ZW D A0 H0 (XWc cs ad td dr F A T) H locs) (hl : Cond.fieldLink own index "FifthsOfGuilt" "lineDays" "[I" ∈ zWs) (hd : decode cc pc = .ok (.getfield index, 3)) (kk : W p l e R s m args below meth c H locs cells slots Q (F0 m (pc + 3) ls (.ref (ad 9) :: rest))) : W p l e R s m args below meth c H locs cells slots Q (F0 m pc ls (.ref (ad 0) :: rest)) :=
  z_get (C := RX10) (T := TX10) (N := 13) (ci := 10) S K w inZ10 0 rfl rfl 8 (by decide) hl rfl rfl hd kk
theorem gX_0_9 (S : CallFix p m c cc nL s args zWs own) (K : ZK D cs s) (w : ZW D A0 H0 (XWc cs ad td dr F A T) H locs) (hl : Cond.fieldLink own index "FifthsOfGuilt" "lines" "I" ∈ zWs) (hd : decode cc pc = .ok (.getfield index, 3)) (kk : W p l e R s m args below meth c H locs cells slots Q (F0 m (pc + 3) ls (.int (F 0) :: rest))) : W p l e R s m args below meth c H locs cells slots Q (F0 m pc ls (.ref (ad 0) :: rest)) :=
  z_get (C := RX10) (T := TX10) (N := 13) (ci := 10) S K w inZ10 0 rfl rfl 9 (by decide) hl rfl rfl hd kk
theorem pX_0_9 (S : CallFix p m c cc nL s args zWs own) (K : ZK D cs s) (w : ZW D A0 H0 (XWc cs ad td dr F A T) H locs) {v : Int32} (hl : Cond.fieldLink own index "FifthsOfGuilt" "lines" "I" ∈ zWs) (hd : decode cc pc = .ok (.putfield index, 3)) (kk : ∀ (H1 : Heap) (locs1 : List Loc), ZW D A0 H0 (XWc cs ad td dr (upd F 0 v) A T) H1 locs1 → W p l e R s m args below meth c H1 locs1 cells slots Q (F0 m (pc + 3) ls rest)) : W p l e R s m args below meth c H locs cells slots Q (F0 m pc ls (.int v :: .ref (ad 0) :: rest)) :=
  z_put (C := RX10) (T := TX10) (N := 13) (ci := 10) (ty := .int) S K w inZ10 tyX10 tyX10_ok nmX10 0 rfl rfl 9 (by decide) hl rfl rfl rfl rfl rfl (Nat.le_of_ble_eq_true rfl) rfl hd kk
theorem gX_0_10 (S : CallFix p m c cc nL s args zWs own) (K : ZK D cs s) (w : ZW D A0 H0 (XWc cs ad td dr F A T) H locs) (hl : Cond.fieldLink own index "FifthsOfGuilt" "trace" "J" ∈ zWs) (hd : decode cc pc = .ok (.getfield index, 3)) (kk : W p l e R s m args below meth c H locs cells slots Q (F0 m (pc + 3) ls (.long T :: rest))) : W p l e R s m args below meth c H locs cells slots Q (F0 m pc ls (.ref (ad 0) :: rest)) :=
  z_get (C := RX10) (T := TX10) (N := 13) (ci := 10) S K w inZ10 0 rfl rfl 10 (by decide) hl rfl rfl hd kk
theorem pX_0_10 (S : CallFix p m c cc nL s args zWs own) (K : ZK D cs s) (w : ZW D A0 H0 (XWc cs ad td dr F A T) H locs) {v : Int64} (hl : Cond.fieldLink own index "FifthsOfGuilt" "trace" "J" ∈ zWs) (hd : decode cc pc = .ok (.putfield index, 3)) (kk : ∀ (H1 : Heap) (locs1 : List Loc), ZW D A0 H0 (XWc cs ad td dr F A v) H1 locs1 → W p l e R s m args below meth c H1 locs1 cells slots Q (F0 m (pc + 3) ls rest)) : W p l e R s m args below meth c H locs cells slots Q (F0 m pc ls (.long v :: .ref (ad 0) :: rest)) :=
  z_put (C := RX10) (T := TX10) (N := 13) (ci := 10) (ty := .long) S K w inZ10 tyX10 tyX10_ok nmX10 0 rfl rfl 10 (by decide) hl rfl rfl rfl rfl rfl (Nat.le_of_ble_eq_true rfl) rfl hd kk
theorem gX_0_11 (S : CallFix p m c cc nL s args zWs own) (K : ZK D cs s) (w : ZW D A0 H0 (XWc cs ad td dr F A T) H locs) (hl : Cond.fieldLink own index "FifthsOfGuilt" "told" "LFifthsOfGuilt$CaseFile;" ∈ zWs) (hd : decode cc pc = .ok (.getfield index, 3)) (kk : W p l e R s m args below meth c H locs cells slots Q (F0 m (pc + 3) ls (.ref (ad td) :: rest))) : W p l e R s m args below meth c H locs cells slots Q (F0 m pc ls (.ref (ad 0) :: rest)) :=
  z_get (C := RX10) (T := TX10) (N := 13) (ci := 10) S K w inZ10 0 rfl rfl 11 (by decide) hl rfl rfl hd kk
theorem gX_0_12 (S : CallFix p m c cc nL s args zWs own) (K : ZK D cs s) (w : ZW D A0 H0 (XWc cs ad td dr F A T) H locs) (hl : Cond.fieldLink own index "FifthsOfGuilt" "draft" "LFifthsOfGuilt$CaseFile;" ∈ zWs) (hd : decode cc pc = .ok (.getfield index, 3)) (kk : W p l e R s m args below meth c H locs cells slots Q (F0 m (pc + 3) ls (.ref (ad dr) :: rest))) : W p l e R s m args below meth c H locs cells slots Q (F0 m pc ls (.ref (ad 0) :: rest)) :=
  z_get (C := RX10) (T := TX10) (N := 13) (ci := 10) S K w inZ10 0 rfl rfl 12 (by decide) hl rfl rfl hd kk
theorem gX_1_0 (S : CallFix p m c cc nL s args zWs own) (K : ZK D cs s) (w : ZW D A0 H0 (XWc cs ad td dr F A T) H locs) (hl : Cond.fieldLink own index "FifthsOfGuilt$TextReader" "bytes" "[I" ∈ zWs) (hd : decode cc pc = .ok (.getfield index, 3)) (kk : W p l e R s m args below meth c H locs cells slots Q (F0 m (pc + 3) ls (.ref (ad 12) :: rest))) : W p l e R s m args below meth c H locs cells slots Q (F0 m pc ls (.ref (ad 1) :: rest)) :=
  z_get (C := RX7) (T := TX7) (N := 9) (ci := 7) S K w inZ7 1 rfl rfl 0 (by decide) hl rfl rfl hd kk
theorem gX_1_1 (S : CallFix p m c cc nL s args zWs own) (K : ZK D cs s) (w : ZW D A0 H0 (XWc cs ad td dr F A T) H locs) (hl : Cond.fieldLink own index "FifthsOfGuilt$TextReader" "size" "I" ∈ zWs) (hd : decode cc pc = .ok (.getfield index, 3)) (kk : W p l e R s m args below meth c H locs cells slots Q (F0 m (pc + 3) ls (.int (F 1) :: rest))) : W p l e R s m args below meth c H locs cells slots Q (F0 m pc ls (.ref (ad 1) :: rest)) :=
  z_get (C := RX7) (T := TX7) (N := 9) (ci := 7) S K w inZ7 1 rfl rfl 1 (by decide) hl rfl rfl hd kk
theorem pX_1_1 (S : CallFix p m c cc nL s args zWs own) (K : ZK D cs s) (w : ZW D A0 H0 (XWc cs ad td dr F A T) H locs) {v : Int32} (hl : Cond.fieldLink own index "FifthsOfGuilt$TextReader" "size" "I" ∈ zWs) (hd : decode cc pc = .ok (.putfield index, 3)) (kk : ∀ (H1 : Heap) (locs1 : List Loc), ZW D A0 H0 (XWc cs ad td dr (upd F 1 v) A T) H1 locs1 → W p l e R s m args below meth c H1 locs1 cells slots Q (F0 m (pc + 3) ls rest)) : W p l e R s m args below meth c H locs cells slots Q (F0 m pc ls (.int v :: .ref (ad 1) :: rest)) :=
  z_put (C := RX7) (T := TX7) (N := 9) (ci := 7) (ty := .int) S K w inZ7 tyX7 tyX7_ok nmX7 1 rfl rfl 1 (by decide) hl rfl rfl rfl rfl rfl (Nat.le_of_ble_eq_true rfl) rfl hd kk
theorem gX_1_2 (S : CallFix p m c cc nL s args zWs own) (K : ZK D cs s) (w : ZW D A0 H0 (XWc cs ad td dr F A T) H locs) (hl : Cond.fieldLink own index "FifthsOfGuilt$TextReader" "numbers" "[I" ∈ zWs) (hd : decode cc pc = .ok (.getfield index, 3)) (kk : W p l e R s m args below meth c H locs cells slots Q (F0 m (pc + 3) ls (.ref (ad 13) :: rest))) : W p l e R s m args below meth c H locs cells slots Q (F0 m pc ls (.ref (ad 1) :: rest)) :=
  z_get (C := RX7) (T := TX7) (N := 9) (ci := 7) S K w inZ7 1 rfl rfl 2 (by decide) hl rfl rfl hd kk
theorem gX_1_3 (S : CallFix p m c cc nL s args zWs own) (K : ZK D cs s) (w : ZW D A0 H0 (XWc cs ad td dr F A T) H locs) (hl : Cond.fieldLink own index "FifthsOfGuilt$TextReader" "place" "I" ∈ zWs) (hd : decode cc pc = .ok (.getfield index, 3)) (kk : W p l e R s m args below meth c H locs cells slots Q (F0 m (pc + 3) ls (.int (F 2) :: rest))) : W p l e R s m args below meth c H locs cells slots Q (F0 m pc ls (.ref (ad 1) :: rest)) :=
  z_get (C := RX7) (T := TX7) (N := 9) (ci := 7) S K w inZ7 1 rfl rfl 3 (by decide) hl rfl rfl hd kk
theorem pX_1_3 (S : CallFix p m c cc nL s args zWs own) (K : ZK D cs s) (w : ZW D A0 H0 (XWc cs ad td dr F A T) H locs) {v : Int32} (hl : Cond.fieldLink own index "FifthsOfGuilt$TextReader" "place" "I" ∈ zWs) (hd : decode cc pc = .ok (.putfield index, 3)) (kk : ∀ (H1 : Heap) (locs1 : List Loc), ZW D A0 H0 (XWc cs ad td dr (upd F 2 v) A T) H1 locs1 → W p l e R s m args below meth c H1 locs1 cells slots Q (F0 m (pc + 3) ls rest)) : W p l e R s m args below meth c H locs cells slots Q (F0 m pc ls (.int v :: .ref (ad 1) :: rest)) :=
  z_put (C := RX7) (T := TX7) (N := 9) (ci := 7) (ty := .int) S K w inZ7 tyX7 tyX7_ok nmX7 1 rfl rfl 3 (by decide) hl rfl rfl rfl rfl rfl (Nat.le_of_ble_eq_true rfl) rfl hd kk
theorem gX_1_4 (S : CallFix p m c cc nL s args zWs own) (K : ZK D cs s) (w : ZW D A0 H0 (XWc cs ad td dr F A T) H locs) (hl : Cond.fieldLink own index "FifthsOfGuilt$TextReader" "token" "I" ∈ zWs) (hd : decode cc pc = .ok (.getfield index, 3)) (kk : W p l e R s m args below meth c H locs cells slots Q (F0 m (pc + 3) ls (.int (F 3) :: rest))) : W p l e R s m args below meth c H locs cells slots Q (F0 m pc ls (.ref (ad 1) :: rest)) :=
  z_get (C := RX7) (T := TX7) (N := 9) (ci := 7) S K w inZ7 1 rfl rfl 4 (by decide) hl rfl rfl hd kk
theorem pX_1_4 (S : CallFix p m c cc nL s args zWs own) (K : ZK D cs s) (w : ZW D A0 H0 (XWc cs ad td dr F A T) H locs) {v : Int32} (hl : Cond.fieldLink own index "FifthsOfGuilt$TextReader" "token" "I" ∈ zWs) (hd : decode cc pc = .ok (.putfield index, 3)) (kk : ∀ (H1 : Heap) (locs1 : List Loc), ZW D A0 H0 (XWc cs ad td dr (upd F 3 v) A T) H1 locs1 → W p l e R s m args below meth c H1 locs1 cells slots Q (F0 m (pc + 3) ls rest)) : W p l e R s m args below meth c H locs cells slots Q (F0 m pc ls (.int v :: .ref (ad 1) :: rest)) :=
  z_put (C := RX7) (T := TX7) (N := 9) (ci := 7) (ty := .int) S K w inZ7 tyX7 tyX7_ok nmX7 1 rfl rfl 4 (by decide) hl rfl rfl rfl rfl rfl (Nat.le_of_ble_eq_true rfl) rfl hd kk
theorem gX_1_5 (S : CallFix p m c cc nL s args zWs own) (K : ZK D cs s) (w : ZW D A0 H0 (XWc cs ad td dr F A T) H locs) (hl : Cond.fieldLink own index "FifthsOfGuilt$TextReader" "tokenPlace" "I" ∈ zWs) (hd : decode cc pc = .ok (.getfield index, 3)) (kk : W p l e R s m args below meth c H locs cells slots Q (F0 m (pc + 3) ls (.int (F 4) :: rest))) : W p l e R s m args below meth c H locs cells slots Q (F0 m pc ls (.ref (ad 1) :: rest)) :=
  z_get (C := RX7) (T := TX7) (N := 9) (ci := 7) S K w inZ7 1 rfl rfl 5 (by decide) hl rfl rfl hd kk
theorem pX_1_5 (S : CallFix p m c cc nL s args zWs own) (K : ZK D cs s) (w : ZW D A0 H0 (XWc cs ad td dr F A T) H locs) {v : Int32} (hl : Cond.fieldLink own index "FifthsOfGuilt$TextReader" "tokenPlace" "I" ∈ zWs) (hd : decode cc pc = .ok (.putfield index, 3)) (kk : ∀ (H1 : Heap) (locs1 : List Loc), ZW D A0 H0 (XWc cs ad td dr (upd F 4 v) A T) H1 locs1 → W p l e R s m args below meth c H1 locs1 cells slots Q (F0 m (pc + 3) ls rest)) : W p l e R s m args below meth c H locs cells slots Q (F0 m pc ls (.int v :: .ref (ad 1) :: rest)) :=
  z_put (C := RX7) (T := TX7) (N := 9) (ci := 7) (ty := .int) S K w inZ7 tyX7 tyX7_ok nmX7 1 rfl rfl 5 (by decide) hl rfl rfl rfl rfl rfl (Nat.le_of_ble_eq_true rfl) rfl hd kk
theorem gX_1_6 (S : CallFix p m c cc nL s args zWs own) (K : ZK D cs s) (w : ZW D A0 H0 (XWc cs ad td dr F A T) H locs) (hl : Cond.fieldLink own index "FifthsOfGuilt$TextReader" "tokenValue" "I" ∈ zWs) (hd : decode cc pc = .ok (.getfield index, 3)) (kk : W p l e R s m args below meth c H locs cells slots Q (F0 m (pc + 3) ls (.int (F 5) :: rest))) : W p l e R s m args below meth c H locs cells slots Q (F0 m pc ls (.ref (ad 1) :: rest)) :=
  z_get (C := RX7) (T := TX7) (N := 9) (ci := 7) S K w inZ7 1 rfl rfl 6 (by decide) hl rfl rfl hd kk
theorem pX_1_6 (S : CallFix p m c cc nL s args zWs own) (K : ZK D cs s) (w : ZW D A0 H0 (XWc cs ad td dr F A T) H locs) {v : Int32} (hl : Cond.fieldLink own index "FifthsOfGuilt$TextReader" "tokenValue" "I" ∈ zWs) (hd : decode cc pc = .ok (.putfield index, 3)) (kk : ∀ (H1 : Heap) (locs1 : List Loc), ZW D A0 H0 (XWc cs ad td dr (upd F 5 v) A T) H1 locs1 → W p l e R s m args below meth c H1 locs1 cells slots Q (F0 m (pc + 3) ls rest)) : W p l e R s m args below meth c H locs cells slots Q (F0 m pc ls (.int v :: .ref (ad 1) :: rest)) :=
  z_put (C := RX7) (T := TX7) (N := 9) (ci := 7) (ty := .int) S K w inZ7 tyX7 tyX7_ok nmX7 1 rfl rfl 6 (by decide) hl rfl rfl rfl rfl rfl (Nat.le_of_ble_eq_true rfl) rfl hd kk
theorem gX_1_7 (S : CallFix p m c cc nL s args zWs own) (K : ZK D cs s) (w : ZW D A0 H0 (XWc cs ad td dr F A T) H locs) (hl : Cond.fieldLink own index "FifthsOfGuilt$TextReader" "deedTold" "Z" ∈ zWs) (hd : decode cc pc = .ok (.getfield index, 3)) (kk : W p l e R s m args below meth c H locs cells slots Q (F0 m (pc + 3) ls (.int (F 6) :: rest))) : W p l e R s m args below meth c H locs cells slots Q (F0 m pc ls (.ref (ad 1) :: rest)) :=
  z_get (C := RX7) (T := TX7) (N := 9) (ci := 7) S K w inZ7 1 rfl rfl 7 (by decide) hl rfl rfl hd kk
theorem pX_1_7 (S : CallFix p m c cc nL s args zWs own) (K : ZK D cs s) (w : ZW D A0 H0 (XWc cs ad td dr F A T) H locs) {v : Int32} (hz : narrow .boolean (.int v) = .int v) (hf : fits .boolean (.int v) = true) (hl : Cond.fieldLink own index "FifthsOfGuilt$TextReader" "deedTold" "Z" ∈ zWs) (hd : decode cc pc = .ok (.putfield index, 3)) (kk : ∀ (H1 : Heap) (locs1 : List Loc), ZW D A0 H0 (XWc cs ad td dr (upd F 6 v) A T) H1 locs1 → W p l e R s m args below meth c H1 locs1 cells slots Q (F0 m (pc + 3) ls rest)) : W p l e R s m args below meth c H locs cells slots Q (F0 m pc ls (.int v :: .ref (ad 1) :: rest)) :=
  z_put (C := RX7) (T := TX7) (N := 9) (ci := 7) (ty := .boolean) S K w inZ7 tyX7 tyX7_ok nmX7 1 rfl rfl 7 (by decide) hl rfl rfl rfl hz hf (Nat.le_of_ble_eq_true rfl) rfl hd kk
theorem gX_1_8 (S : CallFix p m c cc nL s args zWs own) (K : ZK D cs s) (w : ZW D A0 H0 (XWc cs ad td dr F A T) H locs) (hl : Cond.fieldLink own index "FifthsOfGuilt$TextReader" "daysTold" "Z" ∈ zWs) (hd : decode cc pc = .ok (.getfield index, 3)) (kk : W p l e R s m args below meth c H locs cells slots Q (F0 m (pc + 3) ls (.int (F 7) :: rest))) : W p l e R s m args below meth c H locs cells slots Q (F0 m pc ls (.ref (ad 1) :: rest)) :=
  z_get (C := RX7) (T := TX7) (N := 9) (ci := 7) S K w inZ7 1 rfl rfl 8 (by decide) hl rfl rfl hd kk
theorem pX_1_8 (S : CallFix p m c cc nL s args zWs own) (K : ZK D cs s) (w : ZW D A0 H0 (XWc cs ad td dr F A T) H locs) {v : Int32} (hz : narrow .boolean (.int v) = .int v) (hf : fits .boolean (.int v) = true) (hl : Cond.fieldLink own index "FifthsOfGuilt$TextReader" "daysTold" "Z" ∈ zWs) (hd : decode cc pc = .ok (.putfield index, 3)) (kk : ∀ (H1 : Heap) (locs1 : List Loc), ZW D A0 H0 (XWc cs ad td dr (upd F 7 v) A T) H1 locs1 → W p l e R s m args below meth c H1 locs1 cells slots Q (F0 m (pc + 3) ls rest)) : W p l e R s m args below meth c H locs cells slots Q (F0 m pc ls (.int v :: .ref (ad 1) :: rest)) :=
  z_put (C := RX7) (T := TX7) (N := 9) (ci := 7) (ty := .boolean) S K w inZ7 tyX7 tyX7_ok nmX7 1 rfl rfl 8 (by decide) hl rfl rfl rfl hz hf (Nat.le_of_ble_eq_true rfl) rfl hd kk
theorem gX_2_0 (S : CallFix p m c cc nL s args zWs own) (K : ZK D cs s) (w : ZW D A0 H0 (XWc cs ad td dr F A T) H locs) (hl : Cond.fieldLink own index "FifthsOfGuilt$Scales" "held" "[I" ∈ zWs) (hd : decode cc pc = .ok (.getfield index, 3)) (kk : W p l e R s m args below meth c H locs cells slots Q (F0 m (pc + 3) ls (.ref (ad 14) :: rest))) : W p l e R s m args below meth c H locs cells slots Q (F0 m pc ls (.ref (ad 2) :: rest)) :=
  z_get (C := RX5) (T := TX5) (N := 6) (ci := 5) S K w inZ5 2 rfl rfl 0 (by decide) hl rfl rfl hd kk
theorem gX_2_1 (S : CallFix p m c cc nL s args zWs own) (K : ZK D cs s) (w : ZW D A0 H0 (XWc cs ad td dr F A T) H locs) (hl : Cond.fieldLink own index "FifthsOfGuilt$Scales" "serves" "[I" ∈ zWs) (hd : decode cc pc = .ok (.getfield index, 3)) (kk : W p l e R s m args below meth c H locs cells slots Q (F0 m (pc + 3) ls (.ref (ad 15) :: rest))) : W p l e R s m args below meth c H locs cells slots Q (F0 m pc ls (.ref (ad 2) :: rest)) :=
  z_get (C := RX5) (T := TX5) (N := 6) (ci := 5) S K w inZ5 2 rfl rfl 1 (by decide) hl rfl rfl hd kk
theorem gX_2_2 (S : CallFix p m c cc nL s args zWs own) (K : ZK D cs s) (w : ZW D A0 H0 (XWc cs ad td dr F A T) H locs) (hl : Cond.fieldLink own index "FifthsOfGuilt$Scales" "hours" "[I" ∈ zWs) (hd : decode cc pc = .ok (.getfield index, 3)) (kk : W p l e R s m args below meth c H locs cells slots Q (F0 m (pc + 3) ls (.ref (ad 16) :: rest))) : W p l e R s m args below meth c H locs cells slots Q (F0 m pc ls (.ref (ad 2) :: rest)) :=
  z_get (C := RX5) (T := TX5) (N := 6) (ci := 5) S K w inZ5 2 rfl rfl 2 (by decide) hl rfl rfl hd kk
theorem gX_2_3 (S : CallFix p m c cc nL s args zWs own) (K : ZK D cs s) (w : ZW D A0 H0 (XWc cs ad td dr F A T) H locs) (hl : Cond.fieldLink own index "FifthsOfGuilt$Scales" "all" "I" ∈ zWs) (hd : decode cc pc = .ok (.getfield index, 3)) (kk : W p l e R s m args below meth c H locs cells slots Q (F0 m (pc + 3) ls (.int (F 8) :: rest))) : W p l e R s m args below meth c H locs cells slots Q (F0 m pc ls (.ref (ad 2) :: rest)) :=
  z_get (C := RX5) (T := TX5) (N := 6) (ci := 5) S K w inZ5 2 rfl rfl 3 (by decide) hl rfl rfl hd kk
theorem pX_2_3 (S : CallFix p m c cc nL s args zWs own) (K : ZK D cs s) (w : ZW D A0 H0 (XWc cs ad td dr F A T) H locs) {v : Int32} (hl : Cond.fieldLink own index "FifthsOfGuilt$Scales" "all" "I" ∈ zWs) (hd : decode cc pc = .ok (.putfield index, 3)) (kk : ∀ (H1 : Heap) (locs1 : List Loc), ZW D A0 H0 (XWc cs ad td dr (upd F 8 v) A T) H1 locs1 → W p l e R s m args below meth c H1 locs1 cells slots Q (F0 m (pc + 3) ls rest)) : W p l e R s m args below meth c H locs cells slots Q (F0 m pc ls (.int v :: .ref (ad 2) :: rest)) :=
  z_put (C := RX5) (T := TX5) (N := 6) (ci := 5) (ty := .int) S K w inZ5 tyX5 tyX5_ok nmX5 2 rfl rfl 3 (by decide) hl rfl rfl rfl rfl rfl (Nat.le_of_ble_eq_true rfl) rfl hd kk
theorem gX_2_4 (S : CallFix p m c cc nL s args zWs own) (K : ZK D cs s) (w : ZW D A0 H0 (XWc cs ad td dr F A T) H locs) (hl : Cond.fieldLink own index "FifthsOfGuilt$Scales" "rest" "[I" ∈ zWs) (hd : decode cc pc = .ok (.getfield index, 3)) (kk : W p l e R s m args below meth c H locs cells slots Q (F0 m (pc + 3) ls (.ref (ad 17) :: rest))) : W p l e R s m args below meth c H locs cells slots Q (F0 m pc ls (.ref (ad 2) :: rest)) :=
  z_get (C := RX5) (T := TX5) (N := 6) (ci := 5) S K w inZ5 2 rfl rfl 4 (by decide) hl rfl rfl hd kk
theorem gX_2_5 (S : CallFix p m c cc nL s args zWs own) (K : ZK D cs s) (w : ZW D A0 H0 (XWc cs ad td dr F A T) H locs) (hl : Cond.fieldLink own index "FifthsOfGuilt$Scales" "suspects" "I" ∈ zWs) (hd : decode cc pc = .ok (.getfield index, 3)) (kk : W p l e R s m args below meth c H locs cells slots Q (F0 m (pc + 3) ls (.int (F 9) :: rest))) : W p l e R s m args below meth c H locs cells slots Q (F0 m pc ls (.ref (ad 2) :: rest)) :=
  z_get (C := RX5) (T := TX5) (N := 6) (ci := 5) S K w inZ5 2 rfl rfl 5 (by decide) hl rfl rfl hd kk
theorem pX_2_5 (S : CallFix p m c cc nL s args zWs own) (K : ZK D cs s) (w : ZW D A0 H0 (XWc cs ad td dr F A T) H locs) {v : Int32} (hl : Cond.fieldLink own index "FifthsOfGuilt$Scales" "suspects" "I" ∈ zWs) (hd : decode cc pc = .ok (.putfield index, 3)) (kk : ∀ (H1 : Heap) (locs1 : List Loc), ZW D A0 H0 (XWc cs ad td dr (upd F 9 v) A T) H1 locs1 → W p l e R s m args below meth c H1 locs1 cells slots Q (F0 m (pc + 3) ls rest)) : W p l e R s m args below meth c H locs cells slots Q (F0 m pc ls (.int v :: .ref (ad 2) :: rest)) :=
  z_put (C := RX5) (T := TX5) (N := 6) (ci := 5) (ty := .int) S K w inZ5 tyX5 tyX5_ok nmX5 2 rfl rfl 5 (by decide) hl rfl rfl rfl rfl rfl (Nat.le_of_ble_eq_true rfl) rfl hd kk
theorem gX_3_0 (S : CallFix p m c cc nL s args zWs own) (K : ZK D cs s) (w : ZW D A0 H0 (XWc cs ad td dr F A T) H locs) (hl : Cond.fieldLink own index "FifthsOfGuilt$Standing" "facts" "I" ∈ zWs) (hd : decode cc pc = .ok (.getfield index, 3)) (kk : W p l e R s m args below meth c H locs cells slots Q (F0 m (pc + 3) ls (.int (F 10) :: rest))) : W p l e R s m args below meth c H locs cells slots Q (F0 m pc ls (.ref (ad 3) :: rest)) :=
  z_get (C := RX6) (T := TX6) (N := 5) (ci := 6) S K w inZ6 3 rfl rfl 0 (by decide) hl rfl rfl hd kk
theorem pX_3_0 (S : CallFix p m c cc nL s args zWs own) (K : ZK D cs s) (w : ZW D A0 H0 (XWc cs ad td dr F A T) H locs) {v : Int32} (hl : Cond.fieldLink own index "FifthsOfGuilt$Standing" "facts" "I" ∈ zWs) (hd : decode cc pc = .ok (.putfield index, 3)) (kk : ∀ (H1 : Heap) (locs1 : List Loc), ZW D A0 H0 (XWc cs ad td dr (upd F 10 v) A T) H1 locs1 → W p l e R s m args below meth c H1 locs1 cells slots Q (F0 m (pc + 3) ls rest)) : W p l e R s m args below meth c H locs cells slots Q (F0 m pc ls (.int v :: .ref (ad 3) :: rest)) :=
  z_put (C := RX6) (T := TX6) (N := 5) (ci := 6) (ty := .int) S K w inZ6 tyX6 tyX6_ok nmX6 3 rfl rfl 0 (by decide) hl rfl rfl rfl rfl rfl (Nat.le_of_ble_eq_true rfl) rfl hd kk
theorem gX_3_1 (S : CallFix p m c cc nL s args zWs own) (K : ZK D cs s) (w : ZW D A0 H0 (XWc cs ad td dr F A T) H locs) (hl : Cond.fieldLink own index "FifthsOfGuilt$Standing" "alibis" "I" ∈ zWs) (hd : decode cc pc = .ok (.getfield index, 3)) (kk : W p l e R s m args below meth c H locs cells slots Q (F0 m (pc + 3) ls (.int (F 11) :: rest))) : W p l e R s m args below meth c H locs cells slots Q (F0 m pc ls (.ref (ad 3) :: rest)) :=
  z_get (C := RX6) (T := TX6) (N := 5) (ci := 6) S K w inZ6 3 rfl rfl 1 (by decide) hl rfl rfl hd kk
theorem pX_3_1 (S : CallFix p m c cc nL s args zWs own) (K : ZK D cs s) (w : ZW D A0 H0 (XWc cs ad td dr F A T) H locs) {v : Int32} (hl : Cond.fieldLink own index "FifthsOfGuilt$Standing" "alibis" "I" ∈ zWs) (hd : decode cc pc = .ok (.putfield index, 3)) (kk : ∀ (H1 : Heap) (locs1 : List Loc), ZW D A0 H0 (XWc cs ad td dr (upd F 11 v) A T) H1 locs1 → W p l e R s m args below meth c H1 locs1 cells slots Q (F0 m (pc + 3) ls rest)) : W p l e R s m args below meth c H locs cells slots Q (F0 m pc ls (.int v :: .ref (ad 3) :: rest)) :=
  z_put (C := RX6) (T := TX6) (N := 5) (ci := 6) (ty := .int) S K w inZ6 tyX6 tyX6_ok nmX6 3 rfl rfl 1 (by decide) hl rfl rfl rfl rfl rfl (Nat.le_of_ble_eq_true rfl) rfl hd kk
theorem gX_3_2 (S : CallFix p m c cc nL s args zWs own) (K : ZK D cs s) (w : ZW D A0 H0 (XWc cs ad td dr F A T) H locs) (hl : Cond.fieldLink own index "FifthsOfGuilt$Standing" "days" "I" ∈ zWs) (hd : decode cc pc = .ok (.getfield index, 3)) (kk : W p l e R s m args below meth c H locs cells slots Q (F0 m (pc + 3) ls (.int (F 12) :: rest))) : W p l e R s m args below meth c H locs cells slots Q (F0 m pc ls (.ref (ad 3) :: rest)) :=
  z_get (C := RX6) (T := TX6) (N := 5) (ci := 6) S K w inZ6 3 rfl rfl 2 (by decide) hl rfl rfl hd kk
theorem pX_3_2 (S : CallFix p m c cc nL s args zWs own) (K : ZK D cs s) (w : ZW D A0 H0 (XWc cs ad td dr F A T) H locs) {v : Int32} (hl : Cond.fieldLink own index "FifthsOfGuilt$Standing" "days" "I" ∈ zWs) (hd : decode cc pc = .ok (.putfield index, 3)) (kk : ∀ (H1 : Heap) (locs1 : List Loc), ZW D A0 H0 (XWc cs ad td dr (upd F 12 v) A T) H1 locs1 → W p l e R s m args below meth c H1 locs1 cells slots Q (F0 m (pc + 3) ls rest)) : W p l e R s m args below meth c H locs cells slots Q (F0 m pc ls (.int v :: .ref (ad 3) :: rest)) :=
  z_put (C := RX6) (T := TX6) (N := 5) (ci := 6) (ty := .int) S K w inZ6 tyX6 tyX6_ok nmX6 3 rfl rfl 2 (by decide) hl rfl rfl rfl rfl rfl (Nat.le_of_ble_eq_true rfl) rfl hd kk
theorem gX_3_3 (S : CallFix p m c cc nL s args zWs own) (K : ZK D cs s) (w : ZW D A0 H0 (XWc cs ad td dr F A T) H locs) (hl : Cond.fieldLink own index "FifthsOfGuilt$Standing" "known" "I" ∈ zWs) (hd : decode cc pc = .ok (.getfield index, 3)) (kk : W p l e R s m args below meth c H locs cells slots Q (F0 m (pc + 3) ls (.int (F 13) :: rest))) : W p l e R s m args below meth c H locs cells slots Q (F0 m pc ls (.ref (ad 3) :: rest)) :=
  z_get (C := RX6) (T := TX6) (N := 5) (ci := 6) S K w inZ6 3 rfl rfl 3 (by decide) hl rfl rfl hd kk
theorem pX_3_3 (S : CallFix p m c cc nL s args zWs own) (K : ZK D cs s) (w : ZW D A0 H0 (XWc cs ad td dr F A T) H locs) {v : Int32} (hl : Cond.fieldLink own index "FifthsOfGuilt$Standing" "known" "I" ∈ zWs) (hd : decode cc pc = .ok (.putfield index, 3)) (kk : ∀ (H1 : Heap) (locs1 : List Loc), ZW D A0 H0 (XWc cs ad td dr (upd F 13 v) A T) H1 locs1 → W p l e R s m args below meth c H1 locs1 cells slots Q (F0 m (pc + 3) ls rest)) : W p l e R s m args below meth c H locs cells slots Q (F0 m pc ls (.int v :: .ref (ad 3) :: rest)) :=
  z_put (C := RX6) (T := TX6) (N := 5) (ci := 6) (ty := .int) S K w inZ6 tyX6 tyX6_ok nmX6 3 rfl rfl 3 (by decide) hl rfl rfl rfl rfl rfl (Nat.le_of_ble_eq_true rfl) rfl hd kk
theorem gX_3_4 (S : CallFix p m c cc nL s args zWs own) (K : ZK D cs s) (w : ZW D A0 H0 (XWc cs ad td dr F A T) H locs) (hl : Cond.fieldLink own index "FifthsOfGuilt$Standing" "before" "[I" ∈ zWs) (hd : decode cc pc = .ok (.getfield index, 3)) (kk : W p l e R s m args below meth c H locs cells slots Q (F0 m (pc + 3) ls (.ref (ad 18) :: rest))) : W p l e R s m args below meth c H locs cells slots Q (F0 m pc ls (.ref (ad 3) :: rest)) :=
  z_get (C := RX6) (T := TX6) (N := 5) (ci := 6) S K w inZ6 3 rfl rfl 4 (by decide) hl rfl rfl hd kk
theorem aX_5 (S : CallFix p m c cc nL s args zWs own) (K : ZK D cs s) (w : ZW D A0 H0 (XWc cs ad td dr F A T) H locs) {i : Int32} (hi : gok i 2 = true) (hd : decode cc pc = .ok (.baload, 1)) (kk : W p l e R s m args below meth c H locs cells slots Q (F0 m (pc + 1) ls (.int (A 5 i.toNatClampNeg) :: rest))) : W p l e R s m args below meth c H locs cells slots Q (F0 m pc ls (.int i :: .ref (ad 5) :: rest)) :=
  va_zald S.1 S.2.1 K.1 w.1 5 2 (n := 2) (f := A 5) rfl rfl (gok_in hi) hd kk
theorem sX_5 (S : CallFix p m c cc nL s args zWs own) (K : ZK D cs s) (w : ZW D A0 H0 (XWc cs ad td dr F A T) H locs) {i x : Int32} (hi : gok i 2 = true) (hd : decode cc pc = .ok (.bastore, 1)) (kk : ∀ (H1 : Heap) (locs1 : List Loc), ZW D A0 H0 (XWc cs ad td dr F (zst A 5 i.toNatClampNeg (vp_nar .boolean x)) T) H1 locs1 → W p l e R s m args below meth c H1 locs1 cells slots Q (F0 m (pc + 1) ls rest)) : W p l e R s m args below meth c H locs cells slots Q (F0 m pc ls (.int x :: .int i :: .ref (ad 5) :: rest)) :=
  va_zast S.1 S.2.1 K.1 w.1 w.2.1 w.2.2 5 2 (n := 2) (f := A 5) rfl rfl (gok_in hi) hd (fun H1 locs1 h1 h2 h3 => kk H1 locs1 ⟨h1, h2, h3⟩)
theorem aX_7 (S : CallFix p m c cc nL s args zWs own) (K : ZK D cs s) (w : ZW D A0 H0 (XWc cs ad td dr F A T) H locs) {i : Int32} (hi : gok i 8 = true) (hd : decode cc pc = .ok (.iaload, 1)) (kk : W p l e R s m args below meth c H locs cells slots Q (F0 m (pc + 1) ls (.int (A 7 i.toNatClampNeg) :: rest))) : W p l e R s m args below meth c H locs cells slots Q (F0 m pc ls (.int i :: .ref (ad 7) :: rest)) :=
  va_iald S.1 S.2.1 K.1 w.1 7 0 (n := 8) (f := A 7) rfl rfl (gok_in hi) hd kk
theorem sX_7 (S : CallFix p m c cc nL s args zWs own) (K : ZK D cs s) (w : ZW D A0 H0 (XWc cs ad td dr F A T) H locs) {i x : Int32} (hi : gok i 8 = true) (hd : decode cc pc = .ok (.iastore, 1)) (kk : ∀ (H1 : Heap) (locs1 : List Loc), ZW D A0 H0 (XWc cs ad td dr F (zst A 7 i.toNatClampNeg x) T) H1 locs1 → W p l e R s m args below meth c H1 locs1 cells slots Q (F0 m (pc + 1) ls rest)) : W p l e R s m args below meth c H locs cells slots Q (F0 m pc ls (.int x :: .int i :: .ref (ad 7) :: rest)) :=
  va_iast S.1 S.2.1 K.1 w.1 w.2.1 w.2.2 7 0 (n := 8) (f := A 7) rfl rfl (gok_in hi) hd (fun H1 locs1 h1 h2 h3 => kk H1 locs1 ⟨h1, h2, h3⟩)
theorem aX_8 (S : CallFix p m c cc nL s args zWs own) (K : ZK D cs s) (w : ZW D A0 H0 (XWc cs ad td dr F A T) H locs) {i : Int32} (hi : gok i 6 = true) (hd : decode cc pc = .ok (.iaload, 1)) (kk : W p l e R s m args below meth c H locs cells slots Q (F0 m (pc + 1) ls (.int (A 8 i.toNatClampNeg) :: rest))) : W p l e R s m args below meth c H locs cells slots Q (F0 m pc ls (.int i :: .ref (ad 8) :: rest)) :=
  va_iald S.1 S.2.1 K.1 w.1 8 0 (n := 6) (f := A 8) rfl rfl (gok_in hi) hd kk
theorem sX_8 (S : CallFix p m c cc nL s args zWs own) (K : ZK D cs s) (w : ZW D A0 H0 (XWc cs ad td dr F A T) H locs) {i x : Int32} (hi : gok i 6 = true) (hd : decode cc pc = .ok (.iastore, 1)) (kk : ∀ (H1 : Heap) (locs1 : List Loc), ZW D A0 H0 (XWc cs ad td dr F (zst A 8 i.toNatClampNeg x) T) H1 locs1 → W p l e R s m args below meth c H1 locs1 cells slots Q (F0 m (pc + 1) ls rest)) : W p l e R s m args below meth c H locs cells slots Q (F0 m pc ls (.int x :: .int i :: .ref (ad 8) :: rest)) :=
  va_iast S.1 S.2.1 K.1 w.1 w.2.1 w.2.2 8 0 (n := 6) (f := A 8) rfl rfl (gok_in hi) hd (fun H1 locs1 h1 h2 h3 => kk H1 locs1 ⟨h1, h2, h3⟩)
theorem aX_9 (S : CallFix p m c cc nL s args zWs own) (K : ZK D cs s) (w : ZW D A0 H0 (XWc cs ad td dr F A T) H locs) {i : Int32} (hi : gok i 6 = true) (hd : decode cc pc = .ok (.iaload, 1)) (kk : W p l e R s m args below meth c H locs cells slots Q (F0 m (pc + 1) ls (.int (A 9 i.toNatClampNeg) :: rest))) : W p l e R s m args below meth c H locs cells slots Q (F0 m pc ls (.int i :: .ref (ad 9) :: rest)) :=
  va_iald S.1 S.2.1 K.1 w.1 9 0 (n := 6) (f := A 9) rfl rfl (gok_in hi) hd kk
theorem sX_9 (S : CallFix p m c cc nL s args zWs own) (K : ZK D cs s) (w : ZW D A0 H0 (XWc cs ad td dr F A T) H locs) {i x : Int32} (hi : gok i 6 = true) (hd : decode cc pc = .ok (.iastore, 1)) (kk : ∀ (H1 : Heap) (locs1 : List Loc), ZW D A0 H0 (XWc cs ad td dr F (zst A 9 i.toNatClampNeg x) T) H1 locs1 → W p l e R s m args below meth c H1 locs1 cells slots Q (F0 m (pc + 1) ls rest)) : W p l e R s m args below meth c H locs cells slots Q (F0 m pc ls (.int x :: .int i :: .ref (ad 9) :: rest)) :=
  va_iast S.1 S.2.1 K.1 w.1 w.2.1 w.2.2 9 0 (n := 6) (f := A 9) rfl rfl (gok_in hi) hd (fun H1 locs1 h1 h2 h3 => kk H1 locs1 ⟨h1, h2, h3⟩)
theorem gX_10_0 (S : CallFix p m c cc nL s args zWs own) (K : ZK D cs s) (w : ZW D A0 H0 (XWc cs ad td dr F A T) H locs) (hl : Cond.fieldLink own index "FifthsOfGuilt$CaseFile" "suspects" "I" ∈ zWs) (hd : decode cc pc = .ok (.getfield index, 3)) (kk : W p l e R s m args below meth c H locs cells slots Q (F0 m (pc + 3) ls (.int (F 22) :: rest))) : W p l e R s m args below meth c H locs cells slots Q (F0 m pc ls (.ref (ad 10) :: rest)) :=
  z_get (C := RX1) (T := TX1) (N := 15) (ci := 1) S K w inZ1 10 rfl rfl 0 (by decide) hl rfl rfl hd kk
theorem pX_10_0 (S : CallFix p m c cc nL s args zWs own) (K : ZK D cs s) (w : ZW D A0 H0 (XWc cs ad td dr F A T) H locs) {v : Int32} (hl : Cond.fieldLink own index "FifthsOfGuilt$CaseFile" "suspects" "I" ∈ zWs) (hd : decode cc pc = .ok (.putfield index, 3)) (kk : ∀ (H1 : Heap) (locs1 : List Loc), ZW D A0 H0 (XWc cs ad td dr (upd F 22 v) A T) H1 locs1 → W p l e R s m args below meth c H1 locs1 cells slots Q (F0 m (pc + 3) ls rest)) : W p l e R s m args below meth c H locs cells slots Q (F0 m pc ls (.int v :: .ref (ad 10) :: rest)) :=
  z_put (C := RX1) (T := TX1) (N := 15) (ci := 1) (ty := .int) S K w inZ1 tyX1 tyX1_ok nmX1 10 rfl rfl 0 (by decide) hl rfl rfl rfl rfl rfl (Nat.le_of_ble_eq_true rfl) rfl hd kk
theorem gX_10_1 (S : CallFix p m c cc nL s args zWs own) (K : ZK D cs s) (w : ZW D A0 H0 (XWc cs ad td dr F A T) H locs) (hl : Cond.fieldLink own index "FifthsOfGuilt$CaseFile" "facts" "I" ∈ zWs) (hd : decode cc pc = .ok (.getfield index, 3)) (kk : W p l e R s m args below meth c H locs cells slots Q (F0 m (pc + 3) ls (.int (F 23) :: rest))) : W p l e R s m args below meth c H locs cells slots Q (F0 m pc ls (.ref (ad 10) :: rest)) :=
  z_get (C := RX1) (T := TX1) (N := 15) (ci := 1) S K w inZ1 10 rfl rfl 1 (by decide) hl rfl rfl hd kk
theorem pX_10_1 (S : CallFix p m c cc nL s args zWs own) (K : ZK D cs s) (w : ZW D A0 H0 (XWc cs ad td dr F A T) H locs) {v : Int32} (hl : Cond.fieldLink own index "FifthsOfGuilt$CaseFile" "facts" "I" ∈ zWs) (hd : decode cc pc = .ok (.putfield index, 3)) (kk : ∀ (H1 : Heap) (locs1 : List Loc), ZW D A0 H0 (XWc cs ad td dr (upd F 23 v) A T) H1 locs1 → W p l e R s m args below meth c H1 locs1 cells slots Q (F0 m (pc + 3) ls rest)) : W p l e R s m args below meth c H locs cells slots Q (F0 m pc ls (.int v :: .ref (ad 10) :: rest)) :=
  z_put (C := RX1) (T := TX1) (N := 15) (ci := 1) (ty := .int) S K w inZ1 tyX1 tyX1_ok nmX1 10 rfl rfl 1 (by decide) hl rfl rfl rfl rfl rfl (Nat.le_of_ble_eq_true rfl) rfl hd kk
theorem gX_10_2 (S : CallFix p m c cc nL s args zWs own) (K : ZK D cs s) (w : ZW D A0 H0 (XWc cs ad td dr F A T) H locs) (hl : Cond.fieldLink own index "FifthsOfGuilt$CaseFile" "alibis" "I" ∈ zWs) (hd : decode cc pc = .ok (.getfield index, 3)) (kk : W p l e R s m args below meth c H locs cells slots Q (F0 m (pc + 3) ls (.int (F 24) :: rest))) : W p l e R s m args below meth c H locs cells slots Q (F0 m pc ls (.ref (ad 10) :: rest)) :=
  z_get (C := RX1) (T := TX1) (N := 15) (ci := 1) S K w inZ1 10 rfl rfl 2 (by decide) hl rfl rfl hd kk
theorem pX_10_2 (S : CallFix p m c cc nL s args zWs own) (K : ZK D cs s) (w : ZW D A0 H0 (XWc cs ad td dr F A T) H locs) {v : Int32} (hl : Cond.fieldLink own index "FifthsOfGuilt$CaseFile" "alibis" "I" ∈ zWs) (hd : decode cc pc = .ok (.putfield index, 3)) (kk : ∀ (H1 : Heap) (locs1 : List Loc), ZW D A0 H0 (XWc cs ad td dr (upd F 24 v) A T) H1 locs1 → W p l e R s m args below meth c H1 locs1 cells slots Q (F0 m (pc + 3) ls rest)) : W p l e R s m args below meth c H locs cells slots Q (F0 m pc ls (.int v :: .ref (ad 10) :: rest)) :=
  z_put (C := RX1) (T := TX1) (N := 15) (ci := 1) (ty := .int) S K w inZ1 tyX1 tyX1_ok nmX1 10 rfl rfl 2 (by decide) hl rfl rfl rfl rfl rfl (Nat.le_of_ble_eq_true rfl) rfl hd kk
theorem gX_10_3 (S : CallFix p m c cc nL s args zWs own) (K : ZK D cs s) (w : ZW D A0 H0 (XWc cs ad td dr F A T) H locs) (hl : Cond.fieldLink own index "FifthsOfGuilt$CaseFile" "deedFrom" "I" ∈ zWs) (hd : decode cc pc = .ok (.getfield index, 3)) (kk : W p l e R s m args below meth c H locs cells slots Q (F0 m (pc + 3) ls (.int (F 25) :: rest))) : W p l e R s m args below meth c H locs cells slots Q (F0 m pc ls (.ref (ad 10) :: rest)) :=
  z_get (C := RX1) (T := TX1) (N := 15) (ci := 1) S K w inZ1 10 rfl rfl 3 (by decide) hl rfl rfl hd kk
theorem pX_10_3 (S : CallFix p m c cc nL s args zWs own) (K : ZK D cs s) (w : ZW D A0 H0 (XWc cs ad td dr F A T) H locs) {v : Int32} (hl : Cond.fieldLink own index "FifthsOfGuilt$CaseFile" "deedFrom" "I" ∈ zWs) (hd : decode cc pc = .ok (.putfield index, 3)) (kk : ∀ (H1 : Heap) (locs1 : List Loc), ZW D A0 H0 (XWc cs ad td dr (upd F 25 v) A T) H1 locs1 → W p l e R s m args below meth c H1 locs1 cells slots Q (F0 m (pc + 3) ls rest)) : W p l e R s m args below meth c H locs cells slots Q (F0 m pc ls (.int v :: .ref (ad 10) :: rest)) :=
  z_put (C := RX1) (T := TX1) (N := 15) (ci := 1) (ty := .int) S K w inZ1 tyX1 tyX1_ok nmX1 10 rfl rfl 3 (by decide) hl rfl rfl rfl rfl rfl (Nat.le_of_ble_eq_true rfl) rfl hd kk
theorem gX_10_4 (S : CallFix p m c cc nL s args zWs own) (K : ZK D cs s) (w : ZW D A0 H0 (XWc cs ad td dr F A T) H locs) (hl : Cond.fieldLink own index "FifthsOfGuilt$CaseFile" "deedTo" "I" ∈ zWs) (hd : decode cc pc = .ok (.getfield index, 3)) (kk : W p l e R s m args below meth c H locs cells slots Q (F0 m (pc + 3) ls (.int (F 26) :: rest))) : W p l e R s m args below meth c H locs cells slots Q (F0 m pc ls (.ref (ad 10) :: rest)) :=
  z_get (C := RX1) (T := TX1) (N := 15) (ci := 1) S K w inZ1 10 rfl rfl 4 (by decide) hl rfl rfl hd kk
theorem pX_10_4 (S : CallFix p m c cc nL s args zWs own) (K : ZK D cs s) (w : ZW D A0 H0 (XWc cs ad td dr F A T) H locs) {v : Int32} (hl : Cond.fieldLink own index "FifthsOfGuilt$CaseFile" "deedTo" "I" ∈ zWs) (hd : decode cc pc = .ok (.putfield index, 3)) (kk : ∀ (H1 : Heap) (locs1 : List Loc), ZW D A0 H0 (XWc cs ad td dr (upd F 26 v) A T) H1 locs1 → W p l e R s m args below meth c H1 locs1 cells slots Q (F0 m (pc + 3) ls rest)) : W p l e R s m args below meth c H locs cells slots Q (F0 m pc ls (.int v :: .ref (ad 10) :: rest)) :=
  z_put (C := RX1) (T := TX1) (N := 15) (ci := 1) (ty := .int) S K w inZ1 tyX1 tyX1_ok nmX1 10 rfl rfl 4 (by decide) hl rfl rfl rfl rfl rfl (Nat.le_of_ble_eq_true rfl) rfl hd kk
theorem gX_10_5 (S : CallFix p m c cc nL s args zWs own) (K : ZK D cs s) (w : ZW D A0 H0 (XWc cs ad td dr F A T) H locs) (hl : Cond.fieldLink own index "FifthsOfGuilt$CaseFile" "days" "I" ∈ zWs) (hd : decode cc pc = .ok (.getfield index, 3)) (kk : W p l e R s m args below meth c H locs cells slots Q (F0 m (pc + 3) ls (.int (F 27) :: rest))) : W p l e R s m args below meth c H locs cells slots Q (F0 m pc ls (.ref (ad 10) :: rest)) :=
  z_get (C := RX1) (T := TX1) (N := 15) (ci := 1) S K w inZ1 10 rfl rfl 5 (by decide) hl rfl rfl hd kk
theorem pX_10_5 (S : CallFix p m c cc nL s args zWs own) (K : ZK D cs s) (w : ZW D A0 H0 (XWc cs ad td dr F A T) H locs) {v : Int32} (hl : Cond.fieldLink own index "FifthsOfGuilt$CaseFile" "days" "I" ∈ zWs) (hd : decode cc pc = .ok (.putfield index, 3)) (kk : ∀ (H1 : Heap) (locs1 : List Loc), ZW D A0 H0 (XWc cs ad td dr (upd F 27 v) A T) H1 locs1 → W p l e R s m args below meth c H1 locs1 cells slots Q (F0 m (pc + 3) ls rest)) : W p l e R s m args below meth c H locs cells slots Q (F0 m pc ls (.int v :: .ref (ad 10) :: rest)) :=
  z_put (C := RX1) (T := TX1) (N := 15) (ci := 1) (ty := .int) S K w inZ1 tyX1 tyX1_ok nmX1 10 rfl rfl 5 (by decide) hl rfl rfl rfl rfl rfl (Nat.le_of_ble_eq_true rfl) rfl hd kk
theorem gX_10_6 (S : CallFix p m c cc nL s args zWs own) (K : ZK D cs s) (w : ZW D A0 H0 (XWc cs ad td dr F A T) H locs) (hl : Cond.fieldLink own index "FifthsOfGuilt$CaseFile" "grudge" "[I" ∈ zWs) (hd : decode cc pc = .ok (.getfield index, 3)) (kk : W p l e R s m args below meth c H locs cells slots Q (F0 m (pc + 3) ls (.ref (ad 29) :: rest))) : W p l e R s m args below meth c H locs cells slots Q (F0 m pc ls (.ref (ad 10) :: rest)) :=
  z_get (C := RX1) (T := TX1) (N := 15) (ci := 1) S K w inZ1 10 rfl rfl 6 (by decide) hl rfl rfl hd kk
theorem gX_10_7 (S : CallFix p m c cc nL s args zWs own) (K : ZK D cs s) (w : ZW D A0 H0 (XWc cs ad td dr F A T) H locs) (hl : Cond.fieldLink own index "FifthsOfGuilt$CaseFile" "cost" "[I" ∈ zWs) (hd : decode cc pc = .ok (.getfield index, 3)) (kk : W p l e R s m args below meth c H locs cells slots Q (F0 m (pc + 3) ls (.ref (ad 30) :: rest))) : W p l e R s m args below meth c H locs cells slots Q (F0 m pc ls (.ref (ad 10) :: rest)) :=
  z_get (C := RX1) (T := TX1) (N := 15) (ci := 1) S K w inZ1 10 rfl rfl 7 (by decide) hl rfl rfl hd kk
theorem gX_10_8 (S : CallFix p m c cc nL s args zWs own) (K : ZK D cs s) (w : ZW D A0 H0 (XWc cs ad td dr F A T) H locs) (hl : Cond.fieldLink own index "FifthsOfGuilt$CaseFile" "trust" "[I" ∈ zWs) (hd : decode cc pc = .ok (.getfield index, 3)) (kk : W p l e R s m args below meth c H locs cells slots Q (F0 m (pc + 3) ls (.ref (ad 31) :: rest))) : W p l e R s m args below meth c H locs cells slots Q (F0 m pc ls (.ref (ad 10) :: rest)) :=
  z_get (C := RX1) (T := TX1) (N := 15) (ci := 1) S K w inZ1 10 rfl rfl 8 (by decide) hl rfl rfl hd kk
theorem gX_10_9 (S : CallFix p m c cc nL s args zWs own) (K : ZK D cs s) (w : ZW D A0 H0 (XWc cs ad td dr F A T) H locs) (hl : Cond.fieldLink own index "FifthsOfGuilt$CaseFile" "moves" "[I" ∈ zWs) (hd : decode cc pc = .ok (.getfield index, 3)) (kk : W p l e R s m args below meth c H locs cells slots Q (F0 m (pc + 3) ls (.ref (ad 32) :: rest))) : W p l e R s m args below meth c H locs cells slots Q (F0 m pc ls (.ref (ad 10) :: rest)) :=
  z_get (C := RX1) (T := TX1) (N := 15) (ci := 1) S K w inZ1 10 rfl rfl 9 (by decide) hl rfl rfl hd kk
theorem gX_10_10 (S : CallFix p m c cc nL s args zWs own) (K : ZK D cs s) (w : ZW D A0 H0 (XWc cs ad td dr F A T) H locs) (hl : Cond.fieldLink own index "FifthsOfGuilt$CaseFile" "trustedMoves" "[I" ∈ zWs) (hd : decode cc pc = .ok (.getfield index, 3)) (kk : W p l e R s m args below meth c H locs cells slots Q (F0 m (pc + 3) ls (.ref (ad 33) :: rest))) : W p l e R s m args below meth c H locs cells slots Q (F0 m pc ls (.ref (ad 10) :: rest)) :=
  z_get (C := RX1) (T := TX1) (N := 15) (ci := 1) S K w inZ1 10 rfl rfl 10 (by decide) hl rfl rfl hd kk
theorem gX_10_11 (S : CallFix p m c cc nL s args zWs own) (K : ZK D cs s) (w : ZW D A0 H0 (XWc cs ad td dr F A T) H locs) (hl : Cond.fieldLink own index "FifthsOfGuilt$CaseFile" "alibiOf" "[I" ∈ zWs) (hd : decode cc pc = .ok (.getfield index, 3)) (kk : W p l e R s m args below meth c H locs cells slots Q (F0 m (pc + 3) ls (.ref (ad 34) :: rest))) : W p l e R s m args below meth c H locs cells slots Q (F0 m pc ls (.ref (ad 10) :: rest)) :=
  z_get (C := RX1) (T := TX1) (N := 15) (ci := 1) S K w inZ1 10 rfl rfl 11 (by decide) hl rfl rfl hd kk
theorem gX_10_12 (S : CallFix p m c cc nL s args zWs own) (K : ZK D cs s) (w : ZW D A0 H0 (XWc cs ad td dr F A T) H locs) (hl : Cond.fieldLink own index "FifthsOfGuilt$CaseFile" "place" "[I" ∈ zWs) (hd : decode cc pc = .ok (.getfield index, 3)) (kk : W p l e R s m args below meth c H locs cells slots Q (F0 m (pc + 3) ls (.ref (ad 35) :: rest))) : W p l e R s m args below meth c H locs cells slots Q (F0 m pc ls (.ref (ad 10) :: rest)) :=
  z_get (C := RX1) (T := TX1) (N := 15) (ci := 1) S K w inZ1 10 rfl rfl 12 (by decide) hl rfl rfl hd kk
theorem gX_10_13 (S : CallFix p m c cc nL s args zWs own) (K : ZK D cs s) (w : ZW D A0 H0 (XWc cs ad td dr F A T) H locs) (hl : Cond.fieldLink own index "FifthsOfGuilt$CaseFile" "from" "[I" ∈ zWs) (hd : decode cc pc = .ok (.getfield index, 3)) (kk : W p l e R s m args below meth c H locs cells slots Q (F0 m (pc + 3) ls (.ref (ad 36) :: rest))) : W p l e R s m args below meth c H locs cells slots Q (F0 m pc ls (.ref (ad 10) :: rest)) :=
  z_get (C := RX1) (T := TX1) (N := 15) (ci := 1) S K w inZ1 10 rfl rfl 13 (by decide) hl rfl rfl hd kk
theorem gX_10_14 (S : CallFix p m c cc nL s args zWs own) (K : ZK D cs s) (w : ZW D A0 H0 (XWc cs ad td dr F A T) H locs) (hl : Cond.fieldLink own index "FifthsOfGuilt$CaseFile" "to" "[I" ∈ zWs) (hd : decode cc pc = .ok (.getfield index, 3)) (kk : W p l e R s m args below meth c H locs cells slots Q (F0 m (pc + 3) ls (.ref (ad 37) :: rest))) : W p l e R s m args below meth c H locs cells slots Q (F0 m pc ls (.ref (ad 10) :: rest)) :=
  z_get (C := RX1) (T := TX1) (N := 15) (ci := 1) S K w inZ1 10 rfl rfl 14 (by decide) hl rfl rfl hd kk
theorem gX_11_0 (S : CallFix p m c cc nL s args zWs own) (K : ZK D cs s) (w : ZW D A0 H0 (XWc cs ad td dr F A T) H locs) (hl : Cond.fieldLink own index "FifthsOfGuilt$CaseFile" "suspects" "I" ∈ zWs) (hd : decode cc pc = .ok (.getfield index, 3)) (kk : W p l e R s m args below meth c H locs cells slots Q (F0 m (pc + 3) ls (.int (F 28) :: rest))) : W p l e R s m args below meth c H locs cells slots Q (F0 m pc ls (.ref (ad 11) :: rest)) :=
  z_get (C := RX1) (T := TX1) (N := 15) (ci := 1) S K w inZ1 11 rfl rfl 0 (by decide) hl rfl rfl hd kk
theorem pX_11_0 (S : CallFix p m c cc nL s args zWs own) (K : ZK D cs s) (w : ZW D A0 H0 (XWc cs ad td dr F A T) H locs) {v : Int32} (hl : Cond.fieldLink own index "FifthsOfGuilt$CaseFile" "suspects" "I" ∈ zWs) (hd : decode cc pc = .ok (.putfield index, 3)) (kk : ∀ (H1 : Heap) (locs1 : List Loc), ZW D A0 H0 (XWc cs ad td dr (upd F 28 v) A T) H1 locs1 → W p l e R s m args below meth c H1 locs1 cells slots Q (F0 m (pc + 3) ls rest)) : W p l e R s m args below meth c H locs cells slots Q (F0 m pc ls (.int v :: .ref (ad 11) :: rest)) :=
  z_put (C := RX1) (T := TX1) (N := 15) (ci := 1) (ty := .int) S K w inZ1 tyX1 tyX1_ok nmX1 11 rfl rfl 0 (by decide) hl rfl rfl rfl rfl rfl (Nat.le_of_ble_eq_true rfl) rfl hd kk
theorem gX_11_1 (S : CallFix p m c cc nL s args zWs own) (K : ZK D cs s) (w : ZW D A0 H0 (XWc cs ad td dr F A T) H locs) (hl : Cond.fieldLink own index "FifthsOfGuilt$CaseFile" "facts" "I" ∈ zWs) (hd : decode cc pc = .ok (.getfield index, 3)) (kk : W p l e R s m args below meth c H locs cells slots Q (F0 m (pc + 3) ls (.int (F 29) :: rest))) : W p l e R s m args below meth c H locs cells slots Q (F0 m pc ls (.ref (ad 11) :: rest)) :=
  z_get (C := RX1) (T := TX1) (N := 15) (ci := 1) S K w inZ1 11 rfl rfl 1 (by decide) hl rfl rfl hd kk
theorem pX_11_1 (S : CallFix p m c cc nL s args zWs own) (K : ZK D cs s) (w : ZW D A0 H0 (XWc cs ad td dr F A T) H locs) {v : Int32} (hl : Cond.fieldLink own index "FifthsOfGuilt$CaseFile" "facts" "I" ∈ zWs) (hd : decode cc pc = .ok (.putfield index, 3)) (kk : ∀ (H1 : Heap) (locs1 : List Loc), ZW D A0 H0 (XWc cs ad td dr (upd F 29 v) A T) H1 locs1 → W p l e R s m args below meth c H1 locs1 cells slots Q (F0 m (pc + 3) ls rest)) : W p l e R s m args below meth c H locs cells slots Q (F0 m pc ls (.int v :: .ref (ad 11) :: rest)) :=
  z_put (C := RX1) (T := TX1) (N := 15) (ci := 1) (ty := .int) S K w inZ1 tyX1 tyX1_ok nmX1 11 rfl rfl 1 (by decide) hl rfl rfl rfl rfl rfl (Nat.le_of_ble_eq_true rfl) rfl hd kk
theorem gX_11_2 (S : CallFix p m c cc nL s args zWs own) (K : ZK D cs s) (w : ZW D A0 H0 (XWc cs ad td dr F A T) H locs) (hl : Cond.fieldLink own index "FifthsOfGuilt$CaseFile" "alibis" "I" ∈ zWs) (hd : decode cc pc = .ok (.getfield index, 3)) (kk : W p l e R s m args below meth c H locs cells slots Q (F0 m (pc + 3) ls (.int (F 30) :: rest))) : W p l e R s m args below meth c H locs cells slots Q (F0 m pc ls (.ref (ad 11) :: rest)) :=
  z_get (C := RX1) (T := TX1) (N := 15) (ci := 1) S K w inZ1 11 rfl rfl 2 (by decide) hl rfl rfl hd kk
theorem pX_11_2 (S : CallFix p m c cc nL s args zWs own) (K : ZK D cs s) (w : ZW D A0 H0 (XWc cs ad td dr F A T) H locs) {v : Int32} (hl : Cond.fieldLink own index "FifthsOfGuilt$CaseFile" "alibis" "I" ∈ zWs) (hd : decode cc pc = .ok (.putfield index, 3)) (kk : ∀ (H1 : Heap) (locs1 : List Loc), ZW D A0 H0 (XWc cs ad td dr (upd F 30 v) A T) H1 locs1 → W p l e R s m args below meth c H1 locs1 cells slots Q (F0 m (pc + 3) ls rest)) : W p l e R s m args below meth c H locs cells slots Q (F0 m pc ls (.int v :: .ref (ad 11) :: rest)) :=
  z_put (C := RX1) (T := TX1) (N := 15) (ci := 1) (ty := .int) S K w inZ1 tyX1 tyX1_ok nmX1 11 rfl rfl 2 (by decide) hl rfl rfl rfl rfl rfl (Nat.le_of_ble_eq_true rfl) rfl hd kk
theorem gX_11_3 (S : CallFix p m c cc nL s args zWs own) (K : ZK D cs s) (w : ZW D A0 H0 (XWc cs ad td dr F A T) H locs) (hl : Cond.fieldLink own index "FifthsOfGuilt$CaseFile" "deedFrom" "I" ∈ zWs) (hd : decode cc pc = .ok (.getfield index, 3)) (kk : W p l e R s m args below meth c H locs cells slots Q (F0 m (pc + 3) ls (.int (F 31) :: rest))) : W p l e R s m args below meth c H locs cells slots Q (F0 m pc ls (.ref (ad 11) :: rest)) :=
  z_get (C := RX1) (T := TX1) (N := 15) (ci := 1) S K w inZ1 11 rfl rfl 3 (by decide) hl rfl rfl hd kk
theorem pX_11_3 (S : CallFix p m c cc nL s args zWs own) (K : ZK D cs s) (w : ZW D A0 H0 (XWc cs ad td dr F A T) H locs) {v : Int32} (hl : Cond.fieldLink own index "FifthsOfGuilt$CaseFile" "deedFrom" "I" ∈ zWs) (hd : decode cc pc = .ok (.putfield index, 3)) (kk : ∀ (H1 : Heap) (locs1 : List Loc), ZW D A0 H0 (XWc cs ad td dr (upd F 31 v) A T) H1 locs1 → W p l e R s m args below meth c H1 locs1 cells slots Q (F0 m (pc + 3) ls rest)) : W p l e R s m args below meth c H locs cells slots Q (F0 m pc ls (.int v :: .ref (ad 11) :: rest)) :=
  z_put (C := RX1) (T := TX1) (N := 15) (ci := 1) (ty := .int) S K w inZ1 tyX1 tyX1_ok nmX1 11 rfl rfl 3 (by decide) hl rfl rfl rfl rfl rfl (Nat.le_of_ble_eq_true rfl) rfl hd kk
theorem gX_11_4 (S : CallFix p m c cc nL s args zWs own) (K : ZK D cs s) (w : ZW D A0 H0 (XWc cs ad td dr F A T) H locs) (hl : Cond.fieldLink own index "FifthsOfGuilt$CaseFile" "deedTo" "I" ∈ zWs) (hd : decode cc pc = .ok (.getfield index, 3)) (kk : W p l e R s m args below meth c H locs cells slots Q (F0 m (pc + 3) ls (.int (F 32) :: rest))) : W p l e R s m args below meth c H locs cells slots Q (F0 m pc ls (.ref (ad 11) :: rest)) :=
  z_get (C := RX1) (T := TX1) (N := 15) (ci := 1) S K w inZ1 11 rfl rfl 4 (by decide) hl rfl rfl hd kk
theorem pX_11_4 (S : CallFix p m c cc nL s args zWs own) (K : ZK D cs s) (w : ZW D A0 H0 (XWc cs ad td dr F A T) H locs) {v : Int32} (hl : Cond.fieldLink own index "FifthsOfGuilt$CaseFile" "deedTo" "I" ∈ zWs) (hd : decode cc pc = .ok (.putfield index, 3)) (kk : ∀ (H1 : Heap) (locs1 : List Loc), ZW D A0 H0 (XWc cs ad td dr (upd F 32 v) A T) H1 locs1 → W p l e R s m args below meth c H1 locs1 cells slots Q (F0 m (pc + 3) ls rest)) : W p l e R s m args below meth c H locs cells slots Q (F0 m pc ls (.int v :: .ref (ad 11) :: rest)) :=
  z_put (C := RX1) (T := TX1) (N := 15) (ci := 1) (ty := .int) S K w inZ1 tyX1 tyX1_ok nmX1 11 rfl rfl 4 (by decide) hl rfl rfl rfl rfl rfl (Nat.le_of_ble_eq_true rfl) rfl hd kk
theorem gX_11_5 (S : CallFix p m c cc nL s args zWs own) (K : ZK D cs s) (w : ZW D A0 H0 (XWc cs ad td dr F A T) H locs) (hl : Cond.fieldLink own index "FifthsOfGuilt$CaseFile" "days" "I" ∈ zWs) (hd : decode cc pc = .ok (.getfield index, 3)) (kk : W p l e R s m args below meth c H locs cells slots Q (F0 m (pc + 3) ls (.int (F 33) :: rest))) : W p l e R s m args below meth c H locs cells slots Q (F0 m pc ls (.ref (ad 11) :: rest)) :=
  z_get (C := RX1) (T := TX1) (N := 15) (ci := 1) S K w inZ1 11 rfl rfl 5 (by decide) hl rfl rfl hd kk
theorem pX_11_5 (S : CallFix p m c cc nL s args zWs own) (K : ZK D cs s) (w : ZW D A0 H0 (XWc cs ad td dr F A T) H locs) {v : Int32} (hl : Cond.fieldLink own index "FifthsOfGuilt$CaseFile" "days" "I" ∈ zWs) (hd : decode cc pc = .ok (.putfield index, 3)) (kk : ∀ (H1 : Heap) (locs1 : List Loc), ZW D A0 H0 (XWc cs ad td dr (upd F 33 v) A T) H1 locs1 → W p l e R s m args below meth c H1 locs1 cells slots Q (F0 m (pc + 3) ls rest)) : W p l e R s m args below meth c H locs cells slots Q (F0 m pc ls (.int v :: .ref (ad 11) :: rest)) :=
  z_put (C := RX1) (T := TX1) (N := 15) (ci := 1) (ty := .int) S K w inZ1 tyX1 tyX1_ok nmX1 11 rfl rfl 5 (by decide) hl rfl rfl rfl rfl rfl (Nat.le_of_ble_eq_true rfl) rfl hd kk
theorem gX_11_6 (S : CallFix p m c cc nL s args zWs own) (K : ZK D cs s) (w : ZW D A0 H0 (XWc cs ad td dr F A T) H locs) (hl : Cond.fieldLink own index "FifthsOfGuilt$CaseFile" "grudge" "[I" ∈ zWs) (hd : decode cc pc = .ok (.getfield index, 3)) (kk : W p l e R s m args below meth c H locs cells slots Q (F0 m (pc + 3) ls (.ref (ad 38) :: rest))) : W p l e R s m args below meth c H locs cells slots Q (F0 m pc ls (.ref (ad 11) :: rest)) :=
  z_get (C := RX1) (T := TX1) (N := 15) (ci := 1) S K w inZ1 11 rfl rfl 6 (by decide) hl rfl rfl hd kk
theorem gX_11_7 (S : CallFix p m c cc nL s args zWs own) (K : ZK D cs s) (w : ZW D A0 H0 (XWc cs ad td dr F A T) H locs) (hl : Cond.fieldLink own index "FifthsOfGuilt$CaseFile" "cost" "[I" ∈ zWs) (hd : decode cc pc = .ok (.getfield index, 3)) (kk : W p l e R s m args below meth c H locs cells slots Q (F0 m (pc + 3) ls (.ref (ad 39) :: rest))) : W p l e R s m args below meth c H locs cells slots Q (F0 m pc ls (.ref (ad 11) :: rest)) :=
  z_get (C := RX1) (T := TX1) (N := 15) (ci := 1) S K w inZ1 11 rfl rfl 7 (by decide) hl rfl rfl hd kk
theorem gX_11_8 (S : CallFix p m c cc nL s args zWs own) (K : ZK D cs s) (w : ZW D A0 H0 (XWc cs ad td dr F A T) H locs) (hl : Cond.fieldLink own index "FifthsOfGuilt$CaseFile" "trust" "[I" ∈ zWs) (hd : decode cc pc = .ok (.getfield index, 3)) (kk : W p l e R s m args below meth c H locs cells slots Q (F0 m (pc + 3) ls (.ref (ad 40) :: rest))) : W p l e R s m args below meth c H locs cells slots Q (F0 m pc ls (.ref (ad 11) :: rest)) :=
  z_get (C := RX1) (T := TX1) (N := 15) (ci := 1) S K w inZ1 11 rfl rfl 8 (by decide) hl rfl rfl hd kk
theorem gX_11_9 (S : CallFix p m c cc nL s args zWs own) (K : ZK D cs s) (w : ZW D A0 H0 (XWc cs ad td dr F A T) H locs) (hl : Cond.fieldLink own index "FifthsOfGuilt$CaseFile" "moves" "[I" ∈ zWs) (hd : decode cc pc = .ok (.getfield index, 3)) (kk : W p l e R s m args below meth c H locs cells slots Q (F0 m (pc + 3) ls (.ref (ad 41) :: rest))) : W p l e R s m args below meth c H locs cells slots Q (F0 m pc ls (.ref (ad 11) :: rest)) :=
  z_get (C := RX1) (T := TX1) (N := 15) (ci := 1) S K w inZ1 11 rfl rfl 9 (by decide) hl rfl rfl hd kk
theorem gX_11_10 (S : CallFix p m c cc nL s args zWs own) (K : ZK D cs s) (w : ZW D A0 H0 (XWc cs ad td dr F A T) H locs) (hl : Cond.fieldLink own index "FifthsOfGuilt$CaseFile" "trustedMoves" "[I" ∈ zWs) (hd : decode cc pc = .ok (.getfield index, 3)) (kk : W p l e R s m args below meth c H locs cells slots Q (F0 m (pc + 3) ls (.ref (ad 42) :: rest))) : W p l e R s m args below meth c H locs cells slots Q (F0 m pc ls (.ref (ad 11) :: rest)) :=
  z_get (C := RX1) (T := TX1) (N := 15) (ci := 1) S K w inZ1 11 rfl rfl 10 (by decide) hl rfl rfl hd kk
theorem gX_11_11 (S : CallFix p m c cc nL s args zWs own) (K : ZK D cs s) (w : ZW D A0 H0 (XWc cs ad td dr F A T) H locs) (hl : Cond.fieldLink own index "FifthsOfGuilt$CaseFile" "alibiOf" "[I" ∈ zWs) (hd : decode cc pc = .ok (.getfield index, 3)) (kk : W p l e R s m args below meth c H locs cells slots Q (F0 m (pc + 3) ls (.ref (ad 43) :: rest))) : W p l e R s m args below meth c H locs cells slots Q (F0 m pc ls (.ref (ad 11) :: rest)) :=
  z_get (C := RX1) (T := TX1) (N := 15) (ci := 1) S K w inZ1 11 rfl rfl 11 (by decide) hl rfl rfl hd kk
theorem gX_11_12 (S : CallFix p m c cc nL s args zWs own) (K : ZK D cs s) (w : ZW D A0 H0 (XWc cs ad td dr F A T) H locs) (hl : Cond.fieldLink own index "FifthsOfGuilt$CaseFile" "place" "[I" ∈ zWs) (hd : decode cc pc = .ok (.getfield index, 3)) (kk : W p l e R s m args below meth c H locs cells slots Q (F0 m (pc + 3) ls (.ref (ad 44) :: rest))) : W p l e R s m args below meth c H locs cells slots Q (F0 m pc ls (.ref (ad 11) :: rest)) :=
  z_get (C := RX1) (T := TX1) (N := 15) (ci := 1) S K w inZ1 11 rfl rfl 12 (by decide) hl rfl rfl hd kk
theorem gX_11_13 (S : CallFix p m c cc nL s args zWs own) (K : ZK D cs s) (w : ZW D A0 H0 (XWc cs ad td dr F A T) H locs) (hl : Cond.fieldLink own index "FifthsOfGuilt$CaseFile" "from" "[I" ∈ zWs) (hd : decode cc pc = .ok (.getfield index, 3)) (kk : W p l e R s m args below meth c H locs cells slots Q (F0 m (pc + 3) ls (.ref (ad 45) :: rest))) : W p l e R s m args below meth c H locs cells slots Q (F0 m pc ls (.ref (ad 11) :: rest)) :=
  z_get (C := RX1) (T := TX1) (N := 15) (ci := 1) S K w inZ1 11 rfl rfl 13 (by decide) hl rfl rfl hd kk
theorem gX_11_14 (S : CallFix p m c cc nL s args zWs own) (K : ZK D cs s) (w : ZW D A0 H0 (XWc cs ad td dr F A T) H locs) (hl : Cond.fieldLink own index "FifthsOfGuilt$CaseFile" "to" "[I" ∈ zWs) (hd : decode cc pc = .ok (.getfield index, 3)) (kk : W p l e R s m args below meth c H locs cells slots Q (F0 m (pc + 3) ls (.ref (ad 46) :: rest))) : W p l e R s m args below meth c H locs cells slots Q (F0 m pc ls (.ref (ad 11) :: rest)) :=
  z_get (C := RX1) (T := TX1) (N := 15) (ci := 1) S K w inZ1 11 rfl rfl 14 (by decide) hl rfl rfl hd kk
theorem aX_12 (S : CallFix p m c cc nL s args zWs own) (K : ZK D cs s) (w : ZW D A0 H0 (XWc cs ad td dr F A T) H locs) {i : Int32} (hi : gok i 200 = true) (hd : decode cc pc = .ok (.iaload, 1)) (kk : W p l e R s m args below meth c H locs cells slots Q (F0 m (pc + 1) ls (.int (A 12 i.toNatClampNeg) :: rest))) : W p l e R s m args below meth c H locs cells slots Q (F0 m pc ls (.int i :: .ref (ad 12) :: rest)) :=
  va_iald S.1 S.2.1 K.1 w.1 12 0 (n := 200) (f := A 12) rfl rfl (gok_in hi) hd kk
theorem sX_12 (S : CallFix p m c cc nL s args zWs own) (K : ZK D cs s) (w : ZW D A0 H0 (XWc cs ad td dr F A T) H locs) {i x : Int32} (hi : gok i 200 = true) (hd : decode cc pc = .ok (.iastore, 1)) (kk : ∀ (H1 : Heap) (locs1 : List Loc), ZW D A0 H0 (XWc cs ad td dr F (zst A 12 i.toNatClampNeg x) T) H1 locs1 → W p l e R s m args below meth c H1 locs1 cells slots Q (F0 m (pc + 1) ls rest)) : W p l e R s m args below meth c H locs cells slots Q (F0 m pc ls (.int x :: .int i :: .ref (ad 12) :: rest)) :=
  va_iast S.1 S.2.1 K.1 w.1 w.2.1 w.2.2 12 0 (n := 200) (f := A 12) rfl rfl (gok_in hi) hd (fun H1 locs1 h1 h2 h3 => kk H1 locs1 ⟨h1, h2, h3⟩)
theorem aX_13 (S : CallFix p m c cc nL s args zWs own) (K : ZK D cs s) (w : ZW D A0 H0 (XWc cs ad td dr F A T) H locs) {i : Int32} (hi : gok i 8 = true) (hd : decode cc pc = .ok (.iaload, 1)) (kk : W p l e R s m args below meth c H locs cells slots Q (F0 m (pc + 1) ls (.int (A 13 i.toNatClampNeg) :: rest))) : W p l e R s m args below meth c H locs cells slots Q (F0 m pc ls (.int i :: .ref (ad 13) :: rest)) :=
  va_iald S.1 S.2.1 K.1 w.1 13 0 (n := 8) (f := A 13) rfl rfl (gok_in hi) hd kk
theorem sX_13 (S : CallFix p m c cc nL s args zWs own) (K : ZK D cs s) (w : ZW D A0 H0 (XWc cs ad td dr F A T) H locs) {i x : Int32} (hi : gok i 8 = true) (hd : decode cc pc = .ok (.iastore, 1)) (kk : ∀ (H1 : Heap) (locs1 : List Loc), ZW D A0 H0 (XWc cs ad td dr F (zst A 13 i.toNatClampNeg x) T) H1 locs1 → W p l e R s m args below meth c H1 locs1 cells slots Q (F0 m (pc + 1) ls rest)) : W p l e R s m args below meth c H locs cells slots Q (F0 m pc ls (.int x :: .int i :: .ref (ad 13) :: rest)) :=
  va_iast S.1 S.2.1 K.1 w.1 w.2.1 w.2.2 13 0 (n := 8) (f := A 13) rfl rfl (gok_in hi) hd (fun H1 locs1 h1 h2 h3 => kk H1 locs1 ⟨h1, h2, h3⟩)
theorem aX_14 (S : CallFix p m c cc nL s args zWs own) (K : ZK D cs s) (w : ZW D A0 H0 (XWc cs ad td dr F A T) H locs) {i : Int32} (hi : gok i 6 = true) (hd : decode cc pc = .ok (.iaload, 1)) (kk : W p l e R s m args below meth c H locs cells slots Q (F0 m (pc + 1) ls (.int (A 14 i.toNatClampNeg) :: rest))) : W p l e R s m args below meth c H locs cells slots Q (F0 m pc ls (.int i :: .ref (ad 14) :: rest)) :=
  va_iald S.1 S.2.1 K.1 w.1 14 0 (n := 6) (f := A 14) rfl rfl (gok_in hi) hd kk
theorem sX_14 (S : CallFix p m c cc nL s args zWs own) (K : ZK D cs s) (w : ZW D A0 H0 (XWc cs ad td dr F A T) H locs) {i x : Int32} (hi : gok i 6 = true) (hd : decode cc pc = .ok (.iastore, 1)) (kk : ∀ (H1 : Heap) (locs1 : List Loc), ZW D A0 H0 (XWc cs ad td dr F (zst A 14 i.toNatClampNeg x) T) H1 locs1 → W p l e R s m args below meth c H1 locs1 cells slots Q (F0 m (pc + 1) ls rest)) : W p l e R s m args below meth c H locs cells slots Q (F0 m pc ls (.int x :: .int i :: .ref (ad 14) :: rest)) :=
  va_iast S.1 S.2.1 K.1 w.1 w.2.1 w.2.2 14 0 (n := 6) (f := A 14) rfl rfl (gok_in hi) hd (fun H1 locs1 h1 h2 h3 => kk H1 locs1 ⟨h1, h2, h3⟩)
theorem aX_15 (S : CallFix p m c cc nL s args zWs own) (K : ZK D cs s) (w : ZW D A0 H0 (XWc cs ad td dr F A T) H locs) {i : Int32} (hi : gok i 6 = true) (hd : decode cc pc = .ok (.iaload, 1)) (kk : W p l e R s m args below meth c H locs cells slots Q (F0 m (pc + 1) ls (.int (A 15 i.toNatClampNeg) :: rest))) : W p l e R s m args below meth c H locs cells slots Q (F0 m pc ls (.int i :: .ref (ad 15) :: rest)) :=
  va_iald S.1 S.2.1 K.1 w.1 15 0 (n := 6) (f := A 15) rfl rfl (gok_in hi) hd kk
theorem sX_15 (S : CallFix p m c cc nL s args zWs own) (K : ZK D cs s) (w : ZW D A0 H0 (XWc cs ad td dr F A T) H locs) {i x : Int32} (hi : gok i 6 = true) (hd : decode cc pc = .ok (.iastore, 1)) (kk : ∀ (H1 : Heap) (locs1 : List Loc), ZW D A0 H0 (XWc cs ad td dr F (zst A 15 i.toNatClampNeg x) T) H1 locs1 → W p l e R s m args below meth c H1 locs1 cells slots Q (F0 m (pc + 1) ls rest)) : W p l e R s m args below meth c H locs cells slots Q (F0 m pc ls (.int x :: .int i :: .ref (ad 15) :: rest)) :=
  va_iast S.1 S.2.1 K.1 w.1 w.2.1 w.2.2 15 0 (n := 6) (f := A 15) rfl rfl (gok_in hi) hd (fun H1 locs1 h1 h2 h3 => kk H1 locs1 ⟨h1, h2, h3⟩)
theorem aX_16 (S : CallFix p m c cc nL s args zWs own) (K : ZK D cs s) (w : ZW D A0 H0 (XWc cs ad td dr F A T) H locs) {i : Int32} (hi : gok i 6 = true) (hd : decode cc pc = .ok (.iaload, 1)) (kk : W p l e R s m args below meth c H locs cells slots Q (F0 m (pc + 1) ls (.int (A 16 i.toNatClampNeg) :: rest))) : W p l e R s m args below meth c H locs cells slots Q (F0 m pc ls (.int i :: .ref (ad 16) :: rest)) :=
  va_iald S.1 S.2.1 K.1 w.1 16 0 (n := 6) (f := A 16) rfl rfl (gok_in hi) hd kk
theorem sX_16 (S : CallFix p m c cc nL s args zWs own) (K : ZK D cs s) (w : ZW D A0 H0 (XWc cs ad td dr F A T) H locs) {i x : Int32} (hi : gok i 6 = true) (hd : decode cc pc = .ok (.iastore, 1)) (kk : ∀ (H1 : Heap) (locs1 : List Loc), ZW D A0 H0 (XWc cs ad td dr F (zst A 16 i.toNatClampNeg x) T) H1 locs1 → W p l e R s m args below meth c H1 locs1 cells slots Q (F0 m (pc + 1) ls rest)) : W p l e R s m args below meth c H locs cells slots Q (F0 m pc ls (.int x :: .int i :: .ref (ad 16) :: rest)) :=
  va_iast S.1 S.2.1 K.1 w.1 w.2.1 w.2.2 16 0 (n := 6) (f := A 16) rfl rfl (gok_in hi) hd (fun H1 locs1 h1 h2 h3 => kk H1 locs1 ⟨h1, h2, h3⟩)
theorem aX_17 (S : CallFix p m c cc nL s args zWs own) (K : ZK D cs s) (w : ZW D A0 H0 (XWc cs ad td dr F A T) H locs) {i : Int32} (hi : gok i 6 = true) (hd : decode cc pc = .ok (.iaload, 1)) (kk : W p l e R s m args below meth c H locs cells slots Q (F0 m (pc + 1) ls (.int (A 17 i.toNatClampNeg) :: rest))) : W p l e R s m args below meth c H locs cells slots Q (F0 m pc ls (.int i :: .ref (ad 17) :: rest)) :=
  va_iald S.1 S.2.1 K.1 w.1 17 0 (n := 6) (f := A 17) rfl rfl (gok_in hi) hd kk
theorem sX_17 (S : CallFix p m c cc nL s args zWs own) (K : ZK D cs s) (w : ZW D A0 H0 (XWc cs ad td dr F A T) H locs) {i x : Int32} (hi : gok i 6 = true) (hd : decode cc pc = .ok (.iastore, 1)) (kk : ∀ (H1 : Heap) (locs1 : List Loc), ZW D A0 H0 (XWc cs ad td dr F (zst A 17 i.toNatClampNeg x) T) H1 locs1 → W p l e R s m args below meth c H1 locs1 cells slots Q (F0 m (pc + 1) ls rest)) : W p l e R s m args below meth c H locs cells slots Q (F0 m pc ls (.int x :: .int i :: .ref (ad 17) :: rest)) :=
  va_iast S.1 S.2.1 K.1 w.1 w.2.1 w.2.2 17 0 (n := 6) (f := A 17) rfl rfl (gok_in hi) hd (fun H1 locs1 h1 h2 h3 => kk H1 locs1 ⟨h1, h2, h3⟩)
theorem aX_18 (S : CallFix p m c cc nL s args zWs own) (K : ZK D cs s) (w : ZW D A0 H0 (XWc cs ad td dr F A T) H locs) {i : Int32} (hi : gok i 10 = true) (hd : decode cc pc = .ok (.iaload, 1)) (kk : W p l e R s m args below meth c H locs cells slots Q (F0 m (pc + 1) ls (.int (A 18 i.toNatClampNeg) :: rest))) : W p l e R s m args below meth c H locs cells slots Q (F0 m pc ls (.int i :: .ref (ad 18) :: rest)) :=
  va_iald S.1 S.2.1 K.1 w.1 18 0 (n := 10) (f := A 18) rfl rfl (gok_in hi) hd kk
theorem sX_18 (S : CallFix p m c cc nL s args zWs own) (K : ZK D cs s) (w : ZW D A0 H0 (XWc cs ad td dr F A T) H locs) {i x : Int32} (hi : gok i 10 = true) (hd : decode cc pc = .ok (.iastore, 1)) (kk : ∀ (H1 : Heap) (locs1 : List Loc), ZW D A0 H0 (XWc cs ad td dr F (zst A 18 i.toNatClampNeg x) T) H1 locs1 → W p l e R s m args below meth c H1 locs1 cells slots Q (F0 m (pc + 1) ls rest)) : W p l e R s m args below meth c H locs cells slots Q (F0 m pc ls (.int x :: .int i :: .ref (ad 18) :: rest)) :=
  va_iast S.1 S.2.1 K.1 w.1 w.2.1 w.2.2 18 0 (n := 10) (f := A 18) rfl rfl (gok_in hi) hd (fun H1 locs1 h1 h2 h3 => kk H1 locs1 ⟨h1, h2, h3⟩)
theorem gX_19_0 (S : CallFix p m c cc nL s args zWs own) (K : ZK D cs s) (w : ZW D A0 H0 (XWc cs ad td dr F A T) H locs) (hl : Cond.fieldLink own index "FifthsOfGuilt$Standing" "facts" "I" ∈ zWs) (hd : decode cc pc = .ok (.getfield index, 3)) (kk : W p l e R s m args below meth c H locs cells slots Q (F0 m (pc + 3) ls (.int (F 14) :: rest))) : W p l e R s m args below meth c H locs cells slots Q (F0 m pc ls (.ref (ad 19) :: rest)) :=
  z_get (C := RX6) (T := TX6) (N := 5) (ci := 6) S K w inZ6 19 rfl rfl 0 (by decide) hl rfl rfl hd kk
theorem pX_19_0 (S : CallFix p m c cc nL s args zWs own) (K : ZK D cs s) (w : ZW D A0 H0 (XWc cs ad td dr F A T) H locs) {v : Int32} (hl : Cond.fieldLink own index "FifthsOfGuilt$Standing" "facts" "I" ∈ zWs) (hd : decode cc pc = .ok (.putfield index, 3)) (kk : ∀ (H1 : Heap) (locs1 : List Loc), ZW D A0 H0 (XWc cs ad td dr (upd F 14 v) A T) H1 locs1 → W p l e R s m args below meth c H1 locs1 cells slots Q (F0 m (pc + 3) ls rest)) : W p l e R s m args below meth c H locs cells slots Q (F0 m pc ls (.int v :: .ref (ad 19) :: rest)) :=
  z_put (C := RX6) (T := TX6) (N := 5) (ci := 6) (ty := .int) S K w inZ6 tyX6 tyX6_ok nmX6 19 rfl rfl 0 (by decide) hl rfl rfl rfl rfl rfl (Nat.le_of_ble_eq_true rfl) rfl hd kk
theorem gX_19_1 (S : CallFix p m c cc nL s args zWs own) (K : ZK D cs s) (w : ZW D A0 H0 (XWc cs ad td dr F A T) H locs) (hl : Cond.fieldLink own index "FifthsOfGuilt$Standing" "alibis" "I" ∈ zWs) (hd : decode cc pc = .ok (.getfield index, 3)) (kk : W p l e R s m args below meth c H locs cells slots Q (F0 m (pc + 3) ls (.int (F 15) :: rest))) : W p l e R s m args below meth c H locs cells slots Q (F0 m pc ls (.ref (ad 19) :: rest)) :=
  z_get (C := RX6) (T := TX6) (N := 5) (ci := 6) S K w inZ6 19 rfl rfl 1 (by decide) hl rfl rfl hd kk
theorem pX_19_1 (S : CallFix p m c cc nL s args zWs own) (K : ZK D cs s) (w : ZW D A0 H0 (XWc cs ad td dr F A T) H locs) {v : Int32} (hl : Cond.fieldLink own index "FifthsOfGuilt$Standing" "alibis" "I" ∈ zWs) (hd : decode cc pc = .ok (.putfield index, 3)) (kk : ∀ (H1 : Heap) (locs1 : List Loc), ZW D A0 H0 (XWc cs ad td dr (upd F 15 v) A T) H1 locs1 → W p l e R s m args below meth c H1 locs1 cells slots Q (F0 m (pc + 3) ls rest)) : W p l e R s m args below meth c H locs cells slots Q (F0 m pc ls (.int v :: .ref (ad 19) :: rest)) :=
  z_put (C := RX6) (T := TX6) (N := 5) (ci := 6) (ty := .int) S K w inZ6 tyX6 tyX6_ok nmX6 19 rfl rfl 1 (by decide) hl rfl rfl rfl rfl rfl (Nat.le_of_ble_eq_true rfl) rfl hd kk
theorem gX_19_2 (S : CallFix p m c cc nL s args zWs own) (K : ZK D cs s) (w : ZW D A0 H0 (XWc cs ad td dr F A T) H locs) (hl : Cond.fieldLink own index "FifthsOfGuilt$Standing" "days" "I" ∈ zWs) (hd : decode cc pc = .ok (.getfield index, 3)) (kk : W p l e R s m args below meth c H locs cells slots Q (F0 m (pc + 3) ls (.int (F 16) :: rest))) : W p l e R s m args below meth c H locs cells slots Q (F0 m pc ls (.ref (ad 19) :: rest)) :=
  z_get (C := RX6) (T := TX6) (N := 5) (ci := 6) S K w inZ6 19 rfl rfl 2 (by decide) hl rfl rfl hd kk
theorem pX_19_2 (S : CallFix p m c cc nL s args zWs own) (K : ZK D cs s) (w : ZW D A0 H0 (XWc cs ad td dr F A T) H locs) {v : Int32} (hl : Cond.fieldLink own index "FifthsOfGuilt$Standing" "days" "I" ∈ zWs) (hd : decode cc pc = .ok (.putfield index, 3)) (kk : ∀ (H1 : Heap) (locs1 : List Loc), ZW D A0 H0 (XWc cs ad td dr (upd F 16 v) A T) H1 locs1 → W p l e R s m args below meth c H1 locs1 cells slots Q (F0 m (pc + 3) ls rest)) : W p l e R s m args below meth c H locs cells slots Q (F0 m pc ls (.int v :: .ref (ad 19) :: rest)) :=
  z_put (C := RX6) (T := TX6) (N := 5) (ci := 6) (ty := .int) S K w inZ6 tyX6 tyX6_ok nmX6 19 rfl rfl 2 (by decide) hl rfl rfl rfl rfl rfl (Nat.le_of_ble_eq_true rfl) rfl hd kk
theorem gX_19_3 (S : CallFix p m c cc nL s args zWs own) (K : ZK D cs s) (w : ZW D A0 H0 (XWc cs ad td dr F A T) H locs) (hl : Cond.fieldLink own index "FifthsOfGuilt$Standing" "known" "I" ∈ zWs) (hd : decode cc pc = .ok (.getfield index, 3)) (kk : W p l e R s m args below meth c H locs cells slots Q (F0 m (pc + 3) ls (.int (F 17) :: rest))) : W p l e R s m args below meth c H locs cells slots Q (F0 m pc ls (.ref (ad 19) :: rest)) :=
  z_get (C := RX6) (T := TX6) (N := 5) (ci := 6) S K w inZ6 19 rfl rfl 3 (by decide) hl rfl rfl hd kk
theorem pX_19_3 (S : CallFix p m c cc nL s args zWs own) (K : ZK D cs s) (w : ZW D A0 H0 (XWc cs ad td dr F A T) H locs) {v : Int32} (hl : Cond.fieldLink own index "FifthsOfGuilt$Standing" "known" "I" ∈ zWs) (hd : decode cc pc = .ok (.putfield index, 3)) (kk : ∀ (H1 : Heap) (locs1 : List Loc), ZW D A0 H0 (XWc cs ad td dr (upd F 17 v) A T) H1 locs1 → W p l e R s m args below meth c H1 locs1 cells slots Q (F0 m (pc + 3) ls rest)) : W p l e R s m args below meth c H locs cells slots Q (F0 m pc ls (.int v :: .ref (ad 19) :: rest)) :=
  z_put (C := RX6) (T := TX6) (N := 5) (ci := 6) (ty := .int) S K w inZ6 tyX6 tyX6_ok nmX6 19 rfl rfl 3 (by decide) hl rfl rfl rfl rfl rfl (Nat.le_of_ble_eq_true rfl) rfl hd kk
theorem gX_19_4 (S : CallFix p m c cc nL s args zWs own) (K : ZK D cs s) (w : ZW D A0 H0 (XWc cs ad td dr F A T) H locs) (hl : Cond.fieldLink own index "FifthsOfGuilt$Standing" "before" "[I" ∈ zWs) (hd : decode cc pc = .ok (.getfield index, 3)) (kk : W p l e R s m args below meth c H locs cells slots Q (F0 m (pc + 3) ls (.ref (ad 21) :: rest))) : W p l e R s m args below meth c H locs cells slots Q (F0 m pc ls (.ref (ad 19) :: rest)) :=
  z_get (C := RX6) (T := TX6) (N := 5) (ci := 6) S K w inZ6 19 rfl rfl 4 (by decide) hl rfl rfl hd kk
theorem gX_20_0 (S : CallFix p m c cc nL s args zWs own) (K : ZK D cs s) (w : ZW D A0 H0 (XWc cs ad td dr F A T) H locs) (hl : Cond.fieldLink own index "FifthsOfGuilt$Standing" "facts" "I" ∈ zWs) (hd : decode cc pc = .ok (.getfield index, 3)) (kk : W p l e R s m args below meth c H locs cells slots Q (F0 m (pc + 3) ls (.int (F 18) :: rest))) : W p l e R s m args below meth c H locs cells slots Q (F0 m pc ls (.ref (ad 20) :: rest)) :=
  z_get (C := RX6) (T := TX6) (N := 5) (ci := 6) S K w inZ6 20 rfl rfl 0 (by decide) hl rfl rfl hd kk
theorem pX_20_0 (S : CallFix p m c cc nL s args zWs own) (K : ZK D cs s) (w : ZW D A0 H0 (XWc cs ad td dr F A T) H locs) {v : Int32} (hl : Cond.fieldLink own index "FifthsOfGuilt$Standing" "facts" "I" ∈ zWs) (hd : decode cc pc = .ok (.putfield index, 3)) (kk : ∀ (H1 : Heap) (locs1 : List Loc), ZW D A0 H0 (XWc cs ad td dr (upd F 18 v) A T) H1 locs1 → W p l e R s m args below meth c H1 locs1 cells slots Q (F0 m (pc + 3) ls rest)) : W p l e R s m args below meth c H locs cells slots Q (F0 m pc ls (.int v :: .ref (ad 20) :: rest)) :=
  z_put (C := RX6) (T := TX6) (N := 5) (ci := 6) (ty := .int) S K w inZ6 tyX6 tyX6_ok nmX6 20 rfl rfl 0 (by decide) hl rfl rfl rfl rfl rfl (Nat.le_of_ble_eq_true rfl) rfl hd kk
theorem gX_20_1 (S : CallFix p m c cc nL s args zWs own) (K : ZK D cs s) (w : ZW D A0 H0 (XWc cs ad td dr F A T) H locs) (hl : Cond.fieldLink own index "FifthsOfGuilt$Standing" "alibis" "I" ∈ zWs) (hd : decode cc pc = .ok (.getfield index, 3)) (kk : W p l e R s m args below meth c H locs cells slots Q (F0 m (pc + 3) ls (.int (F 19) :: rest))) : W p l e R s m args below meth c H locs cells slots Q (F0 m pc ls (.ref (ad 20) :: rest)) :=
  z_get (C := RX6) (T := TX6) (N := 5) (ci := 6) S K w inZ6 20 rfl rfl 1 (by decide) hl rfl rfl hd kk
theorem pX_20_1 (S : CallFix p m c cc nL s args zWs own) (K : ZK D cs s) (w : ZW D A0 H0 (XWc cs ad td dr F A T) H locs) {v : Int32} (hl : Cond.fieldLink own index "FifthsOfGuilt$Standing" "alibis" "I" ∈ zWs) (hd : decode cc pc = .ok (.putfield index, 3)) (kk : ∀ (H1 : Heap) (locs1 : List Loc), ZW D A0 H0 (XWc cs ad td dr (upd F 19 v) A T) H1 locs1 → W p l e R s m args below meth c H1 locs1 cells slots Q (F0 m (pc + 3) ls rest)) : W p l e R s m args below meth c H locs cells slots Q (F0 m pc ls (.int v :: .ref (ad 20) :: rest)) :=
  z_put (C := RX6) (T := TX6) (N := 5) (ci := 6) (ty := .int) S K w inZ6 tyX6 tyX6_ok nmX6 20 rfl rfl 1 (by decide) hl rfl rfl rfl rfl rfl (Nat.le_of_ble_eq_true rfl) rfl hd kk
theorem gX_20_2 (S : CallFix p m c cc nL s args zWs own) (K : ZK D cs s) (w : ZW D A0 H0 (XWc cs ad td dr F A T) H locs) (hl : Cond.fieldLink own index "FifthsOfGuilt$Standing" "days" "I" ∈ zWs) (hd : decode cc pc = .ok (.getfield index, 3)) (kk : W p l e R s m args below meth c H locs cells slots Q (F0 m (pc + 3) ls (.int (F 20) :: rest))) : W p l e R s m args below meth c H locs cells slots Q (F0 m pc ls (.ref (ad 20) :: rest)) :=
  z_get (C := RX6) (T := TX6) (N := 5) (ci := 6) S K w inZ6 20 rfl rfl 2 (by decide) hl rfl rfl hd kk
theorem pX_20_2 (S : CallFix p m c cc nL s args zWs own) (K : ZK D cs s) (w : ZW D A0 H0 (XWc cs ad td dr F A T) H locs) {v : Int32} (hl : Cond.fieldLink own index "FifthsOfGuilt$Standing" "days" "I" ∈ zWs) (hd : decode cc pc = .ok (.putfield index, 3)) (kk : ∀ (H1 : Heap) (locs1 : List Loc), ZW D A0 H0 (XWc cs ad td dr (upd F 20 v) A T) H1 locs1 → W p l e R s m args below meth c H1 locs1 cells slots Q (F0 m (pc + 3) ls rest)) : W p l e R s m args below meth c H locs cells slots Q (F0 m pc ls (.int v :: .ref (ad 20) :: rest)) :=
  z_put (C := RX6) (T := TX6) (N := 5) (ci := 6) (ty := .int) S K w inZ6 tyX6 tyX6_ok nmX6 20 rfl rfl 2 (by decide) hl rfl rfl rfl rfl rfl (Nat.le_of_ble_eq_true rfl) rfl hd kk
theorem gX_20_3 (S : CallFix p m c cc nL s args zWs own) (K : ZK D cs s) (w : ZW D A0 H0 (XWc cs ad td dr F A T) H locs) (hl : Cond.fieldLink own index "FifthsOfGuilt$Standing" "known" "I" ∈ zWs) (hd : decode cc pc = .ok (.getfield index, 3)) (kk : W p l e R s m args below meth c H locs cells slots Q (F0 m (pc + 3) ls (.int (F 21) :: rest))) : W p l e R s m args below meth c H locs cells slots Q (F0 m pc ls (.ref (ad 20) :: rest)) :=
  z_get (C := RX6) (T := TX6) (N := 5) (ci := 6) S K w inZ6 20 rfl rfl 3 (by decide) hl rfl rfl hd kk
theorem pX_20_3 (S : CallFix p m c cc nL s args zWs own) (K : ZK D cs s) (w : ZW D A0 H0 (XWc cs ad td dr F A T) H locs) {v : Int32} (hl : Cond.fieldLink own index "FifthsOfGuilt$Standing" "known" "I" ∈ zWs) (hd : decode cc pc = .ok (.putfield index, 3)) (kk : ∀ (H1 : Heap) (locs1 : List Loc), ZW D A0 H0 (XWc cs ad td dr (upd F 21 v) A T) H1 locs1 → W p l e R s m args below meth c H1 locs1 cells slots Q (F0 m (pc + 3) ls rest)) : W p l e R s m args below meth c H locs cells slots Q (F0 m pc ls (.int v :: .ref (ad 20) :: rest)) :=
  z_put (C := RX6) (T := TX6) (N := 5) (ci := 6) (ty := .int) S K w inZ6 tyX6 tyX6_ok nmX6 20 rfl rfl 3 (by decide) hl rfl rfl rfl rfl rfl (Nat.le_of_ble_eq_true rfl) rfl hd kk
theorem gX_20_4 (S : CallFix p m c cc nL s args zWs own) (K : ZK D cs s) (w : ZW D A0 H0 (XWc cs ad td dr F A T) H locs) (hl : Cond.fieldLink own index "FifthsOfGuilt$Standing" "before" "[I" ∈ zWs) (hd : decode cc pc = .ok (.getfield index, 3)) (kk : W p l e R s m args below meth c H locs cells slots Q (F0 m (pc + 3) ls (.ref (ad 22) :: rest))) : W p l e R s m args below meth c H locs cells slots Q (F0 m pc ls (.ref (ad 20) :: rest)) :=
  z_get (C := RX6) (T := TX6) (N := 5) (ci := 6) S K w inZ6 20 rfl rfl 4 (by decide) hl rfl rfl hd kk
theorem aX_21 (S : CallFix p m c cc nL s args zWs own) (K : ZK D cs s) (w : ZW D A0 H0 (XWc cs ad td dr F A T) H locs) {i : Int32} (hi : gok i 10 = true) (hd : decode cc pc = .ok (.iaload, 1)) (kk : W p l e R s m args below meth c H locs cells slots Q (F0 m (pc + 1) ls (.int (A 21 i.toNatClampNeg) :: rest))) : W p l e R s m args below meth c H locs cells slots Q (F0 m pc ls (.int i :: .ref (ad 21) :: rest)) :=
  va_iald S.1 S.2.1 K.1 w.1 21 0 (n := 10) (f := A 21) rfl rfl (gok_in hi) hd kk
theorem sX_21 (S : CallFix p m c cc nL s args zWs own) (K : ZK D cs s) (w : ZW D A0 H0 (XWc cs ad td dr F A T) H locs) {i x : Int32} (hi : gok i 10 = true) (hd : decode cc pc = .ok (.iastore, 1)) (kk : ∀ (H1 : Heap) (locs1 : List Loc), ZW D A0 H0 (XWc cs ad td dr F (zst A 21 i.toNatClampNeg x) T) H1 locs1 → W p l e R s m args below meth c H1 locs1 cells slots Q (F0 m (pc + 1) ls rest)) : W p l e R s m args below meth c H locs cells slots Q (F0 m pc ls (.int x :: .int i :: .ref (ad 21) :: rest)) :=
  va_iast S.1 S.2.1 K.1 w.1 w.2.1 w.2.2 21 0 (n := 10) (f := A 21) rfl rfl (gok_in hi) hd (fun H1 locs1 h1 h2 h3 => kk H1 locs1 ⟨h1, h2, h3⟩)
theorem aX_22 (S : CallFix p m c cc nL s args zWs own) (K : ZK D cs s) (w : ZW D A0 H0 (XWc cs ad td dr F A T) H locs) {i : Int32} (hi : gok i 10 = true) (hd : decode cc pc = .ok (.iaload, 1)) (kk : W p l e R s m args below meth c H locs cells slots Q (F0 m (pc + 1) ls (.int (A 22 i.toNatClampNeg) :: rest))) : W p l e R s m args below meth c H locs cells slots Q (F0 m pc ls (.int i :: .ref (ad 22) :: rest)) :=
  va_iald S.1 S.2.1 K.1 w.1 22 0 (n := 10) (f := A 22) rfl rfl (gok_in hi) hd kk
theorem sX_22 (S : CallFix p m c cc nL s args zWs own) (K : ZK D cs s) (w : ZW D A0 H0 (XWc cs ad td dr F A T) H locs) {i x : Int32} (hi : gok i 10 = true) (hd : decode cc pc = .ok (.iastore, 1)) (kk : ∀ (H1 : Heap) (locs1 : List Loc), ZW D A0 H0 (XWc cs ad td dr F (zst A 22 i.toNatClampNeg x) T) H1 locs1 → W p l e R s m args below meth c H1 locs1 cells slots Q (F0 m (pc + 1) ls rest)) : W p l e R s m args below meth c H locs cells slots Q (F0 m pc ls (.int x :: .int i :: .ref (ad 22) :: rest)) :=
  va_iast S.1 S.2.1 K.1 w.1 w.2.1 w.2.2 22 0 (n := 10) (f := A 22) rfl rfl (gok_in hi) hd (fun H1 locs1 h1 h2 h3 => kk H1 locs1 ⟨h1, h2, h3⟩)
theorem aX_29 (S : CallFix p m c cc nL s args zWs own) (K : ZK D cs s) (w : ZW D A0 H0 (XWc cs ad td dr F A T) H locs) {i : Int32} (hi : gok i 6 = true) (hd : decode cc pc = .ok (.iaload, 1)) (kk : W p l e R s m args below meth c H locs cells slots Q (F0 m (pc + 1) ls (.int (A 29 i.toNatClampNeg) :: rest))) : W p l e R s m args below meth c H locs cells slots Q (F0 m pc ls (.int i :: .ref (ad 29) :: rest)) :=
  va_iald S.1 S.2.1 K.1 w.1 29 0 (n := 6) (f := A 29) rfl rfl (gok_in hi) hd kk
theorem sX_29 (S : CallFix p m c cc nL s args zWs own) (K : ZK D cs s) (w : ZW D A0 H0 (XWc cs ad td dr F A T) H locs) {i x : Int32} (hi : gok i 6 = true) (hd : decode cc pc = .ok (.iastore, 1)) (kk : ∀ (H1 : Heap) (locs1 : List Loc), ZW D A0 H0 (XWc cs ad td dr F (zst A 29 i.toNatClampNeg x) T) H1 locs1 → W p l e R s m args below meth c H1 locs1 cells slots Q (F0 m (pc + 1) ls rest)) : W p l e R s m args below meth c H locs cells slots Q (F0 m pc ls (.int x :: .int i :: .ref (ad 29) :: rest)) :=
  va_iast S.1 S.2.1 K.1 w.1 w.2.1 w.2.2 29 0 (n := 6) (f := A 29) rfl rfl (gok_in hi) hd (fun H1 locs1 h1 h2 h3 => kk H1 locs1 ⟨h1, h2, h3⟩)
theorem aX_30 (S : CallFix p m c cc nL s args zWs own) (K : ZK D cs s) (w : ZW D A0 H0 (XWc cs ad td dr F A T) H locs) {i : Int32} (hi : gok i 8 = true) (hd : decode cc pc = .ok (.iaload, 1)) (kk : W p l e R s m args below meth c H locs cells slots Q (F0 m (pc + 1) ls (.int (A 30 i.toNatClampNeg) :: rest))) : W p l e R s m args below meth c H locs cells slots Q (F0 m pc ls (.int i :: .ref (ad 30) :: rest)) :=
  va_iald S.1 S.2.1 K.1 w.1 30 0 (n := 8) (f := A 30) rfl rfl (gok_in hi) hd kk
theorem sX_30 (S : CallFix p m c cc nL s args zWs own) (K : ZK D cs s) (w : ZW D A0 H0 (XWc cs ad td dr F A T) H locs) {i x : Int32} (hi : gok i 8 = true) (hd : decode cc pc = .ok (.iastore, 1)) (kk : ∀ (H1 : Heap) (locs1 : List Loc), ZW D A0 H0 (XWc cs ad td dr F (zst A 30 i.toNatClampNeg x) T) H1 locs1 → W p l e R s m args below meth c H1 locs1 cells slots Q (F0 m (pc + 1) ls rest)) : W p l e R s m args below meth c H locs cells slots Q (F0 m pc ls (.int x :: .int i :: .ref (ad 30) :: rest)) :=
  va_iast S.1 S.2.1 K.1 w.1 w.2.1 w.2.2 30 0 (n := 8) (f := A 30) rfl rfl (gok_in hi) hd (fun H1 locs1 h1 h2 h3 => kk H1 locs1 ⟨h1, h2, h3⟩)
theorem aX_31 (S : CallFix p m c cc nL s args zWs own) (K : ZK D cs s) (w : ZW D A0 H0 (XWc cs ad td dr F A T) H locs) {i : Int32} (hi : gok i 8 = true) (hd : decode cc pc = .ok (.iaload, 1)) (kk : W p l e R s m args below meth c H locs cells slots Q (F0 m (pc + 1) ls (.int (A 31 i.toNatClampNeg) :: rest))) : W p l e R s m args below meth c H locs cells slots Q (F0 m pc ls (.int i :: .ref (ad 31) :: rest)) :=
  va_iald S.1 S.2.1 K.1 w.1 31 0 (n := 8) (f := A 31) rfl rfl (gok_in hi) hd kk
theorem sX_31 (S : CallFix p m c cc nL s args zWs own) (K : ZK D cs s) (w : ZW D A0 H0 (XWc cs ad td dr F A T) H locs) {i x : Int32} (hi : gok i 8 = true) (hd : decode cc pc = .ok (.iastore, 1)) (kk : ∀ (H1 : Heap) (locs1 : List Loc), ZW D A0 H0 (XWc cs ad td dr F (zst A 31 i.toNatClampNeg x) T) H1 locs1 → W p l e R s m args below meth c H1 locs1 cells slots Q (F0 m (pc + 1) ls rest)) : W p l e R s m args below meth c H locs cells slots Q (F0 m pc ls (.int x :: .int i :: .ref (ad 31) :: rest)) :=
  va_iast S.1 S.2.1 K.1 w.1 w.2.1 w.2.2 31 0 (n := 8) (f := A 31) rfl rfl (gok_in hi) hd (fun H1 locs1 h1 h2 h3 => kk H1 locs1 ⟨h1, h2, h3⟩)
theorem aX_32 (S : CallFix p m c cc nL s args zWs own) (K : ZK D cs s) (w : ZW D A0 H0 (XWc cs ad td dr F A T) H locs) {i : Int32} (hi : gok i 48 = true) (hd : decode cc pc = .ok (.iaload, 1)) (kk : W p l e R s m args below meth c H locs cells slots Q (F0 m (pc + 1) ls (.int (A 32 i.toNatClampNeg) :: rest))) : W p l e R s m args below meth c H locs cells slots Q (F0 m pc ls (.int i :: .ref (ad 32) :: rest)) :=
  va_iald S.1 S.2.1 K.1 w.1 32 0 (n := 48) (f := A 32) rfl rfl (gok_in hi) hd kk
theorem sX_32 (S : CallFix p m c cc nL s args zWs own) (K : ZK D cs s) (w : ZW D A0 H0 (XWc cs ad td dr F A T) H locs) {i x : Int32} (hi : gok i 48 = true) (hd : decode cc pc = .ok (.iastore, 1)) (kk : ∀ (H1 : Heap) (locs1 : List Loc), ZW D A0 H0 (XWc cs ad td dr F (zst A 32 i.toNatClampNeg x) T) H1 locs1 → W p l e R s m args below meth c H1 locs1 cells slots Q (F0 m (pc + 1) ls rest)) : W p l e R s m args below meth c H locs cells slots Q (F0 m pc ls (.int x :: .int i :: .ref (ad 32) :: rest)) :=
  va_iast S.1 S.2.1 K.1 w.1 w.2.1 w.2.2 32 0 (n := 48) (f := A 32) rfl rfl (gok_in hi) hd (fun H1 locs1 h1 h2 h3 => kk H1 locs1 ⟨h1, h2, h3⟩)
theorem aX_33 (S : CallFix p m c cc nL s args zWs own) (K : ZK D cs s) (w : ZW D A0 H0 (XWc cs ad td dr F A T) H locs) {i : Int32} (hi : gok i 48 = true) (hd : decode cc pc = .ok (.iaload, 1)) (kk : W p l e R s m args below meth c H locs cells slots Q (F0 m (pc + 1) ls (.int (A 33 i.toNatClampNeg) :: rest))) : W p l e R s m args below meth c H locs cells slots Q (F0 m pc ls (.int i :: .ref (ad 33) :: rest)) :=
  va_iald S.1 S.2.1 K.1 w.1 33 0 (n := 48) (f := A 33) rfl rfl (gok_in hi) hd kk
theorem sX_33 (S : CallFix p m c cc nL s args zWs own) (K : ZK D cs s) (w : ZW D A0 H0 (XWc cs ad td dr F A T) H locs) {i x : Int32} (hi : gok i 48 = true) (hd : decode cc pc = .ok (.iastore, 1)) (kk : ∀ (H1 : Heap) (locs1 : List Loc), ZW D A0 H0 (XWc cs ad td dr F (zst A 33 i.toNatClampNeg x) T) H1 locs1 → W p l e R s m args below meth c H1 locs1 cells slots Q (F0 m (pc + 1) ls rest)) : W p l e R s m args below meth c H locs cells slots Q (F0 m pc ls (.int x :: .int i :: .ref (ad 33) :: rest)) :=
  va_iast S.1 S.2.1 K.1 w.1 w.2.1 w.2.2 33 0 (n := 48) (f := A 33) rfl rfl (gok_in hi) hd (fun H1 locs1 h1 h2 h3 => kk H1 locs1 ⟨h1, h2, h3⟩)
theorem aX_34 (S : CallFix p m c cc nL s args zWs own) (K : ZK D cs s) (w : ZW D A0 H0 (XWc cs ad td dr F A T) H locs) {i : Int32} (hi : gok i 8 = true) (hd : decode cc pc = .ok (.iaload, 1)) (kk : W p l e R s m args below meth c H locs cells slots Q (F0 m (pc + 1) ls (.int (A 34 i.toNatClampNeg) :: rest))) : W p l e R s m args below meth c H locs cells slots Q (F0 m pc ls (.int i :: .ref (ad 34) :: rest)) :=
  va_iald S.1 S.2.1 K.1 w.1 34 0 (n := 8) (f := A 34) rfl rfl (gok_in hi) hd kk
theorem sX_34 (S : CallFix p m c cc nL s args zWs own) (K : ZK D cs s) (w : ZW D A0 H0 (XWc cs ad td dr F A T) H locs) {i x : Int32} (hi : gok i 8 = true) (hd : decode cc pc = .ok (.iastore, 1)) (kk : ∀ (H1 : Heap) (locs1 : List Loc), ZW D A0 H0 (XWc cs ad td dr F (zst A 34 i.toNatClampNeg x) T) H1 locs1 → W p l e R s m args below meth c H1 locs1 cells slots Q (F0 m (pc + 1) ls rest)) : W p l e R s m args below meth c H locs cells slots Q (F0 m pc ls (.int x :: .int i :: .ref (ad 34) :: rest)) :=
  va_iast S.1 S.2.1 K.1 w.1 w.2.1 w.2.2 34 0 (n := 8) (f := A 34) rfl rfl (gok_in hi) hd (fun H1 locs1 h1 h2 h3 => kk H1 locs1 ⟨h1, h2, h3⟩)
theorem aX_35 (S : CallFix p m c cc nL s args zWs own) (K : ZK D cs s) (w : ZW D A0 H0 (XWc cs ad td dr F A T) H locs) {i : Int32} (hi : gok i 8 = true) (hd : decode cc pc = .ok (.iaload, 1)) (kk : W p l e R s m args below meth c H locs cells slots Q (F0 m (pc + 1) ls (.int (A 35 i.toNatClampNeg) :: rest))) : W p l e R s m args below meth c H locs cells slots Q (F0 m pc ls (.int i :: .ref (ad 35) :: rest)) :=
  va_iald S.1 S.2.1 K.1 w.1 35 0 (n := 8) (f := A 35) rfl rfl (gok_in hi) hd kk
theorem sX_35 (S : CallFix p m c cc nL s args zWs own) (K : ZK D cs s) (w : ZW D A0 H0 (XWc cs ad td dr F A T) H locs) {i x : Int32} (hi : gok i 8 = true) (hd : decode cc pc = .ok (.iastore, 1)) (kk : ∀ (H1 : Heap) (locs1 : List Loc), ZW D A0 H0 (XWc cs ad td dr F (zst A 35 i.toNatClampNeg x) T) H1 locs1 → W p l e R s m args below meth c H1 locs1 cells slots Q (F0 m (pc + 1) ls rest)) : W p l e R s m args below meth c H locs cells slots Q (F0 m pc ls (.int x :: .int i :: .ref (ad 35) :: rest)) :=
  va_iast S.1 S.2.1 K.1 w.1 w.2.1 w.2.2 35 0 (n := 8) (f := A 35) rfl rfl (gok_in hi) hd (fun H1 locs1 h1 h2 h3 => kk H1 locs1 ⟨h1, h2, h3⟩)
theorem aX_36 (S : CallFix p m c cc nL s args zWs own) (K : ZK D cs s) (w : ZW D A0 H0 (XWc cs ad td dr F A T) H locs) {i : Int32} (hi : gok i 8 = true) (hd : decode cc pc = .ok (.iaload, 1)) (kk : W p l e R s m args below meth c H locs cells slots Q (F0 m (pc + 1) ls (.int (A 36 i.toNatClampNeg) :: rest))) : W p l e R s m args below meth c H locs cells slots Q (F0 m pc ls (.int i :: .ref (ad 36) :: rest)) :=
  va_iald S.1 S.2.1 K.1 w.1 36 0 (n := 8) (f := A 36) rfl rfl (gok_in hi) hd kk
theorem sX_36 (S : CallFix p m c cc nL s args zWs own) (K : ZK D cs s) (w : ZW D A0 H0 (XWc cs ad td dr F A T) H locs) {i x : Int32} (hi : gok i 8 = true) (hd : decode cc pc = .ok (.iastore, 1)) (kk : ∀ (H1 : Heap) (locs1 : List Loc), ZW D A0 H0 (XWc cs ad td dr F (zst A 36 i.toNatClampNeg x) T) H1 locs1 → W p l e R s m args below meth c H1 locs1 cells slots Q (F0 m (pc + 1) ls rest)) : W p l e R s m args below meth c H locs cells slots Q (F0 m pc ls (.int x :: .int i :: .ref (ad 36) :: rest)) :=
  va_iast S.1 S.2.1 K.1 w.1 w.2.1 w.2.2 36 0 (n := 8) (f := A 36) rfl rfl (gok_in hi) hd (fun H1 locs1 h1 h2 h3 => kk H1 locs1 ⟨h1, h2, h3⟩)
theorem aX_37 (S : CallFix p m c cc nL s args zWs own) (K : ZK D cs s) (w : ZW D A0 H0 (XWc cs ad td dr F A T) H locs) {i : Int32} (hi : gok i 8 = true) (hd : decode cc pc = .ok (.iaload, 1)) (kk : W p l e R s m args below meth c H locs cells slots Q (F0 m (pc + 1) ls (.int (A 37 i.toNatClampNeg) :: rest))) : W p l e R s m args below meth c H locs cells slots Q (F0 m pc ls (.int i :: .ref (ad 37) :: rest)) :=
  va_iald S.1 S.2.1 K.1 w.1 37 0 (n := 8) (f := A 37) rfl rfl (gok_in hi) hd kk
theorem sX_37 (S : CallFix p m c cc nL s args zWs own) (K : ZK D cs s) (w : ZW D A0 H0 (XWc cs ad td dr F A T) H locs) {i x : Int32} (hi : gok i 8 = true) (hd : decode cc pc = .ok (.iastore, 1)) (kk : ∀ (H1 : Heap) (locs1 : List Loc), ZW D A0 H0 (XWc cs ad td dr F (zst A 37 i.toNatClampNeg x) T) H1 locs1 → W p l e R s m args below meth c H1 locs1 cells slots Q (F0 m (pc + 1) ls rest)) : W p l e R s m args below meth c H locs cells slots Q (F0 m pc ls (.int x :: .int i :: .ref (ad 37) :: rest)) :=
  va_iast S.1 S.2.1 K.1 w.1 w.2.1 w.2.2 37 0 (n := 8) (f := A 37) rfl rfl (gok_in hi) hd (fun H1 locs1 h1 h2 h3 => kk H1 locs1 ⟨h1, h2, h3⟩)
theorem aX_38 (S : CallFix p m c cc nL s args zWs own) (K : ZK D cs s) (w : ZW D A0 H0 (XWc cs ad td dr F A T) H locs) {i : Int32} (hi : gok i 6 = true) (hd : decode cc pc = .ok (.iaload, 1)) (kk : W p l e R s m args below meth c H locs cells slots Q (F0 m (pc + 1) ls (.int (A 38 i.toNatClampNeg) :: rest))) : W p l e R s m args below meth c H locs cells slots Q (F0 m pc ls (.int i :: .ref (ad 38) :: rest)) :=
  va_iald S.1 S.2.1 K.1 w.1 38 0 (n := 6) (f := A 38) rfl rfl (gok_in hi) hd kk
theorem sX_38 (S : CallFix p m c cc nL s args zWs own) (K : ZK D cs s) (w : ZW D A0 H0 (XWc cs ad td dr F A T) H locs) {i x : Int32} (hi : gok i 6 = true) (hd : decode cc pc = .ok (.iastore, 1)) (kk : ∀ (H1 : Heap) (locs1 : List Loc), ZW D A0 H0 (XWc cs ad td dr F (zst A 38 i.toNatClampNeg x) T) H1 locs1 → W p l e R s m args below meth c H1 locs1 cells slots Q (F0 m (pc + 1) ls rest)) : W p l e R s m args below meth c H locs cells slots Q (F0 m pc ls (.int x :: .int i :: .ref (ad 38) :: rest)) :=
  va_iast S.1 S.2.1 K.1 w.1 w.2.1 w.2.2 38 0 (n := 6) (f := A 38) rfl rfl (gok_in hi) hd (fun H1 locs1 h1 h2 h3 => kk H1 locs1 ⟨h1, h2, h3⟩)
theorem aX_39 (S : CallFix p m c cc nL s args zWs own) (K : ZK D cs s) (w : ZW D A0 H0 (XWc cs ad td dr F A T) H locs) {i : Int32} (hi : gok i 8 = true) (hd : decode cc pc = .ok (.iaload, 1)) (kk : W p l e R s m args below meth c H locs cells slots Q (F0 m (pc + 1) ls (.int (A 39 i.toNatClampNeg) :: rest))) : W p l e R s m args below meth c H locs cells slots Q (F0 m pc ls (.int i :: .ref (ad 39) :: rest)) :=
  va_iald S.1 S.2.1 K.1 w.1 39 0 (n := 8) (f := A 39) rfl rfl (gok_in hi) hd kk
theorem sX_39 (S : CallFix p m c cc nL s args zWs own) (K : ZK D cs s) (w : ZW D A0 H0 (XWc cs ad td dr F A T) H locs) {i x : Int32} (hi : gok i 8 = true) (hd : decode cc pc = .ok (.iastore, 1)) (kk : ∀ (H1 : Heap) (locs1 : List Loc), ZW D A0 H0 (XWc cs ad td dr F (zst A 39 i.toNatClampNeg x) T) H1 locs1 → W p l e R s m args below meth c H1 locs1 cells slots Q (F0 m (pc + 1) ls rest)) : W p l e R s m args below meth c H locs cells slots Q (F0 m pc ls (.int x :: .int i :: .ref (ad 39) :: rest)) :=
  va_iast S.1 S.2.1 K.1 w.1 w.2.1 w.2.2 39 0 (n := 8) (f := A 39) rfl rfl (gok_in hi) hd (fun H1 locs1 h1 h2 h3 => kk H1 locs1 ⟨h1, h2, h3⟩)
theorem aX_40 (S : CallFix p m c cc nL s args zWs own) (K : ZK D cs s) (w : ZW D A0 H0 (XWc cs ad td dr F A T) H locs) {i : Int32} (hi : gok i 8 = true) (hd : decode cc pc = .ok (.iaload, 1)) (kk : W p l e R s m args below meth c H locs cells slots Q (F0 m (pc + 1) ls (.int (A 40 i.toNatClampNeg) :: rest))) : W p l e R s m args below meth c H locs cells slots Q (F0 m pc ls (.int i :: .ref (ad 40) :: rest)) :=
  va_iald S.1 S.2.1 K.1 w.1 40 0 (n := 8) (f := A 40) rfl rfl (gok_in hi) hd kk
theorem sX_40 (S : CallFix p m c cc nL s args zWs own) (K : ZK D cs s) (w : ZW D A0 H0 (XWc cs ad td dr F A T) H locs) {i x : Int32} (hi : gok i 8 = true) (hd : decode cc pc = .ok (.iastore, 1)) (kk : ∀ (H1 : Heap) (locs1 : List Loc), ZW D A0 H0 (XWc cs ad td dr F (zst A 40 i.toNatClampNeg x) T) H1 locs1 → W p l e R s m args below meth c H1 locs1 cells slots Q (F0 m (pc + 1) ls rest)) : W p l e R s m args below meth c H locs cells slots Q (F0 m pc ls (.int x :: .int i :: .ref (ad 40) :: rest)) :=
  va_iast S.1 S.2.1 K.1 w.1 w.2.1 w.2.2 40 0 (n := 8) (f := A 40) rfl rfl (gok_in hi) hd (fun H1 locs1 h1 h2 h3 => kk H1 locs1 ⟨h1, h2, h3⟩)
theorem aX_41 (S : CallFix p m c cc nL s args zWs own) (K : ZK D cs s) (w : ZW D A0 H0 (XWc cs ad td dr F A T) H locs) {i : Int32} (hi : gok i 48 = true) (hd : decode cc pc = .ok (.iaload, 1)) (kk : W p l e R s m args below meth c H locs cells slots Q (F0 m (pc + 1) ls (.int (A 41 i.toNatClampNeg) :: rest))) : W p l e R s m args below meth c H locs cells slots Q (F0 m pc ls (.int i :: .ref (ad 41) :: rest)) :=
  va_iald S.1 S.2.1 K.1 w.1 41 0 (n := 48) (f := A 41) rfl rfl (gok_in hi) hd kk
theorem sX_41 (S : CallFix p m c cc nL s args zWs own) (K : ZK D cs s) (w : ZW D A0 H0 (XWc cs ad td dr F A T) H locs) {i x : Int32} (hi : gok i 48 = true) (hd : decode cc pc = .ok (.iastore, 1)) (kk : ∀ (H1 : Heap) (locs1 : List Loc), ZW D A0 H0 (XWc cs ad td dr F (zst A 41 i.toNatClampNeg x) T) H1 locs1 → W p l e R s m args below meth c H1 locs1 cells slots Q (F0 m (pc + 1) ls rest)) : W p l e R s m args below meth c H locs cells slots Q (F0 m pc ls (.int x :: .int i :: .ref (ad 41) :: rest)) :=
  va_iast S.1 S.2.1 K.1 w.1 w.2.1 w.2.2 41 0 (n := 48) (f := A 41) rfl rfl (gok_in hi) hd (fun H1 locs1 h1 h2 h3 => kk H1 locs1 ⟨h1, h2, h3⟩)
theorem aX_42 (S : CallFix p m c cc nL s args zWs own) (K : ZK D cs s) (w : ZW D A0 H0 (XWc cs ad td dr F A T) H locs) {i : Int32} (hi : gok i 48 = true) (hd : decode cc pc = .ok (.iaload, 1)) (kk : W p l e R s m args below meth c H locs cells slots Q (F0 m (pc + 1) ls (.int (A 42 i.toNatClampNeg) :: rest))) : W p l e R s m args below meth c H locs cells slots Q (F0 m pc ls (.int i :: .ref (ad 42) :: rest)) :=
  va_iald S.1 S.2.1 K.1 w.1 42 0 (n := 48) (f := A 42) rfl rfl (gok_in hi) hd kk
theorem sX_42 (S : CallFix p m c cc nL s args zWs own) (K : ZK D cs s) (w : ZW D A0 H0 (XWc cs ad td dr F A T) H locs) {i x : Int32} (hi : gok i 48 = true) (hd : decode cc pc = .ok (.iastore, 1)) (kk : ∀ (H1 : Heap) (locs1 : List Loc), ZW D A0 H0 (XWc cs ad td dr F (zst A 42 i.toNatClampNeg x) T) H1 locs1 → W p l e R s m args below meth c H1 locs1 cells slots Q (F0 m (pc + 1) ls rest)) : W p l e R s m args below meth c H locs cells slots Q (F0 m pc ls (.int x :: .int i :: .ref (ad 42) :: rest)) :=
  va_iast S.1 S.2.1 K.1 w.1 w.2.1 w.2.2 42 0 (n := 48) (f := A 42) rfl rfl (gok_in hi) hd (fun H1 locs1 h1 h2 h3 => kk H1 locs1 ⟨h1, h2, h3⟩)
theorem aX_43 (S : CallFix p m c cc nL s args zWs own) (K : ZK D cs s) (w : ZW D A0 H0 (XWc cs ad td dr F A T) H locs) {i : Int32} (hi : gok i 8 = true) (hd : decode cc pc = .ok (.iaload, 1)) (kk : W p l e R s m args below meth c H locs cells slots Q (F0 m (pc + 1) ls (.int (A 43 i.toNatClampNeg) :: rest))) : W p l e R s m args below meth c H locs cells slots Q (F0 m pc ls (.int i :: .ref (ad 43) :: rest)) :=
  va_iald S.1 S.2.1 K.1 w.1 43 0 (n := 8) (f := A 43) rfl rfl (gok_in hi) hd kk
theorem sX_43 (S : CallFix p m c cc nL s args zWs own) (K : ZK D cs s) (w : ZW D A0 H0 (XWc cs ad td dr F A T) H locs) {i x : Int32} (hi : gok i 8 = true) (hd : decode cc pc = .ok (.iastore, 1)) (kk : ∀ (H1 : Heap) (locs1 : List Loc), ZW D A0 H0 (XWc cs ad td dr F (zst A 43 i.toNatClampNeg x) T) H1 locs1 → W p l e R s m args below meth c H1 locs1 cells slots Q (F0 m (pc + 1) ls rest)) : W p l e R s m args below meth c H locs cells slots Q (F0 m pc ls (.int x :: .int i :: .ref (ad 43) :: rest)) :=
  va_iast S.1 S.2.1 K.1 w.1 w.2.1 w.2.2 43 0 (n := 8) (f := A 43) rfl rfl (gok_in hi) hd (fun H1 locs1 h1 h2 h3 => kk H1 locs1 ⟨h1, h2, h3⟩)
theorem aX_44 (S : CallFix p m c cc nL s args zWs own) (K : ZK D cs s) (w : ZW D A0 H0 (XWc cs ad td dr F A T) H locs) {i : Int32} (hi : gok i 8 = true) (hd : decode cc pc = .ok (.iaload, 1)) (kk : W p l e R s m args below meth c H locs cells slots Q (F0 m (pc + 1) ls (.int (A 44 i.toNatClampNeg) :: rest))) : W p l e R s m args below meth c H locs cells slots Q (F0 m pc ls (.int i :: .ref (ad 44) :: rest)) :=
  va_iald S.1 S.2.1 K.1 w.1 44 0 (n := 8) (f := A 44) rfl rfl (gok_in hi) hd kk
theorem sX_44 (S : CallFix p m c cc nL s args zWs own) (K : ZK D cs s) (w : ZW D A0 H0 (XWc cs ad td dr F A T) H locs) {i x : Int32} (hi : gok i 8 = true) (hd : decode cc pc = .ok (.iastore, 1)) (kk : ∀ (H1 : Heap) (locs1 : List Loc), ZW D A0 H0 (XWc cs ad td dr F (zst A 44 i.toNatClampNeg x) T) H1 locs1 → W p l e R s m args below meth c H1 locs1 cells slots Q (F0 m (pc + 1) ls rest)) : W p l e R s m args below meth c H locs cells slots Q (F0 m pc ls (.int x :: .int i :: .ref (ad 44) :: rest)) :=
  va_iast S.1 S.2.1 K.1 w.1 w.2.1 w.2.2 44 0 (n := 8) (f := A 44) rfl rfl (gok_in hi) hd (fun H1 locs1 h1 h2 h3 => kk H1 locs1 ⟨h1, h2, h3⟩)
theorem aX_45 (S : CallFix p m c cc nL s args zWs own) (K : ZK D cs s) (w : ZW D A0 H0 (XWc cs ad td dr F A T) H locs) {i : Int32} (hi : gok i 8 = true) (hd : decode cc pc = .ok (.iaload, 1)) (kk : W p l e R s m args below meth c H locs cells slots Q (F0 m (pc + 1) ls (.int (A 45 i.toNatClampNeg) :: rest))) : W p l e R s m args below meth c H locs cells slots Q (F0 m pc ls (.int i :: .ref (ad 45) :: rest)) :=
  va_iald S.1 S.2.1 K.1 w.1 45 0 (n := 8) (f := A 45) rfl rfl (gok_in hi) hd kk
theorem sX_45 (S : CallFix p m c cc nL s args zWs own) (K : ZK D cs s) (w : ZW D A0 H0 (XWc cs ad td dr F A T) H locs) {i x : Int32} (hi : gok i 8 = true) (hd : decode cc pc = .ok (.iastore, 1)) (kk : ∀ (H1 : Heap) (locs1 : List Loc), ZW D A0 H0 (XWc cs ad td dr F (zst A 45 i.toNatClampNeg x) T) H1 locs1 → W p l e R s m args below meth c H1 locs1 cells slots Q (F0 m (pc + 1) ls rest)) : W p l e R s m args below meth c H locs cells slots Q (F0 m pc ls (.int x :: .int i :: .ref (ad 45) :: rest)) :=
  va_iast S.1 S.2.1 K.1 w.1 w.2.1 w.2.2 45 0 (n := 8) (f := A 45) rfl rfl (gok_in hi) hd (fun H1 locs1 h1 h2 h3 => kk H1 locs1 ⟨h1, h2, h3⟩)
theorem aX_46 (S : CallFix p m c cc nL s args zWs own) (K : ZK D cs s) (w : ZW D A0 H0 (XWc cs ad td dr F A T) H locs) {i : Int32} (hi : gok i 8 = true) (hd : decode cc pc = .ok (.iaload, 1)) (kk : W p l e R s m args below meth c H locs cells slots Q (F0 m (pc + 1) ls (.int (A 46 i.toNatClampNeg) :: rest))) : W p l e R s m args below meth c H locs cells slots Q (F0 m pc ls (.int i :: .ref (ad 46) :: rest)) :=
  va_iald S.1 S.2.1 K.1 w.1 46 0 (n := 8) (f := A 46) rfl rfl (gok_in hi) hd kk
theorem sX_46 (S : CallFix p m c cc nL s args zWs own) (K : ZK D cs s) (w : ZW D A0 H0 (XWc cs ad td dr F A T) H locs) {i x : Int32} (hi : gok i 8 = true) (hd : decode cc pc = .ok (.iastore, 1)) (kk : ∀ (H1 : Heap) (locs1 : List Loc), ZW D A0 H0 (XWc cs ad td dr F (zst A 46 i.toNatClampNeg x) T) H1 locs1 → W p l e R s m args below meth c H1 locs1 cells slots Q (F0 m (pc + 1) ls rest)) : W p l e R s m args below meth c H locs cells slots Q (F0 m pc ls (.int x :: .int i :: .ref (ad 46) :: rest)) :=
  va_iast S.1 S.2.1 K.1 w.1 w.2.1 w.2.2 46 0 (n := 8) (f := A 46) rfl rfl (gok_in hi) hd (fun H1 locs1 h1 h2 h3 => kk H1 locs1 ⟨h1, h2, h3⟩)
theorem gM_0_0 (S : CallFix p m c cc nL s args zWs own) (K : ZK D cs s) (w : ZW D A0 H0 (MW cs ad F A T) H locs) (hl : Cond.fieldLink own index "FifthsOfGuiltModel" "trace" "J" ∈ zWs) (hd : decode cc pc = .ok (.getfield index, 3)) (kk : W p l e R s m args below meth c H locs cells slots Q (F0 m (pc + 3) ls (.long T :: rest))) : W p l e R s m args below meth c H locs cells slots Q (F0 m pc ls (.ref (ad 0) :: rest)) :=
  z_get (C := RX11) (T := TX11) (N := 32) (ci := 11) S K w inZ11 0 rfl rfl 0 (by decide) hl rfl rfl hd kk
theorem pM_0_0 (S : CallFix p m c cc nL s args zWs own) (K : ZK D cs s) (w : ZW D A0 H0 (MW cs ad F A T) H locs) {v : Int64} (hl : Cond.fieldLink own index "FifthsOfGuiltModel" "trace" "J" ∈ zWs) (hd : decode cc pc = .ok (.putfield index, 3)) (kk : ∀ (H1 : Heap) (locs1 : List Loc), ZW D A0 H0 (MW cs ad F A v) H1 locs1 → W p l e R s m args below meth c H1 locs1 cells slots Q (F0 m (pc + 3) ls rest)) : W p l e R s m args below meth c H locs cells slots Q (F0 m pc ls (.long v :: .ref (ad 0) :: rest)) :=
  z_put (C := RX11) (T := TX11) (N := 32) (ci := 11) (ty := .long) S K w inZ11 tyX11 tyX11_ok nmX11 0 rfl rfl 0 (by decide) hl rfl rfl rfl rfl rfl (Nat.le_of_ble_eq_true rfl) rfl hd kk
theorem gM_0_1 (S : CallFix p m c cc nL s args zWs own) (K : ZK D cs s) (w : ZW D A0 H0 (MW cs ad F A T) H locs) (hl : Cond.fieldLink own index "FifthsOfGuiltModel" "text" "[B" ∈ zWs) (hd : decode cc pc = .ok (.getfield index, 3)) (kk : W p l e R s m args below meth c H locs cells slots Q (F0 m (pc + 3) ls (.ref (ad 1) :: rest))) : W p l e R s m args below meth c H locs cells slots Q (F0 m pc ls (.ref (ad 0) :: rest)) :=
  z_get (C := RX11) (T := TX11) (N := 32) (ci := 11) S K w inZ11 0 rfl rfl 1 (by decide) hl rfl rfl hd kk
theorem gM_0_2 (S : CallFix p m c cc nL s args zWs own) (K : ZK D cs s) (w : ZW D A0 H0 (MW cs ad F A T) H locs) (hl : Cond.fieldLink own index "FifthsOfGuiltModel" "typed" "I" ∈ zWs) (hd : decode cc pc = .ok (.getfield index, 3)) (kk : W p l e R s m args below meth c H locs cells slots Q (F0 m (pc + 3) ls (.int (F 0) :: rest))) : W p l e R s m args below meth c H locs cells slots Q (F0 m pc ls (.ref (ad 0) :: rest)) :=
  z_get (C := RX11) (T := TX11) (N := 32) (ci := 11) S K w inZ11 0 rfl rfl 2 (by decide) hl rfl rfl hd kk
theorem pM_0_2 (S : CallFix p m c cc nL s args zWs own) (K : ZK D cs s) (w : ZW D A0 H0 (MW cs ad F A T) H locs) {v : Int32} (hl : Cond.fieldLink own index "FifthsOfGuiltModel" "typed" "I" ∈ zWs) (hd : decode cc pc = .ok (.putfield index, 3)) (kk : ∀ (H1 : Heap) (locs1 : List Loc), ZW D A0 H0 (MW cs ad (upd F 0 v) A T) H1 locs1 → W p l e R s m args below meth c H1 locs1 cells slots Q (F0 m (pc + 3) ls rest)) : W p l e R s m args below meth c H locs cells slots Q (F0 m pc ls (.int v :: .ref (ad 0) :: rest)) :=
  z_put (C := RX11) (T := TX11) (N := 32) (ci := 11) (ty := .int) S K w inZ11 tyX11 tyX11_ok nmX11 0 rfl rfl 2 (by decide) hl rfl rfl rfl rfl rfl (Nat.le_of_ble_eq_true rfl) rfl hd kk
theorem gM_0_3 (S : CallFix p m c cc nL s args zWs own) (K : ZK D cs s) (w : ZW D A0 H0 (MW cs ad F A T) H locs) (hl : Cond.fieldLink own index "FifthsOfGuiltModel" "suspects" "[I" ∈ zWs) (hd : decode cc pc = .ok (.getfield index, 3)) (kk : W p l e R s m args below meth c H locs cells slots Q (F0 m (pc + 3) ls (.ref (ad 2) :: rest))) : W p l e R s m args below meth c H locs cells slots Q (F0 m pc ls (.ref (ad 0) :: rest)) :=
  z_get (C := RX11) (T := TX11) (N := 32) (ci := 11) S K w inZ11 0 rfl rfl 3 (by decide) hl rfl rfl hd kk
theorem gM_0_4 (S : CallFix p m c cc nL s args zWs own) (K : ZK D cs s) (w : ZW D A0 H0 (MW cs ad F A T) H locs) (hl : Cond.fieldLink own index "FifthsOfGuiltModel" "grudge" "[I" ∈ zWs) (hd : decode cc pc = .ok (.getfield index, 3)) (kk : W p l e R s m args below meth c H locs cells slots Q (F0 m (pc + 3) ls (.ref (ad 3) :: rest))) : W p l e R s m args below meth c H locs cells slots Q (F0 m pc ls (.ref (ad 0) :: rest)) :=
  z_get (C := RX11) (T := TX11) (N := 32) (ci := 11) S K w inZ11 0 rfl rfl 4 (by decide) hl rfl rfl hd kk
theorem gM_0_5 (S : CallFix p m c cc nL s args zWs own) (K : ZK D cs s) (w : ZW D A0 H0 (MW cs ad F A T) H locs) (hl : Cond.fieldLink own index "FifthsOfGuiltModel" "facts" "[I" ∈ zWs) (hd : decode cc pc = .ok (.getfield index, 3)) (kk : W p l e R s m args below meth c H locs cells slots Q (F0 m (pc + 3) ls (.ref (ad 4) :: rest))) : W p l e R s m args below meth c H locs cells slots Q (F0 m pc ls (.ref (ad 0) :: rest)) :=
  z_get (C := RX11) (T := TX11) (N := 32) (ci := 11) S K w inZ11 0 rfl rfl 5 (by decide) hl rfl rfl hd kk
theorem gM_0_6 (S : CallFix p m c cc nL s args zWs own) (K : ZK D cs s) (w : ZW D A0 H0 (MW cs ad F A T) H locs) (hl : Cond.fieldLink own index "FifthsOfGuiltModel" "cost" "[I" ∈ zWs) (hd : decode cc pc = .ok (.getfield index, 3)) (kk : W p l e R s m args below meth c H locs cells slots Q (F0 m (pc + 3) ls (.ref (ad 5) :: rest))) : W p l e R s m args below meth c H locs cells slots Q (F0 m pc ls (.ref (ad 0) :: rest)) :=
  z_get (C := RX11) (T := TX11) (N := 32) (ci := 11) S K w inZ11 0 rfl rfl 6 (by decide) hl rfl rfl hd kk
theorem gM_0_7 (S : CallFix p m c cc nL s args zWs own) (K : ZK D cs s) (w : ZW D A0 H0 (MW cs ad F A T) H locs) (hl : Cond.fieldLink own index "FifthsOfGuiltModel" "trust" "[I" ∈ zWs) (hd : decode cc pc = .ok (.getfield index, 3)) (kk : W p l e R s m args below meth c H locs cells slots Q (F0 m (pc + 3) ls (.ref (ad 6) :: rest))) : W p l e R s m args below meth c H locs cells slots Q (F0 m pc ls (.ref (ad 0) :: rest)) :=
  z_get (C := RX11) (T := TX11) (N := 32) (ci := 11) S K w inZ11 0 rfl rfl 7 (by decide) hl rfl rfl hd kk
theorem gM_0_8 (S : CallFix p m c cc nL s args zWs own) (K : ZK D cs s) (w : ZW D A0 H0 (MW cs ad F A T) H locs) (hl : Cond.fieldLink own index "FifthsOfGuiltModel" "moves" "[I" ∈ zWs) (hd : decode cc pc = .ok (.getfield index, 3)) (kk : W p l e R s m args below meth c H locs cells slots Q (F0 m (pc + 3) ls (.ref (ad 7) :: rest))) : W p l e R s m args below meth c H locs cells slots Q (F0 m pc ls (.ref (ad 0) :: rest)) :=
  z_get (C := RX11) (T := TX11) (N := 32) (ci := 11) S K w inZ11 0 rfl rfl 8 (by decide) hl rfl rfl hd kk
theorem gM_0_9 (S : CallFix p m c cc nL s args zWs own) (K : ZK D cs s) (w : ZW D A0 H0 (MW cs ad F A T) H locs) (hl : Cond.fieldLink own index "FifthsOfGuiltModel" "alibis" "[I" ∈ zWs) (hd : decode cc pc = .ok (.getfield index, 3)) (kk : W p l e R s m args below meth c H locs cells slots Q (F0 m (pc + 3) ls (.ref (ad 8) :: rest))) : W p l e R s m args below meth c H locs cells slots Q (F0 m pc ls (.ref (ad 0) :: rest)) :=
  z_get (C := RX11) (T := TX11) (N := 32) (ci := 11) S K w inZ11 0 rfl rfl 9 (by decide) hl rfl rfl hd kk
theorem gM_0_10 (S : CallFix p m c cc nL s args zWs own) (K : ZK D cs s) (w : ZW D A0 H0 (MW cs ad F A T) H locs) (hl : Cond.fieldLink own index "FifthsOfGuiltModel" "whose" "[I" ∈ zWs) (hd : decode cc pc = .ok (.getfield index, 3)) (kk : W p l e R s m args below meth c H locs cells slots Q (F0 m (pc + 3) ls (.ref (ad 9) :: rest))) : W p l e R s m args below meth c H locs cells slots Q (F0 m pc ls (.ref (ad 0) :: rest)) :=
  z_get (C := RX11) (T := TX11) (N := 32) (ci := 11) S K w inZ11 0 rfl rfl 10 (by decide) hl rfl rfl hd kk
theorem gM_0_11 (S : CallFix p m c cc nL s args zWs own) (K : ZK D cs s) (w : ZW D A0 H0 (MW cs ad F A T) H locs) (hl : Cond.fieldLink own index "FifthsOfGuiltModel" "where" "[I" ∈ zWs) (hd : decode cc pc = .ok (.getfield index, 3)) (kk : W p l e R s m args below meth c H locs cells slots Q (F0 m (pc + 3) ls (.ref (ad 10) :: rest))) : W p l e R s m args below meth c H locs cells slots Q (F0 m pc ls (.ref (ad 0) :: rest)) :=
  z_get (C := RX11) (T := TX11) (N := 32) (ci := 11) S K w inZ11 0 rfl rfl 11 (by decide) hl rfl rfl hd kk
theorem gM_0_12 (S : CallFix p m c cc nL s args zWs own) (K : ZK D cs s) (w : ZW D A0 H0 (MW cs ad F A T) H locs) (hl : Cond.fieldLink own index "FifthsOfGuiltModel" "from" "[I" ∈ zWs) (hd : decode cc pc = .ok (.getfield index, 3)) (kk : W p l e R s m args below meth c H locs cells slots Q (F0 m (pc + 3) ls (.ref (ad 11) :: rest))) : W p l e R s m args below meth c H locs cells slots Q (F0 m pc ls (.ref (ad 0) :: rest)) :=
  z_get (C := RX11) (T := TX11) (N := 32) (ci := 11) S K w inZ11 0 rfl rfl 12 (by decide) hl rfl rfl hd kk
theorem gM_0_13 (S : CallFix p m c cc nL s args zWs own) (K : ZK D cs s) (w : ZW D A0 H0 (MW cs ad F A T) H locs) (hl : Cond.fieldLink own index "FifthsOfGuiltModel" "to" "[I" ∈ zWs) (hd : decode cc pc = .ok (.getfield index, 3)) (kk : W p l e R s m args below meth c H locs cells slots Q (F0 m (pc + 3) ls (.ref (ad 12) :: rest))) : W p l e R s m args below meth c H locs cells slots Q (F0 m pc ls (.ref (ad 0) :: rest)) :=
  z_get (C := RX11) (T := TX11) (N := 32) (ci := 11) S K w inZ11 0 rfl rfl 13 (by decide) hl rfl rfl hd kk
theorem gM_0_14 (S : CallFix p m c cc nL s args zWs own) (K : ZK D cs s) (w : ZW D A0 H0 (MW cs ad F A T) H locs) (hl : Cond.fieldLink own index "FifthsOfGuiltModel" "deedFrom" "[I" ∈ zWs) (hd : decode cc pc = .ok (.getfield index, 3)) (kk : W p l e R s m args below meth c H locs cells slots Q (F0 m (pc + 3) ls (.ref (ad 13) :: rest))) : W p l e R s m args below meth c H locs cells slots Q (F0 m pc ls (.ref (ad 0) :: rest)) :=
  z_get (C := RX11) (T := TX11) (N := 32) (ci := 11) S K w inZ11 0 rfl rfl 14 (by decide) hl rfl rfl hd kk
theorem gM_0_15 (S : CallFix p m c cc nL s args zWs own) (K : ZK D cs s) (w : ZW D A0 H0 (MW cs ad F A T) H locs) (hl : Cond.fieldLink own index "FifthsOfGuiltModel" "deedTo" "[I" ∈ zWs) (hd : decode cc pc = .ok (.getfield index, 3)) (kk : W p l e R s m args below meth c H locs cells slots Q (F0 m (pc + 3) ls (.ref (ad 14) :: rest))) : W p l e R s m args below meth c H locs cells slots Q (F0 m pc ls (.ref (ad 0) :: rest)) :=
  z_get (C := RX11) (T := TX11) (N := 32) (ci := 11) S K w inZ11 0 rfl rfl 15 (by decide) hl rfl rfl hd kk
theorem gM_0_16 (S : CallFix p m c cc nL s args zWs own) (K : ZK D cs s) (w : ZW D A0 H0 (MW cs ad F A T) H locs) (hl : Cond.fieldLink own index "FifthsOfGuiltModel" "at" "I" ∈ zWs) (hd : decode cc pc = .ok (.getfield index, 3)) (kk : W p l e R s m args below meth c H locs cells slots Q (F0 m (pc + 3) ls (.int (F 1) :: rest))) : W p l e R s m args below meth c H locs cells slots Q (F0 m pc ls (.ref (ad 0) :: rest)) :=
  z_get (C := RX11) (T := TX11) (N := 32) (ci := 11) S K w inZ11 0 rfl rfl 16 (by decide) hl rfl rfl hd kk
theorem pM_0_16 (S : CallFix p m c cc nL s args zWs own) (K : ZK D cs s) (w : ZW D A0 H0 (MW cs ad F A T) H locs) {v : Int32} (hl : Cond.fieldLink own index "FifthsOfGuiltModel" "at" "I" ∈ zWs) (hd : decode cc pc = .ok (.putfield index, 3)) (kk : ∀ (H1 : Heap) (locs1 : List Loc), ZW D A0 H0 (MW cs ad (upd F 1 v) A T) H1 locs1 → W p l e R s m args below meth c H1 locs1 cells slots Q (F0 m (pc + 3) ls rest)) : W p l e R s m args below meth c H locs cells slots Q (F0 m pc ls (.int v :: .ref (ad 0) :: rest)) :=
  z_put (C := RX11) (T := TX11) (N := 32) (ci := 11) (ty := .int) S K w inZ11 tyX11 tyX11_ok nmX11 0 rfl rfl 16 (by decide) hl rfl rfl rfl rfl rfl (Nat.le_of_ble_eq_true rfl) rfl hd kk
theorem gM_0_17 (S : CallFix p m c cc nL s args zWs own) (K : ZK D cs s) (w : ZW D A0 H0 (MW cs ad F A T) H locs) (hl : Cond.fieldLink own index "FifthsOfGuiltModel" "start" "I" ∈ zWs) (hd : decode cc pc = .ok (.getfield index, 3)) (kk : W p l e R s m args below meth c H locs cells slots Q (F0 m (pc + 3) ls (.int (F 2) :: rest))) : W p l e R s m args below meth c H locs cells slots Q (F0 m pc ls (.ref (ad 0) :: rest)) :=
  z_get (C := RX11) (T := TX11) (N := 32) (ci := 11) S K w inZ11 0 rfl rfl 17 (by decide) hl rfl rfl hd kk
theorem pM_0_17 (S : CallFix p m c cc nL s args zWs own) (K : ZK D cs s) (w : ZW D A0 H0 (MW cs ad F A T) H locs) {v : Int32} (hl : Cond.fieldLink own index "FifthsOfGuiltModel" "start" "I" ∈ zWs) (hd : decode cc pc = .ok (.putfield index, 3)) (kk : ∀ (H1 : Heap) (locs1 : List Loc), ZW D A0 H0 (MW cs ad (upd F 2 v) A T) H1 locs1 → W p l e R s m args below meth c H1 locs1 cells slots Q (F0 m (pc + 3) ls rest)) : W p l e R s m args below meth c H locs cells slots Q (F0 m pc ls (.int v :: .ref (ad 0) :: rest)) :=
  z_put (C := RX11) (T := TX11) (N := 32) (ci := 11) (ty := .int) S K w inZ11 tyX11 tyX11_ok nmX11 0 rfl rfl 17 (by decide) hl rfl rfl rfl rfl rfl (Nat.le_of_ble_eq_true rfl) rfl hd kk
theorem gM_0_18 (S : CallFix p m c cc nL s args zWs own) (K : ZK D cs s) (w : ZW D A0 H0 (MW cs ad F A T) H locs) (hl : Cond.fieldLink own index "FifthsOfGuiltModel" "sort" "I" ∈ zWs) (hd : decode cc pc = .ok (.getfield index, 3)) (kk : W p l e R s m args below meth c H locs cells slots Q (F0 m (pc + 3) ls (.int (F 3) :: rest))) : W p l e R s m args below meth c H locs cells slots Q (F0 m pc ls (.ref (ad 0) :: rest)) :=
  z_get (C := RX11) (T := TX11) (N := 32) (ci := 11) S K w inZ11 0 rfl rfl 18 (by decide) hl rfl rfl hd kk
theorem pM_0_18 (S : CallFix p m c cc nL s args zWs own) (K : ZK D cs s) (w : ZW D A0 H0 (MW cs ad F A T) H locs) {v : Int32} (hl : Cond.fieldLink own index "FifthsOfGuiltModel" "sort" "I" ∈ zWs) (hd : decode cc pc = .ok (.putfield index, 3)) (kk : ∀ (H1 : Heap) (locs1 : List Loc), ZW D A0 H0 (MW cs ad (upd F 3 v) A T) H1 locs1 → W p l e R s m args below meth c H1 locs1 cells slots Q (F0 m (pc + 3) ls rest)) : W p l e R s m args below meth c H locs cells slots Q (F0 m pc ls (.int v :: .ref (ad 0) :: rest)) :=
  z_put (C := RX11) (T := TX11) (N := 32) (ci := 11) (ty := .int) S K w inZ11 tyX11 tyX11_ok nmX11 0 rfl rfl 18 (by decide) hl rfl rfl rfl rfl rfl (Nat.le_of_ble_eq_true rfl) rfl hd kk
theorem gM_0_19 (S : CallFix p m c cc nL s args zWs own) (K : ZK D cs s) (w : ZW D A0 H0 (MW cs ad F A T) H locs) (hl : Cond.fieldLink own index "FifthsOfGuiltModel" "value" "I" ∈ zWs) (hd : decode cc pc = .ok (.getfield index, 3)) (kk : W p l e R s m args below meth c H locs cells slots Q (F0 m (pc + 3) ls (.int (F 4) :: rest))) : W p l e R s m args below meth c H locs cells slots Q (F0 m pc ls (.ref (ad 0) :: rest)) :=
  z_get (C := RX11) (T := TX11) (N := 32) (ci := 11) S K w inZ11 0 rfl rfl 19 (by decide) hl rfl rfl hd kk
theorem pM_0_19 (S : CallFix p m c cc nL s args zWs own) (K : ZK D cs s) (w : ZW D A0 H0 (MW cs ad F A T) H locs) {v : Int32} (hl : Cond.fieldLink own index "FifthsOfGuiltModel" "value" "I" ∈ zWs) (hd : decode cc pc = .ok (.putfield index, 3)) (kk : ∀ (H1 : Heap) (locs1 : List Loc), ZW D A0 H0 (MW cs ad (upd F 4 v) A T) H1 locs1 → W p l e R s m args below meth c H1 locs1 cells slots Q (F0 m (pc + 3) ls rest)) : W p l e R s m args below meth c H locs cells slots Q (F0 m pc ls (.int v :: .ref (ad 0) :: rest)) :=
  z_put (C := RX11) (T := TX11) (N := 32) (ci := 11) (ty := .int) S K w inZ11 tyX11 tyX11_ok nmX11 0 rfl rfl 19 (by decide) hl rfl rfl rfl rfl rfl (Nat.le_of_ble_eq_true rfl) rfl hd kk
theorem gM_0_20 (S : CallFix p m c cc nL s args zWs own) (K : ZK D cs s) (w : ZW D A0 H0 (MW cs ad F A T) H locs) (hl : Cond.fieldLink own index "FifthsOfGuiltModel" "fault" "I" ∈ zWs) (hd : decode cc pc = .ok (.getfield index, 3)) (kk : W p l e R s m args below meth c H locs cells slots Q (F0 m (pc + 3) ls (.int (F 5) :: rest))) : W p l e R s m args below meth c H locs cells slots Q (F0 m pc ls (.ref (ad 0) :: rest)) :=
  z_get (C := RX11) (T := TX11) (N := 32) (ci := 11) S K w inZ11 0 rfl rfl 20 (by decide) hl rfl rfl hd kk
theorem pM_0_20 (S : CallFix p m c cc nL s args zWs own) (K : ZK D cs s) (w : ZW D A0 H0 (MW cs ad F A T) H locs) {v : Int32} (hl : Cond.fieldLink own index "FifthsOfGuiltModel" "fault" "I" ∈ zWs) (hd : decode cc pc = .ok (.putfield index, 3)) (kk : ∀ (H1 : Heap) (locs1 : List Loc), ZW D A0 H0 (MW cs ad (upd F 5 v) A T) H1 locs1 → W p l e R s m args below meth c H1 locs1 cells slots Q (F0 m (pc + 3) ls rest)) : W p l e R s m args below meth c H locs cells slots Q (F0 m pc ls (.int v :: .ref (ad 0) :: rest)) :=
  z_put (C := RX11) (T := TX11) (N := 32) (ci := 11) (ty := .int) S K w inZ11 tyX11 tyX11_ok nmX11 0 rfl rfl 20 (by decide) hl rfl rfl rfl rfl rfl (Nat.le_of_ble_eq_true rfl) rfl hd kk
theorem gM_0_21 (S : CallFix p m c cc nL s args zWs own) (K : ZK D cs s) (w : ZW D A0 H0 (MW cs ad F A T) H locs) (hl : Cond.fieldLink own index "FifthsOfGuiltModel" "hasDeed" "Z" ∈ zWs) (hd : decode cc pc = .ok (.getfield index, 3)) (kk : W p l e R s m args below meth c H locs cells slots Q (F0 m (pc + 3) ls (.int (F 6) :: rest))) : W p l e R s m args below meth c H locs cells slots Q (F0 m pc ls (.ref (ad 0) :: rest)) :=
  z_get (C := RX11) (T := TX11) (N := 32) (ci := 11) S K w inZ11 0 rfl rfl 21 (by decide) hl rfl rfl hd kk
theorem pM_0_21 (S : CallFix p m c cc nL s args zWs own) (K : ZK D cs s) (w : ZW D A0 H0 (MW cs ad F A T) H locs) {v : Int32} (hz : narrow .boolean (.int v) = .int v) (hf : fits .boolean (.int v) = true) (hl : Cond.fieldLink own index "FifthsOfGuiltModel" "hasDeed" "Z" ∈ zWs) (hd : decode cc pc = .ok (.putfield index, 3)) (kk : ∀ (H1 : Heap) (locs1 : List Loc), ZW D A0 H0 (MW cs ad (upd F 6 v) A T) H1 locs1 → W p l e R s m args below meth c H1 locs1 cells slots Q (F0 m (pc + 3) ls rest)) : W p l e R s m args below meth c H locs cells slots Q (F0 m pc ls (.int v :: .ref (ad 0) :: rest)) :=
  z_put (C := RX11) (T := TX11) (N := 32) (ci := 11) (ty := .boolean) S K w inZ11 tyX11 tyX11_ok nmX11 0 rfl rfl 21 (by decide) hl rfl rfl rfl hz hf (Nat.le_of_ble_eq_true rfl) rfl hd kk
theorem gM_0_22 (S : CallFix p m c cc nL s args zWs own) (K : ZK D cs s) (w : ZW D A0 H0 (MW cs ad F A T) H locs) (hl : Cond.fieldLink own index "FifthsOfGuiltModel" "hasDays" "Z" ∈ zWs) (hd : decode cc pc = .ok (.getfield index, 3)) (kk : W p l e R s m args below meth c H locs cells slots Q (F0 m (pc + 3) ls (.int (F 7) :: rest))) : W p l e R s m args below meth c H locs cells slots Q (F0 m pc ls (.ref (ad 0) :: rest)) :=
  z_get (C := RX11) (T := TX11) (N := 32) (ci := 11) S K w inZ11 0 rfl rfl 22 (by decide) hl rfl rfl hd kk
theorem pM_0_22 (S : CallFix p m c cc nL s args zWs own) (K : ZK D cs s) (w : ZW D A0 H0 (MW cs ad F A T) H locs) {v : Int32} (hz : narrow .boolean (.int v) = .int v) (hf : fits .boolean (.int v) = true) (hl : Cond.fieldLink own index "FifthsOfGuiltModel" "hasDays" "Z" ∈ zWs) (hd : decode cc pc = .ok (.putfield index, 3)) (kk : ∀ (H1 : Heap) (locs1 : List Loc), ZW D A0 H0 (MW cs ad (upd F 7 v) A T) H1 locs1 → W p l e R s m args below meth c H1 locs1 cells slots Q (F0 m (pc + 3) ls rest)) : W p l e R s m args below meth c H locs cells slots Q (F0 m pc ls (.int v :: .ref (ad 0) :: rest)) :=
  z_put (C := RX11) (T := TX11) (N := 32) (ci := 11) (ty := .boolean) S K w inZ11 tyX11 tyX11_ok nmX11 0 rfl rfl 22 (by decide) hl rfl rfl rfl hz hf (Nat.le_of_ble_eq_true rfl) rfl hd kk
theorem gM_0_23 (S : CallFix p m c cc nL s args zWs own) (K : ZK D cs s) (w : ZW D A0 H0 (MW cs ad F A T) H locs) (hl : Cond.fieldLink own index "FifthsOfGuiltModel" "firstDays" "I" ∈ zWs) (hd : decode cc pc = .ok (.getfield index, 3)) (kk : W p l e R s m args below meth c H locs cells slots Q (F0 m (pc + 3) ls (.int (F 8) :: rest))) : W p l e R s m args below meth c H locs cells slots Q (F0 m pc ls (.ref (ad 0) :: rest)) :=
  z_get (C := RX11) (T := TX11) (N := 32) (ci := 11) S K w inZ11 0 rfl rfl 23 (by decide) hl rfl rfl hd kk
theorem pM_0_23 (S : CallFix p m c cc nL s args zWs own) (K : ZK D cs s) (w : ZW D A0 H0 (MW cs ad F A T) H locs) {v : Int32} (hl : Cond.fieldLink own index "FifthsOfGuiltModel" "firstDays" "I" ∈ zWs) (hd : decode cc pc = .ok (.putfield index, 3)) (kk : ∀ (H1 : Heap) (locs1 : List Loc), ZW D A0 H0 (MW cs ad (upd F 8 v) A T) H1 locs1 → W p l e R s m args below meth c H1 locs1 cells slots Q (F0 m (pc + 3) ls rest)) : W p l e R s m args below meth c H locs cells slots Q (F0 m pc ls (.int v :: .ref (ad 0) :: rest)) :=
  z_put (C := RX11) (T := TX11) (N := 32) (ci := 11) (ty := .int) S K w inZ11 tyX11 tyX11_ok nmX11 0 rfl rfl 23 (by decide) hl rfl rfl rfl rfl rfl (Nat.le_of_ble_eq_true rfl) rfl hd kk
theorem gM_0_24 (S : CallFix p m c cc nL s args zWs own) (K : ZK D cs s) (w : ZW D A0 H0 (MW cs ad F A T) H locs) (hl : Cond.fieldLink own index "FifthsOfGuiltModel" "now" "[I" ∈ zWs) (hd : decode cc pc = .ok (.getfield index, 3)) (kk : W p l e R s m args below meth c H locs cells slots Q (F0 m (pc + 3) ls (.ref (ad 15) :: rest))) : W p l e R s m args below meth c H locs cells slots Q (F0 m pc ls (.ref (ad 0) :: rest)) :=
  z_get (C := RX11) (T := TX11) (N := 32) (ci := 11) S K w inZ11 0 rfl rfl 24 (by decide) hl rfl rfl hd kk
theorem gM_0_25 (S : CallFix p m c cc nL s args zWs own) (K : ZK D cs s) (w : ZW D A0 H0 (MW cs ad F A T) H locs) (hl : Cond.fieldLink own index "FifthsOfGuiltModel" "isKept" "[Z" ∈ zWs) (hd : decode cc pc = .ok (.getfield index, 3)) (kk : W p l e R s m args below meth c H locs cells slots Q (F0 m (pc + 3) ls (.ref (ad 16) :: rest))) : W p l e R s m args below meth c H locs cells slots Q (F0 m pc ls (.ref (ad 0) :: rest)) :=
  z_get (C := RX11) (T := TX11) (N := 32) (ci := 11) S K w inZ11 0 rfl rfl 25 (by decide) hl rfl rfl hd kk
theorem gM_0_26 (S : CallFix p m c cc nL s args zWs own) (K : ZK D cs s) (w : ZW D A0 H0 (MW cs ad F A T) H locs) (hl : Cond.fieldLink own index "FifthsOfGuiltModel" "held" "[I" ∈ zWs) (hd : decode cc pc = .ok (.getfield index, 3)) (kk : W p l e R s m args below meth c H locs cells slots Q (F0 m (pc + 3) ls (.ref (ad 17) :: rest))) : W p l e R s m args below meth c H locs cells slots Q (F0 m pc ls (.ref (ad 0) :: rest)) :=
  z_get (C := RX11) (T := TX11) (N := 32) (ci := 11) S K w inZ11 0 rfl rfl 26 (by decide) hl rfl rfl hd kk
theorem gM_0_27 (S : CallFix p m c cc nL s args zWs own) (K : ZK D cs s) (w : ZW D A0 H0 (MW cs ad F A T) H locs) (hl : Cond.fieldLink own index "FifthsOfGuiltModel" "whole" "I" ∈ zWs) (hd : decode cc pc = .ok (.getfield index, 3)) (kk : W p l e R s m args below meth c H locs cells slots Q (F0 m (pc + 3) ls (.int (F 9) :: rest))) : W p l e R s m args below meth c H locs cells slots Q (F0 m pc ls (.ref (ad 0) :: rest)) :=
  z_get (C := RX11) (T := TX11) (N := 32) (ci := 11) S K w inZ11 0 rfl rfl 27 (by decide) hl rfl rfl hd kk
theorem pM_0_27 (S : CallFix p m c cc nL s args zWs own) (K : ZK D cs s) (w : ZW D A0 H0 (MW cs ad F A T) H locs) {v : Int32} (hl : Cond.fieldLink own index "FifthsOfGuiltModel" "whole" "I" ∈ zWs) (hd : decode cc pc = .ok (.putfield index, 3)) (kk : ∀ (H1 : Heap) (locs1 : List Loc), ZW D A0 H0 (MW cs ad (upd F 9 v) A T) H1 locs1 → W p l e R s m args below meth c H1 locs1 cells slots Q (F0 m (pc + 3) ls rest)) : W p l e R s m args below meth c H locs cells slots Q (F0 m pc ls (.int v :: .ref (ad 0) :: rest)) :=
  z_put (C := RX11) (T := TX11) (N := 32) (ci := 11) (ty := .int) S K w inZ11 tyX11 tyX11_ok nmX11 0 rfl rfl 27 (by decide) hl rfl rfl rfl rfl rfl (Nat.le_of_ble_eq_true rfl) rfl hd kk
theorem gM_0_28 (S : CallFix p m c cc nL s args zWs own) (K : ZK D cs s) (w : ZW D A0 H0 (MW cs ad F A T) H locs) (hl : Cond.fieldLink own index "FifthsOfGuiltModel" "serves" "[I" ∈ zWs) (hd : decode cc pc = .ok (.getfield index, 3)) (kk : W p l e R s m args below meth c H locs cells slots Q (F0 m (pc + 3) ls (.ref (ad 18) :: rest))) : W p l e R s m args below meth c H locs cells slots Q (F0 m pc ls (.ref (ad 0) :: rest)) :=
  z_get (C := RX11) (T := TX11) (N := 32) (ci := 11) S K w inZ11 0 rfl rfl 28 (by decide) hl rfl rfl hd kk
theorem gM_0_29 (S : CallFix p m c cc nL s args zWs own) (K : ZK D cs s) (w : ZW D A0 H0 (MW cs ad F A T) H locs) (hl : Cond.fieldLink own index "FifthsOfGuiltModel" "lineOf" "[I" ∈ zWs) (hd : decode cc pc = .ok (.getfield index, 3)) (kk : W p l e R s m args below meth c H locs cells slots Q (F0 m (pc + 3) ls (.ref (ad 19) :: rest))) : W p l e R s m args below meth c H locs cells slots Q (F0 m pc ls (.ref (ad 0) :: rest)) :=
  z_get (C := RX11) (T := TX11) (N := 32) (ci := 11) S K w inZ11 0 rfl rfl 29 (by decide) hl rfl rfl hd kk
theorem gM_0_30 (S : CallFix p m c cc nL s args zWs own) (K : ZK D cs s) (w : ZW D A0 H0 (MW cs ad F A T) H locs) (hl : Cond.fieldLink own index "FifthsOfGuiltModel" "lineDays" "[I" ∈ zWs) (hd : decode cc pc = .ok (.getfield index, 3)) (kk : W p l e R s m args below meth c H locs cells slots Q (F0 m (pc + 3) ls (.ref (ad 20) :: rest))) : W p l e R s m args below meth c H locs cells slots Q (F0 m pc ls (.ref (ad 0) :: rest)) :=
  z_get (C := RX11) (T := TX11) (N := 32) (ci := 11) S K w inZ11 0 rfl rfl 30 (by decide) hl rfl rfl hd kk
theorem gM_0_31 (S : CallFix p m c cc nL s args zWs own) (K : ZK D cs s) (w : ZW D A0 H0 (MW cs ad F A T) H locs) (hl : Cond.fieldLink own index "FifthsOfGuiltModel" "lines" "I" ∈ zWs) (hd : decode cc pc = .ok (.getfield index, 3)) (kk : W p l e R s m args below meth c H locs cells slots Q (F0 m (pc + 3) ls (.int (F 10) :: rest))) : W p l e R s m args below meth c H locs cells slots Q (F0 m pc ls (.ref (ad 0) :: rest)) :=
  z_get (C := RX11) (T := TX11) (N := 32) (ci := 11) S K w inZ11 0 rfl rfl 31 (by decide) hl rfl rfl hd kk
theorem pM_0_31 (S : CallFix p m c cc nL s args zWs own) (K : ZK D cs s) (w : ZW D A0 H0 (MW cs ad F A T) H locs) {v : Int32} (hl : Cond.fieldLink own index "FifthsOfGuiltModel" "lines" "I" ∈ zWs) (hd : decode cc pc = .ok (.putfield index, 3)) (kk : ∀ (H1 : Heap) (locs1 : List Loc), ZW D A0 H0 (MW cs ad (upd F 10 v) A T) H1 locs1 → W p l e R s m args below meth c H1 locs1 cells slots Q (F0 m (pc + 3) ls rest)) : W p l e R s m args below meth c H locs cells slots Q (F0 m pc ls (.int v :: .ref (ad 0) :: rest)) :=
  z_put (C := RX11) (T := TX11) (N := 32) (ci := 11) (ty := .int) S K w inZ11 tyX11 tyX11_ok nmX11 0 rfl rfl 31 (by decide) hl rfl rfl rfl rfl rfl (Nat.le_of_ble_eq_true rfl) rfl hd kk
theorem aM_1 (S : CallFix p m c cc nL s args zWs own) (K : ZK D cs s) (w : ZW D A0 H0 (MW cs ad F A T) H locs) {i : Int32} (hi : gok i 200 = true) (hd : decode cc pc = .ok (.baload, 1)) (kk : W p l e R s m args below meth c H locs cells slots Q (F0 m (pc + 1) ls (.int (A 1 i.toNatClampNeg) :: rest))) : W p l e R s m args below meth c H locs cells slots Q (F0 m pc ls (.int i :: .ref (ad 1) :: rest)) :=
  va_bald S.1 S.2.1 K.1 w.1 1 1 (n := 200) (f := A 1) rfl rfl (gok_in hi) hd kk
theorem sM_1 (S : CallFix p m c cc nL s args zWs own) (K : ZK D cs s) (w : ZW D A0 H0 (MW cs ad F A T) H locs) {i x : Int32} (hi : gok i 200 = true) (hd : decode cc pc = .ok (.bastore, 1)) (kk : ∀ (H1 : Heap) (locs1 : List Loc), ZW D A0 H0 (MW cs ad F (zst A 1 i.toNatClampNeg (vp_nar .byte x)) T) H1 locs1 → W p l e R s m args below meth c H1 locs1 cells slots Q (F0 m (pc + 1) ls rest)) : W p l e R s m args below meth c H locs cells slots Q (F0 m pc ls (.int x :: .int i :: .ref (ad 1) :: rest)) :=
  va_bast S.1 S.2.1 K.1 w.1 w.2.1 w.2.2 1 1 (n := 200) (f := A 1) rfl rfl (gok_in hi) hd (fun H1 locs1 h1 h2 h3 => kk H1 locs1 ⟨h1, h2, h3⟩)
theorem aM_2 (S : CallFix p m c cc nL s args zWs own) (K : ZK D cs s) (w : ZW D A0 H0 (MW cs ad F A T) H locs) {i : Int32} (hi : gok i 2 = true) (hd : decode cc pc = .ok (.iaload, 1)) (kk : W p l e R s m args below meth c H locs cells slots Q (F0 m (pc + 1) ls (.int (A 2 i.toNatClampNeg) :: rest))) : W p l e R s m args below meth c H locs cells slots Q (F0 m pc ls (.int i :: .ref (ad 2) :: rest)) :=
  va_iald S.1 S.2.1 K.1 w.1 2 0 (n := 2) (f := A 2) rfl rfl (gok_in hi) hd kk
theorem sM_2 (S : CallFix p m c cc nL s args zWs own) (K : ZK D cs s) (w : ZW D A0 H0 (MW cs ad F A T) H locs) {i x : Int32} (hi : gok i 2 = true) (hd : decode cc pc = .ok (.iastore, 1)) (kk : ∀ (H1 : Heap) (locs1 : List Loc), ZW D A0 H0 (MW cs ad F (zst A 2 i.toNatClampNeg x) T) H1 locs1 → W p l e R s m args below meth c H1 locs1 cells slots Q (F0 m (pc + 1) ls rest)) : W p l e R s m args below meth c H locs cells slots Q (F0 m pc ls (.int x :: .int i :: .ref (ad 2) :: rest)) :=
  va_iast S.1 S.2.1 K.1 w.1 w.2.1 w.2.2 2 0 (n := 2) (f := A 2) rfl rfl (gok_in hi) hd (fun H1 locs1 h1 h2 h3 => kk H1 locs1 ⟨h1, h2, h3⟩)
theorem aM_3 (S : CallFix p m c cc nL s args zWs own) (K : ZK D cs s) (w : ZW D A0 H0 (MW cs ad F A T) H locs) {i : Int32} (hi : gok i 12 = true) (hd : decode cc pc = .ok (.iaload, 1)) (kk : W p l e R s m args below meth c H locs cells slots Q (F0 m (pc + 1) ls (.int (A 3 i.toNatClampNeg) :: rest))) : W p l e R s m args below meth c H locs cells slots Q (F0 m pc ls (.int i :: .ref (ad 3) :: rest)) :=
  va_iald S.1 S.2.1 K.1 w.1 3 0 (n := 12) (f := A 3) rfl rfl (gok_in hi) hd kk
theorem sM_3 (S : CallFix p m c cc nL s args zWs own) (K : ZK D cs s) (w : ZW D A0 H0 (MW cs ad F A T) H locs) {i x : Int32} (hi : gok i 12 = true) (hd : decode cc pc = .ok (.iastore, 1)) (kk : ∀ (H1 : Heap) (locs1 : List Loc), ZW D A0 H0 (MW cs ad F (zst A 3 i.toNatClampNeg x) T) H1 locs1 → W p l e R s m args below meth c H1 locs1 cells slots Q (F0 m (pc + 1) ls rest)) : W p l e R s m args below meth c H locs cells slots Q (F0 m pc ls (.int x :: .int i :: .ref (ad 3) :: rest)) :=
  va_iast S.1 S.2.1 K.1 w.1 w.2.1 w.2.2 3 0 (n := 12) (f := A 3) rfl rfl (gok_in hi) hd (fun H1 locs1 h1 h2 h3 => kk H1 locs1 ⟨h1, h2, h3⟩)
theorem aM_4 (S : CallFix p m c cc nL s args zWs own) (K : ZK D cs s) (w : ZW D A0 H0 (MW cs ad F A T) H locs) {i : Int32} (hi : gok i 2 = true) (hd : decode cc pc = .ok (.iaload, 1)) (kk : W p l e R s m args below meth c H locs cells slots Q (F0 m (pc + 1) ls (.int (A 4 i.toNatClampNeg) :: rest))) : W p l e R s m args below meth c H locs cells slots Q (F0 m pc ls (.int i :: .ref (ad 4) :: rest)) :=
  va_iald S.1 S.2.1 K.1 w.1 4 0 (n := 2) (f := A 4) rfl rfl (gok_in hi) hd kk
theorem sM_4 (S : CallFix p m c cc nL s args zWs own) (K : ZK D cs s) (w : ZW D A0 H0 (MW cs ad F A T) H locs) {i x : Int32} (hi : gok i 2 = true) (hd : decode cc pc = .ok (.iastore, 1)) (kk : ∀ (H1 : Heap) (locs1 : List Loc), ZW D A0 H0 (MW cs ad F (zst A 4 i.toNatClampNeg x) T) H1 locs1 → W p l e R s m args below meth c H1 locs1 cells slots Q (F0 m (pc + 1) ls rest)) : W p l e R s m args below meth c H locs cells slots Q (F0 m pc ls (.int x :: .int i :: .ref (ad 4) :: rest)) :=
  va_iast S.1 S.2.1 K.1 w.1 w.2.1 w.2.2 4 0 (n := 2) (f := A 4) rfl rfl (gok_in hi) hd (fun H1 locs1 h1 h2 h3 => kk H1 locs1 ⟨h1, h2, h3⟩)
theorem aM_5 (S : CallFix p m c cc nL s args zWs own) (K : ZK D cs s) (w : ZW D A0 H0 (MW cs ad F A T) H locs) {i : Int32} (hi : gok i 16 = true) (hd : decode cc pc = .ok (.iaload, 1)) (kk : W p l e R s m args below meth c H locs cells slots Q (F0 m (pc + 1) ls (.int (A 5 i.toNatClampNeg) :: rest))) : W p l e R s m args below meth c H locs cells slots Q (F0 m pc ls (.int i :: .ref (ad 5) :: rest)) :=
  va_iald S.1 S.2.1 K.1 w.1 5 0 (n := 16) (f := A 5) rfl rfl (gok_in hi) hd kk
theorem sM_5 (S : CallFix p m c cc nL s args zWs own) (K : ZK D cs s) (w : ZW D A0 H0 (MW cs ad F A T) H locs) {i x : Int32} (hi : gok i 16 = true) (hd : decode cc pc = .ok (.iastore, 1)) (kk : ∀ (H1 : Heap) (locs1 : List Loc), ZW D A0 H0 (MW cs ad F (zst A 5 i.toNatClampNeg x) T) H1 locs1 → W p l e R s m args below meth c H1 locs1 cells slots Q (F0 m (pc + 1) ls rest)) : W p l e R s m args below meth c H locs cells slots Q (F0 m pc ls (.int x :: .int i :: .ref (ad 5) :: rest)) :=
  va_iast S.1 S.2.1 K.1 w.1 w.2.1 w.2.2 5 0 (n := 16) (f := A 5) rfl rfl (gok_in hi) hd (fun H1 locs1 h1 h2 h3 => kk H1 locs1 ⟨h1, h2, h3⟩)
theorem aM_6 (S : CallFix p m c cc nL s args zWs own) (K : ZK D cs s) (w : ZW D A0 H0 (MW cs ad F A T) H locs) {i : Int32} (hi : gok i 16 = true) (hd : decode cc pc = .ok (.iaload, 1)) (kk : W p l e R s m args below meth c H locs cells slots Q (F0 m (pc + 1) ls (.int (A 6 i.toNatClampNeg) :: rest))) : W p l e R s m args below meth c H locs cells slots Q (F0 m pc ls (.int i :: .ref (ad 6) :: rest)) :=
  va_iald S.1 S.2.1 K.1 w.1 6 0 (n := 16) (f := A 6) rfl rfl (gok_in hi) hd kk
theorem sM_6 (S : CallFix p m c cc nL s args zWs own) (K : ZK D cs s) (w : ZW D A0 H0 (MW cs ad F A T) H locs) {i x : Int32} (hi : gok i 16 = true) (hd : decode cc pc = .ok (.iastore, 1)) (kk : ∀ (H1 : Heap) (locs1 : List Loc), ZW D A0 H0 (MW cs ad F (zst A 6 i.toNatClampNeg x) T) H1 locs1 → W p l e R s m args below meth c H1 locs1 cells slots Q (F0 m (pc + 1) ls rest)) : W p l e R s m args below meth c H locs cells slots Q (F0 m pc ls (.int x :: .int i :: .ref (ad 6) :: rest)) :=
  va_iast S.1 S.2.1 K.1 w.1 w.2.1 w.2.2 6 0 (n := 16) (f := A 6) rfl rfl (gok_in hi) hd (fun H1 locs1 h1 h2 h3 => kk H1 locs1 ⟨h1, h2, h3⟩)
theorem aM_7 (S : CallFix p m c cc nL s args zWs own) (K : ZK D cs s) (w : ZW D A0 H0 (MW cs ad F A T) H locs) {i : Int32} (hi : gok i 96 = true) (hd : decode cc pc = .ok (.iaload, 1)) (kk : W p l e R s m args below meth c H locs cells slots Q (F0 m (pc + 1) ls (.int (A 7 i.toNatClampNeg) :: rest))) : W p l e R s m args below meth c H locs cells slots Q (F0 m pc ls (.int i :: .ref (ad 7) :: rest)) :=
  va_iald S.1 S.2.1 K.1 w.1 7 0 (n := 96) (f := A 7) rfl rfl (gok_in hi) hd kk
theorem sM_7 (S : CallFix p m c cc nL s args zWs own) (K : ZK D cs s) (w : ZW D A0 H0 (MW cs ad F A T) H locs) {i x : Int32} (hi : gok i 96 = true) (hd : decode cc pc = .ok (.iastore, 1)) (kk : ∀ (H1 : Heap) (locs1 : List Loc), ZW D A0 H0 (MW cs ad F (zst A 7 i.toNatClampNeg x) T) H1 locs1 → W p l e R s m args below meth c H1 locs1 cells slots Q (F0 m (pc + 1) ls rest)) : W p l e R s m args below meth c H locs cells slots Q (F0 m pc ls (.int x :: .int i :: .ref (ad 7) :: rest)) :=
  va_iast S.1 S.2.1 K.1 w.1 w.2.1 w.2.2 7 0 (n := 96) (f := A 7) rfl rfl (gok_in hi) hd (fun H1 locs1 h1 h2 h3 => kk H1 locs1 ⟨h1, h2, h3⟩)
theorem aM_8 (S : CallFix p m c cc nL s args zWs own) (K : ZK D cs s) (w : ZW D A0 H0 (MW cs ad F A T) H locs) {i : Int32} (hi : gok i 2 = true) (hd : decode cc pc = .ok (.iaload, 1)) (kk : W p l e R s m args below meth c H locs cells slots Q (F0 m (pc + 1) ls (.int (A 8 i.toNatClampNeg) :: rest))) : W p l e R s m args below meth c H locs cells slots Q (F0 m pc ls (.int i :: .ref (ad 8) :: rest)) :=
  va_iald S.1 S.2.1 K.1 w.1 8 0 (n := 2) (f := A 8) rfl rfl (gok_in hi) hd kk
theorem sM_8 (S : CallFix p m c cc nL s args zWs own) (K : ZK D cs s) (w : ZW D A0 H0 (MW cs ad F A T) H locs) {i x : Int32} (hi : gok i 2 = true) (hd : decode cc pc = .ok (.iastore, 1)) (kk : ∀ (H1 : Heap) (locs1 : List Loc), ZW D A0 H0 (MW cs ad F (zst A 8 i.toNatClampNeg x) T) H1 locs1 → W p l e R s m args below meth c H1 locs1 cells slots Q (F0 m (pc + 1) ls rest)) : W p l e R s m args below meth c H locs cells slots Q (F0 m pc ls (.int x :: .int i :: .ref (ad 8) :: rest)) :=
  va_iast S.1 S.2.1 K.1 w.1 w.2.1 w.2.2 8 0 (n := 2) (f := A 8) rfl rfl (gok_in hi) hd (fun H1 locs1 h1 h2 h3 => kk H1 locs1 ⟨h1, h2, h3⟩)
theorem aM_9 (S : CallFix p m c cc nL s args zWs own) (K : ZK D cs s) (w : ZW D A0 H0 (MW cs ad F A T) H locs) {i : Int32} (hi : gok i 16 = true) (hd : decode cc pc = .ok (.iaload, 1)) (kk : W p l e R s m args below meth c H locs cells slots Q (F0 m (pc + 1) ls (.int (A 9 i.toNatClampNeg) :: rest))) : W p l e R s m args below meth c H locs cells slots Q (F0 m pc ls (.int i :: .ref (ad 9) :: rest)) :=
  va_iald S.1 S.2.1 K.1 w.1 9 0 (n := 16) (f := A 9) rfl rfl (gok_in hi) hd kk
theorem sM_9 (S : CallFix p m c cc nL s args zWs own) (K : ZK D cs s) (w : ZW D A0 H0 (MW cs ad F A T) H locs) {i x : Int32} (hi : gok i 16 = true) (hd : decode cc pc = .ok (.iastore, 1)) (kk : ∀ (H1 : Heap) (locs1 : List Loc), ZW D A0 H0 (MW cs ad F (zst A 9 i.toNatClampNeg x) T) H1 locs1 → W p l e R s m args below meth c H1 locs1 cells slots Q (F0 m (pc + 1) ls rest)) : W p l e R s m args below meth c H locs cells slots Q (F0 m pc ls (.int x :: .int i :: .ref (ad 9) :: rest)) :=
  va_iast S.1 S.2.1 K.1 w.1 w.2.1 w.2.2 9 0 (n := 16) (f := A 9) rfl rfl (gok_in hi) hd (fun H1 locs1 h1 h2 h3 => kk H1 locs1 ⟨h1, h2, h3⟩)
theorem aM_10 (S : CallFix p m c cc nL s args zWs own) (K : ZK D cs s) (w : ZW D A0 H0 (MW cs ad F A T) H locs) {i : Int32} (hi : gok i 16 = true) (hd : decode cc pc = .ok (.iaload, 1)) (kk : W p l e R s m args below meth c H locs cells slots Q (F0 m (pc + 1) ls (.int (A 10 i.toNatClampNeg) :: rest))) : W p l e R s m args below meth c H locs cells slots Q (F0 m pc ls (.int i :: .ref (ad 10) :: rest)) :=
  va_iald S.1 S.2.1 K.1 w.1 10 0 (n := 16) (f := A 10) rfl rfl (gok_in hi) hd kk
theorem sM_10 (S : CallFix p m c cc nL s args zWs own) (K : ZK D cs s) (w : ZW D A0 H0 (MW cs ad F A T) H locs) {i x : Int32} (hi : gok i 16 = true) (hd : decode cc pc = .ok (.iastore, 1)) (kk : ∀ (H1 : Heap) (locs1 : List Loc), ZW D A0 H0 (MW cs ad F (zst A 10 i.toNatClampNeg x) T) H1 locs1 → W p l e R s m args below meth c H1 locs1 cells slots Q (F0 m (pc + 1) ls rest)) : W p l e R s m args below meth c H locs cells slots Q (F0 m pc ls (.int x :: .int i :: .ref (ad 10) :: rest)) :=
  va_iast S.1 S.2.1 K.1 w.1 w.2.1 w.2.2 10 0 (n := 16) (f := A 10) rfl rfl (gok_in hi) hd (fun H1 locs1 h1 h2 h3 => kk H1 locs1 ⟨h1, h2, h3⟩)
theorem aM_11 (S : CallFix p m c cc nL s args zWs own) (K : ZK D cs s) (w : ZW D A0 H0 (MW cs ad F A T) H locs) {i : Int32} (hi : gok i 16 = true) (hd : decode cc pc = .ok (.iaload, 1)) (kk : W p l e R s m args below meth c H locs cells slots Q (F0 m (pc + 1) ls (.int (A 11 i.toNatClampNeg) :: rest))) : W p l e R s m args below meth c H locs cells slots Q (F0 m pc ls (.int i :: .ref (ad 11) :: rest)) :=
  va_iald S.1 S.2.1 K.1 w.1 11 0 (n := 16) (f := A 11) rfl rfl (gok_in hi) hd kk
theorem sM_11 (S : CallFix p m c cc nL s args zWs own) (K : ZK D cs s) (w : ZW D A0 H0 (MW cs ad F A T) H locs) {i x : Int32} (hi : gok i 16 = true) (hd : decode cc pc = .ok (.iastore, 1)) (kk : ∀ (H1 : Heap) (locs1 : List Loc), ZW D A0 H0 (MW cs ad F (zst A 11 i.toNatClampNeg x) T) H1 locs1 → W p l e R s m args below meth c H1 locs1 cells slots Q (F0 m (pc + 1) ls rest)) : W p l e R s m args below meth c H locs cells slots Q (F0 m pc ls (.int x :: .int i :: .ref (ad 11) :: rest)) :=
  va_iast S.1 S.2.1 K.1 w.1 w.2.1 w.2.2 11 0 (n := 16) (f := A 11) rfl rfl (gok_in hi) hd (fun H1 locs1 h1 h2 h3 => kk H1 locs1 ⟨h1, h2, h3⟩)
theorem aM_12 (S : CallFix p m c cc nL s args zWs own) (K : ZK D cs s) (w : ZW D A0 H0 (MW cs ad F A T) H locs) {i : Int32} (hi : gok i 16 = true) (hd : decode cc pc = .ok (.iaload, 1)) (kk : W p l e R s m args below meth c H locs cells slots Q (F0 m (pc + 1) ls (.int (A 12 i.toNatClampNeg) :: rest))) : W p l e R s m args below meth c H locs cells slots Q (F0 m pc ls (.int i :: .ref (ad 12) :: rest)) :=
  va_iald S.1 S.2.1 K.1 w.1 12 0 (n := 16) (f := A 12) rfl rfl (gok_in hi) hd kk
theorem sM_12 (S : CallFix p m c cc nL s args zWs own) (K : ZK D cs s) (w : ZW D A0 H0 (MW cs ad F A T) H locs) {i x : Int32} (hi : gok i 16 = true) (hd : decode cc pc = .ok (.iastore, 1)) (kk : ∀ (H1 : Heap) (locs1 : List Loc), ZW D A0 H0 (MW cs ad F (zst A 12 i.toNatClampNeg x) T) H1 locs1 → W p l e R s m args below meth c H1 locs1 cells slots Q (F0 m (pc + 1) ls rest)) : W p l e R s m args below meth c H locs cells slots Q (F0 m pc ls (.int x :: .int i :: .ref (ad 12) :: rest)) :=
  va_iast S.1 S.2.1 K.1 w.1 w.2.1 w.2.2 12 0 (n := 16) (f := A 12) rfl rfl (gok_in hi) hd (fun H1 locs1 h1 h2 h3 => kk H1 locs1 ⟨h1, h2, h3⟩)
theorem aM_13 (S : CallFix p m c cc nL s args zWs own) (K : ZK D cs s) (w : ZW D A0 H0 (MW cs ad F A T) H locs) {i : Int32} (hi : gok i 2 = true) (hd : decode cc pc = .ok (.iaload, 1)) (kk : W p l e R s m args below meth c H locs cells slots Q (F0 m (pc + 1) ls (.int (A 13 i.toNatClampNeg) :: rest))) : W p l e R s m args below meth c H locs cells slots Q (F0 m pc ls (.int i :: .ref (ad 13) :: rest)) :=
  va_iald S.1 S.2.1 K.1 w.1 13 0 (n := 2) (f := A 13) rfl rfl (gok_in hi) hd kk
theorem sM_13 (S : CallFix p m c cc nL s args zWs own) (K : ZK D cs s) (w : ZW D A0 H0 (MW cs ad F A T) H locs) {i x : Int32} (hi : gok i 2 = true) (hd : decode cc pc = .ok (.iastore, 1)) (kk : ∀ (H1 : Heap) (locs1 : List Loc), ZW D A0 H0 (MW cs ad F (zst A 13 i.toNatClampNeg x) T) H1 locs1 → W p l e R s m args below meth c H1 locs1 cells slots Q (F0 m (pc + 1) ls rest)) : W p l e R s m args below meth c H locs cells slots Q (F0 m pc ls (.int x :: .int i :: .ref (ad 13) :: rest)) :=
  va_iast S.1 S.2.1 K.1 w.1 w.2.1 w.2.2 13 0 (n := 2) (f := A 13) rfl rfl (gok_in hi) hd (fun H1 locs1 h1 h2 h3 => kk H1 locs1 ⟨h1, h2, h3⟩)
theorem aM_14 (S : CallFix p m c cc nL s args zWs own) (K : ZK D cs s) (w : ZW D A0 H0 (MW cs ad F A T) H locs) {i : Int32} (hi : gok i 2 = true) (hd : decode cc pc = .ok (.iaload, 1)) (kk : W p l e R s m args below meth c H locs cells slots Q (F0 m (pc + 1) ls (.int (A 14 i.toNatClampNeg) :: rest))) : W p l e R s m args below meth c H locs cells slots Q (F0 m pc ls (.int i :: .ref (ad 14) :: rest)) :=
  va_iald S.1 S.2.1 K.1 w.1 14 0 (n := 2) (f := A 14) rfl rfl (gok_in hi) hd kk
theorem sM_14 (S : CallFix p m c cc nL s args zWs own) (K : ZK D cs s) (w : ZW D A0 H0 (MW cs ad F A T) H locs) {i x : Int32} (hi : gok i 2 = true) (hd : decode cc pc = .ok (.iastore, 1)) (kk : ∀ (H1 : Heap) (locs1 : List Loc), ZW D A0 H0 (MW cs ad F (zst A 14 i.toNatClampNeg x) T) H1 locs1 → W p l e R s m args below meth c H1 locs1 cells slots Q (F0 m (pc + 1) ls rest)) : W p l e R s m args below meth c H locs cells slots Q (F0 m pc ls (.int x :: .int i :: .ref (ad 14) :: rest)) :=
  va_iast S.1 S.2.1 K.1 w.1 w.2.1 w.2.2 14 0 (n := 2) (f := A 14) rfl rfl (gok_in hi) hd (fun H1 locs1 h1 h2 h3 => kk H1 locs1 ⟨h1, h2, h3⟩)
theorem aM_15 (S : CallFix p m c cc nL s args zWs own) (K : ZK D cs s) (w : ZW D A0 H0 (MW cs ad F A T) H locs) {i : Int32} (hi : gok i 102 = true) (hd : decode cc pc = .ok (.iaload, 1)) (kk : W p l e R s m args below meth c H locs cells slots Q (F0 m (pc + 1) ls (.int (A 15 i.toNatClampNeg) :: rest))) : W p l e R s m args below meth c H locs cells slots Q (F0 m pc ls (.int i :: .ref (ad 15) :: rest)) :=
  va_iald S.1 S.2.1 K.1 w.1 15 0 (n := 102) (f := A 15) rfl rfl (gok_in hi) hd kk
theorem sM_15 (S : CallFix p m c cc nL s args zWs own) (K : ZK D cs s) (w : ZW D A0 H0 (MW cs ad F A T) H locs) {i x : Int32} (hi : gok i 102 = true) (hd : decode cc pc = .ok (.iastore, 1)) (kk : ∀ (H1 : Heap) (locs1 : List Loc), ZW D A0 H0 (MW cs ad F (zst A 15 i.toNatClampNeg x) T) H1 locs1 → W p l e R s m args below meth c H1 locs1 cells slots Q (F0 m (pc + 1) ls rest)) : W p l e R s m args below meth c H locs cells slots Q (F0 m pc ls (.int x :: .int i :: .ref (ad 15) :: rest)) :=
  va_iast S.1 S.2.1 K.1 w.1 w.2.1 w.2.2 15 0 (n := 102) (f := A 15) rfl rfl (gok_in hi) hd (fun H1 locs1 h1 h2 h3 => kk H1 locs1 ⟨h1, h2, h3⟩)
theorem aM_16 (S : CallFix p m c cc nL s args zWs own) (K : ZK D cs s) (w : ZW D A0 H0 (MW cs ad F A T) H locs) {i : Int32} (hi : gok i 2 = true) (hd : decode cc pc = .ok (.baload, 1)) (kk : W p l e R s m args below meth c H locs cells slots Q (F0 m (pc + 1) ls (.int (A 16 i.toNatClampNeg) :: rest))) : W p l e R s m args below meth c H locs cells slots Q (F0 m pc ls (.int i :: .ref (ad 16) :: rest)) :=
  va_zald S.1 S.2.1 K.1 w.1 16 2 (n := 2) (f := A 16) rfl rfl (gok_in hi) hd kk
theorem sM_16 (S : CallFix p m c cc nL s args zWs own) (K : ZK D cs s) (w : ZW D A0 H0 (MW cs ad F A T) H locs) {i x : Int32} (hi : gok i 2 = true) (hd : decode cc pc = .ok (.bastore, 1)) (kk : ∀ (H1 : Heap) (locs1 : List Loc), ZW D A0 H0 (MW cs ad F (zst A 16 i.toNatClampNeg (vp_nar .boolean x)) T) H1 locs1 → W p l e R s m args below meth c H1 locs1 cells slots Q (F0 m (pc + 1) ls rest)) : W p l e R s m args below meth c H locs cells slots Q (F0 m pc ls (.int x :: .int i :: .ref (ad 16) :: rest)) :=
  va_zast S.1 S.2.1 K.1 w.1 w.2.1 w.2.2 16 2 (n := 2) (f := A 16) rfl rfl (gok_in hi) hd (fun H1 locs1 h1 h2 h3 => kk H1 locs1 ⟨h1, h2, h3⟩)
theorem aM_17 (S : CallFix p m c cc nL s args zWs own) (K : ZK D cs s) (w : ZW D A0 H0 (MW cs ad F A T) H locs) {i : Int32} (hi : gok i 6 = true) (hd : decode cc pc = .ok (.iaload, 1)) (kk : W p l e R s m args below meth c H locs cells slots Q (F0 m (pc + 1) ls (.int (A 17 i.toNatClampNeg) :: rest))) : W p l e R s m args below meth c H locs cells slots Q (F0 m pc ls (.int i :: .ref (ad 17) :: rest)) :=
  va_iald S.1 S.2.1 K.1 w.1 17 0 (n := 6) (f := A 17) rfl rfl (gok_in hi) hd kk
theorem sM_17 (S : CallFix p m c cc nL s args zWs own) (K : ZK D cs s) (w : ZW D A0 H0 (MW cs ad F A T) H locs) {i x : Int32} (hi : gok i 6 = true) (hd : decode cc pc = .ok (.iastore, 1)) (kk : ∀ (H1 : Heap) (locs1 : List Loc), ZW D A0 H0 (MW cs ad F (zst A 17 i.toNatClampNeg x) T) H1 locs1 → W p l e R s m args below meth c H1 locs1 cells slots Q (F0 m (pc + 1) ls rest)) : W p l e R s m args below meth c H locs cells slots Q (F0 m pc ls (.int x :: .int i :: .ref (ad 17) :: rest)) :=
  va_iast S.1 S.2.1 K.1 w.1 w.2.1 w.2.2 17 0 (n := 6) (f := A 17) rfl rfl (gok_in hi) hd (fun H1 locs1 h1 h2 h3 => kk H1 locs1 ⟨h1, h2, h3⟩)
theorem aM_18 (S : CallFix p m c cc nL s args zWs own) (K : ZK D cs s) (w : ZW D A0 H0 (MW cs ad F A T) H locs) {i : Int32} (hi : gok i 6 = true) (hd : decode cc pc = .ok (.iaload, 1)) (kk : W p l e R s m args below meth c H locs cells slots Q (F0 m (pc + 1) ls (.int (A 18 i.toNatClampNeg) :: rest))) : W p l e R s m args below meth c H locs cells slots Q (F0 m pc ls (.int i :: .ref (ad 18) :: rest)) :=
  va_iald S.1 S.2.1 K.1 w.1 18 0 (n := 6) (f := A 18) rfl rfl (gok_in hi) hd kk
theorem sM_18 (S : CallFix p m c cc nL s args zWs own) (K : ZK D cs s) (w : ZW D A0 H0 (MW cs ad F A T) H locs) {i x : Int32} (hi : gok i 6 = true) (hd : decode cc pc = .ok (.iastore, 1)) (kk : ∀ (H1 : Heap) (locs1 : List Loc), ZW D A0 H0 (MW cs ad F (zst A 18 i.toNatClampNeg x) T) H1 locs1 → W p l e R s m args below meth c H1 locs1 cells slots Q (F0 m (pc + 1) ls rest)) : W p l e R s m args below meth c H locs cells slots Q (F0 m pc ls (.int x :: .int i :: .ref (ad 18) :: rest)) :=
  va_iast S.1 S.2.1 K.1 w.1 w.2.1 w.2.2 18 0 (n := 6) (f := A 18) rfl rfl (gok_in hi) hd (fun H1 locs1 h1 h2 h3 => kk H1 locs1 ⟨h1, h2, h3⟩)
theorem aM_19 (S : CallFix p m c cc nL s args zWs own) (K : ZK D cs s) (w : ZW D A0 H0 (MW cs ad F A T) H locs) {i : Int32} (hi : gok i 6 = true) (hd : decode cc pc = .ok (.iaload, 1)) (kk : W p l e R s m args below meth c H locs cells slots Q (F0 m (pc + 1) ls (.int (A 19 i.toNatClampNeg) :: rest))) : W p l e R s m args below meth c H locs cells slots Q (F0 m pc ls (.int i :: .ref (ad 19) :: rest)) :=
  va_iald S.1 S.2.1 K.1 w.1 19 0 (n := 6) (f := A 19) rfl rfl (gok_in hi) hd kk
theorem sM_19 (S : CallFix p m c cc nL s args zWs own) (K : ZK D cs s) (w : ZW D A0 H0 (MW cs ad F A T) H locs) {i x : Int32} (hi : gok i 6 = true) (hd : decode cc pc = .ok (.iastore, 1)) (kk : ∀ (H1 : Heap) (locs1 : List Loc), ZW D A0 H0 (MW cs ad F (zst A 19 i.toNatClampNeg x) T) H1 locs1 → W p l e R s m args below meth c H1 locs1 cells slots Q (F0 m (pc + 1) ls rest)) : W p l e R s m args below meth c H locs cells slots Q (F0 m pc ls (.int x :: .int i :: .ref (ad 19) :: rest)) :=
  va_iast S.1 S.2.1 K.1 w.1 w.2.1 w.2.2 19 0 (n := 6) (f := A 19) rfl rfl (gok_in hi) hd (fun H1 locs1 h1 h2 h3 => kk H1 locs1 ⟨h1, h2, h3⟩)
theorem aM_20 (S : CallFix p m c cc nL s args zWs own) (K : ZK D cs s) (w : ZW D A0 H0 (MW cs ad F A T) H locs) {i : Int32} (hi : gok i 6 = true) (hd : decode cc pc = .ok (.iaload, 1)) (kk : W p l e R s m args below meth c H locs cells slots Q (F0 m (pc + 1) ls (.int (A 20 i.toNatClampNeg) :: rest))) : W p l e R s m args below meth c H locs cells slots Q (F0 m pc ls (.int i :: .ref (ad 20) :: rest)) :=
  va_iald S.1 S.2.1 K.1 w.1 20 0 (n := 6) (f := A 20) rfl rfl (gok_in hi) hd kk
theorem sM_20 (S : CallFix p m c cc nL s args zWs own) (K : ZK D cs s) (w : ZW D A0 H0 (MW cs ad F A T) H locs) {i x : Int32} (hi : gok i 6 = true) (hd : decode cc pc = .ok (.iastore, 1)) (kk : ∀ (H1 : Heap) (locs1 : List Loc), ZW D A0 H0 (MW cs ad F (zst A 20 i.toNatClampNeg x) T) H1 locs1 → W p l e R s m args below meth c H1 locs1 cells slots Q (F0 m (pc + 1) ls rest)) : W p l e R s m args below meth c H locs cells slots Q (F0 m pc ls (.int x :: .int i :: .ref (ad 20) :: rest)) :=
  va_iast S.1 S.2.1 K.1 w.1 w.2.1 w.2.2 20 0 (n := 6) (f := A 20) rfl rfl (gok_in hi) hd (fun H1 locs1 h1 h2 h3 => kk H1 locs1 ⟨h1, h2, h3⟩)
end Z2
end
section
/-! contracts over a whole world: enter, leave, call -/
def zPre (D : va_G) (cs : Nat → ClassId) (ws : va_W) (sz : Nat) : State → Prop := fun U => U.heap.size = sz ∧ va_P D vwCl ws U.heap ∧ ZK D cs U ∧ va_D (fun _ => True) ws
def zB (WF : ZF → ZA → Int64 → va_W) (D : va_G) (A0 : Nat → Prop) : ZS → State → Prop := fun u t => va_P D vwCl (WF u.1 u.2.1 u.2.2) t.heap ∧ va_D A0 (WF u.1 u.2.1 u.2.2)
def zMi (l : Launch) (D : va_G) (cs : Nat → ClassId) (WF : ZF → ZA → Int64 → va_W) (y : MethodName) (cc : ByteArray) (n : Nat) (ret : Option FieldType) (rm : Room) (av : List Value) (F : ZF) (A : ZA) (T : Int64) (q : Int32 × ZS) (φ : Prop) : Prop :=
  ∀ sz : Nat, Met l y (.code y cc n ret :: zWs) rm (va_Pc av (zPre D cs (WF F A T) sz)) (va_Qi (fun r2 u => r2 = q.1 ∧ u = q.2 ∧ φ) (zB WF D (va_A (WF F A T) sz)) (va_A (WF F A T) sz)) 0 0 (va_A (WF F A T) sz)
def zMl (l : Launch) (D : va_G) (cs : Nat → ClassId) (WF : ZF → ZA → Int64 → va_W) (y : MethodName) (cc : ByteArray) (n : Nat) (ret : Option FieldType) (rm : Room) (av : List Value) (F : ZF) (A : ZA) (T : Int64) (q : Int64 × ZS) : Prop :=
  ∀ sz : Nat, Met l y (.code y cc n ret :: zWs) rm (va_Pc av (zPre D cs (WF F A T) sz)) (va_Ql (fun r2 u => r2 = q.1 ∧ u = q.2) (zB WF D (va_A (WF F A T) sz)) (va_A (WF F A T) sz)) 0 0 (va_A (WF F A T) sz)
def zMv (l : Launch) (D : va_G) (cs : Nat → ClassId) (WF : ZF → ZA → Int64 → va_W) (y : MethodName) (cc : ByteArray) (n : Nat) (ret : Option FieldType) (rm : Room) (av : List Value) (F : ZF) (A : ZA) (T : Int64) (q : ZS) : Prop :=
  ∀ sz : Nat, Met l y (.code y cc n ret :: zWs) rm (va_Pc av (zPre D cs (WF F A T) sz)) (va_Qv (fun u => u = q) (zB WF D (va_A (WF F A T) sz)) (va_A (WF F A T) sz)) 0 0 (va_A (WF F A T) sz)
def zQi (WF : ZF → ZA → Int64 → va_W) (D : va_G) (A0 : Nat → Prop) (below : List Frame) (av : List Value) (s : State) (q : Int32 × ZS) (φ : Prop) : State → Prop := MQ below (va_Qi (fun r2 u => r2 = q.1 ∧ u = q.2 ∧ φ) (zB WF D A0) A0) av.toArray s 0 0 A0
def zQl (WF : ZF → ZA → Int64 → va_W) (D : va_G) (A0 : Nat → Prop) (below : List Frame) (av : List Value) (s : State) (q : Int64 × ZS) : State → Prop := MQ below (va_Ql (fun r2 u => r2 = q.1 ∧ u = q.2) (zB WF D A0) A0) av.toArray s 0 0 A0
def zQv (WF : ZF → ZA → Int64 → va_W) (D : va_G) (A0 : Nat → Prop) (below : List Frame) (av : List Value) (s : State) (q : ZS) : State → Prop := MQ below (va_Qv (fun u => u = q) (zB WF D A0) A0) av.toArray s 0 0 A0
section Z3
variable {l : Launch} {D : va_G} {cs : Nat → ClassId} {WF : ZF → ZA → Int64 → va_W} {y : MethodName} {cc : ByteArray} {n : Nat} {ret : Option FieldType} {rm : Room} {av : List Value} {F : ZF} {A : ZA} {T : Int64}
theorem z_enteri {q : Int32 × ZS} {φ : Prop} (hy : plainName y.cls = true) (hn : (lg_sl av).length ≤ n) (body : ∀ (p : Program) (e : Env) (s : State) (m : MethodId) (below : List Frame) (meth : Method) (c : Code) (A0 : Nat → Prop) (ls : Array Slot), CallFix p m c cc n s av.toArray zWs y.cls → ZK D cs s → ZW D A0 s.heap (WF F A T) s.heap [] → (∀ q : Nat, s.heap.size ≤ q → A0 q) → meth.sig.returnType = ret → meth.locks = false → lv_has ls n (lv_args 0 av) → W p l e rm s m av.toArray below meth c s.heap [] 0 0 (zQi WF D A0 below av s q φ) (F0 m 0 ls [])) : zMi l D cs WF y cc n ret rm av F A T q φ := by
  intro sz
  refine Met.ofW (cc := cc) (maxL := n) (ret := ret) hy rfl ?_
  intro p e s m args below meth c s₁ B hml hv
  obtain ⟨rfl, rfl, hP, K, hD0⟩ := hv
  have hz : ∀ w ∈ zWs, w.before av.toArray s = true := fun w hw => atoms_spec (ws := .code y cc n ret :: zWs) B.pre w (List.mem_cons_of_mem _ hw)
  have hD := hD0.self (sz := s.heap.size)
  generalize hAe : va_A (WF F A T) s.heap.size = A0 at hD ⊢
  have hA : ∀ q : Nat, s.heap.size ≤ q → A0 q := fun q h => by rw [← hAe]; exact Or.inr h
  have hl := lv_entry av (n := n) hn
  rw [lg_entry_eq]
  exact body p e s m below meth c A0 _ ⟨B.exec, B.bytes, hml, findClass_of_methodNamed B.named, hz⟩ K ⟨hP, hD, va_S.rf⟩ hA B.returns B.notSynchronized hl
theorem z_enterl {q : Int64 × ZS} (hy : plainName y.cls = true) (hn : (lg_sl av).length ≤ n) (body : ∀ (p : Program) (e : Env) (s : State) (m : MethodId) (below : List Frame) (meth : Method) (c : Code) (A0 : Nat → Prop) (ls : Array Slot), CallFix p m c cc n s av.toArray zWs y.cls → ZK D cs s → ZW D A0 s.heap (WF F A T) s.heap [] → (∀ q : Nat, s.heap.size ≤ q → A0 q) → meth.sig.returnType = ret → meth.locks = false → lv_has ls n (lv_args 0 av) → W p l e rm s m av.toArray below meth c s.heap [] 0 0 (zQl WF D A0 below av s q) (F0 m 0 ls [])) : zMl l D cs WF y cc n ret rm av F A T q := by
  intro sz
  refine Met.ofW (cc := cc) (maxL := n) (ret := ret) hy rfl ?_
  intro p e s m args below meth c s₁ B hml hv
  obtain ⟨rfl, rfl, hP, K, hD0⟩ := hv
  have hz : ∀ w ∈ zWs, w.before av.toArray s = true := fun w hw => atoms_spec (ws := .code y cc n ret :: zWs) B.pre w (List.mem_cons_of_mem _ hw)
  have hD := hD0.self (sz := s.heap.size)
  generalize hAe : va_A (WF F A T) s.heap.size = A0 at hD ⊢
  have hA : ∀ q : Nat, s.heap.size ≤ q → A0 q := fun q h => by rw [← hAe]; exact Or.inr h
  have hl := lv_entry av (n := n) hn
  rw [lg_entry_eq]
  exact body p e s m below meth c A0 _ ⟨B.exec, B.bytes, hml, findClass_of_methodNamed B.named, hz⟩ K ⟨hP, hD, va_S.rf⟩ hA B.returns B.notSynchronized hl
theorem z_enterv {q : ZS} (hy : plainName y.cls = true) (hn : (lg_sl av).length ≤ n) (body : ∀ (p : Program) (e : Env) (s : State) (m : MethodId) (below : List Frame) (meth : Method) (c : Code) (A0 : Nat → Prop) (ls : Array Slot), CallFix p m c cc n s av.toArray zWs y.cls → ZK D cs s → ZW D A0 s.heap (WF F A T) s.heap [] → (∀ q : Nat, s.heap.size ≤ q → A0 q) → meth.sig.returnType = ret → meth.locks = false → lv_has ls n (lv_args 0 av) → W p l e rm s m av.toArray below meth c s.heap [] 0 0 (zQv WF D A0 below av s q) (F0 m 0 ls [])) : zMv l D cs WF y cc n ret rm av F A T q := by
  intro sz
  refine Met.ofW (cc := cc) (maxL := n) (ret := ret) hy rfl ?_
  intro p e s m args below meth c s₁ B hml hv
  obtain ⟨rfl, rfl, hP, K, hD0⟩ := hv
  have hz : ∀ w ∈ zWs, w.before av.toArray s = true := fun w hw => atoms_spec (ws := .code y cc n ret :: zWs) B.pre w (List.mem_cons_of_mem _ hw)
  have hD := hD0.self (sz := s.heap.size)
  generalize hAe : va_A (WF F A T) s.heap.size = A0 at hD ⊢
  have hA : ∀ q : Nat, s.heap.size ≤ q → A0 q := fun q h => by rw [← hAe]; exact Or.inr h
  have hl := lv_entry av (n := n) hn
  rw [lg_entry_eq]
  exact body p e s m below meth c A0 _ ⟨B.exec, B.bytes, hml, findClass_of_methodNamed B.named, hz⟩ K ⟨hP, hD, va_S.rf⟩ hA B.returns B.notSynchronized hl
end Z3
section Z4
variable {p : Program} {l : Launch} {e : Env} {R : Room} {s : State} {m : MethodId} {args : Array Value} {below : List Frame} {meth : Method} {c : Code} {H : Heap} {locs : List Loc} {cells slots : Nat} {Q : State → Prop} {cc : ByteArray} {pc nL : Nat} {ls : Array Slot} {rest : List Value} {own : String} {D : va_G} {cs : Nat → ClassId} {WF : ZF → ZA → Int64 → va_W} {A0 : Nat → Prop} {H0 : Heap} {F : ZF} {A : ZA} {T : Int64} {index : Nat} {av : List Value}
theorem z_reti {q : Int32 × ZS} {φ : Prop} {v : Int32} (S : CallFix p m c cc nL s av.toArray zWs own) (w : ZW D A0 s.heap (WF F A T) H locs) (hr : meth.sig.returnType = some .int) (hlk : meth.locks = false) (hd : decode cc pc = .ok (.ireturn, 1)) (hφ : φ) (hq : q = (v, F, A, T)) : W p l e R s m av.toArray below meth c H locs 0 0 (zQi WF D A0 below av s q φ) (F0 m pc ls [.int v]) := by
  subst hq
  exact W.iret S.1 S.2.1 hr (fun t ht hW => ⟨⟨v, (F, A, T), rfl, ⟨rfl, rfl, hφ⟩, by rw [ht]; exact w.1, w.2.1⟩, w.2.2.F ht⟩) w.2.2.2.2 hd hlk
theorem z_retz {q : Int32 × ZS} {v : Int32} (S : CallFix p m c cc nL s av.toArray zWs own) (w : ZW D A0 s.heap (WF F A T) H locs) (hr : meth.sig.returnType = some .boolean) (hlk : meth.locks = false) (hd : decode cc pc = .ok (.ireturn, 1)) (hv : v &&& 1 = v) (hq : q = (v, F, A, T)) : W p l e R s m av.toArray below meth c H locs 0 0 (zQi WF D A0 below av s q (q.1 &&& 1 = q.1)) (F0 m pc ls [.int v]) := by
  subst hq
  exact W.zret S.1 S.2.1 hr (og_n hv) (fun t ht hW => ⟨⟨v, (F, A, T), rfl, ⟨rfl, rfl, hv⟩, by rw [ht]; exact w.1, w.2.1⟩, w.2.2.F ht⟩) w.2.2.2.2 hd hlk
theorem z_retl {q : Int64 × ZS} {v : Int64} (S : CallFix p m c cc nL s av.toArray zWs own) (w : ZW D A0 s.heap (WF F A T) H locs) (hr : meth.sig.returnType = some .long) (hlk : meth.locks = false) (hd : decode cc pc = .ok (.lreturn, 1)) (hq : q = (v, F, A, T)) : W p l e R s m av.toArray below meth c H locs 0 0 (zQl WF D A0 below av s q) (F0 m pc ls [.long v]) := by
  subst hq
  exact W.lret S.1 S.2.1 hr (fun t ht hW => ⟨⟨v, (F, A, T), rfl, ⟨rfl, rfl⟩, by rw [ht]; exact w.1, w.2.1⟩, w.2.2.F ht⟩) w.2.2.2.2 hd hlk
theorem z_retv {q : ZS} (S : CallFix p m c cc nL s av.toArray zWs own) (w : ZW D A0 s.heap (WF F A T) H locs) (hr : meth.sig.returnType = none) (hlk : meth.locks = false) (hd : decode cc pc = .ok (.return_, 1)) (hq : q = (F, A, T)) : W p l e R s m av.toArray below meth c H locs 0 0 (zQv WF D A0 below av s q) (F0 m pc ls []) := by
  subst hq
  exact W.vret S.1 S.2.1 hr (fun t ht hW => ⟨⟨(F, A, T), rfl, rfl, by rw [ht]; exact w.1, w.2.1⟩, w.2.2.F ht⟩) w.2.2.2.2 hd hlk
theorem z_free {ws : va_W} (w : ZW D A0 H0 ws H locs) (hA : ∀ q : Nat, H0.size ≤ q → A0 q) : ∀ q : Nat, va_A ws H.size q → A0 q := by
  intro q h
  rcases h with ⟨k, e, hk⟩ | h
  · exact w.2.1.2 k _ hk
  · exact hA q (Nat.le_trans w.2.2.1 h)
theorem z_blind {ws : va_W} {sz : Nat} : FrameBlind (va_Pc av (zPre D cs ws sz)) := by
  intro a U g mk h
  obtain ⟨h1, h2, h3, ⟨h4, h5⟩, h6⟩ := h
  exact ⟨h1, h2, h3, ⟨va_K.moved (u := U) (U := U.calling g mk a) (Vm.Alike.refl U.vm) h4, zNw.same (s := U) (U := U.calling g mk a) rfl h5⟩, h6⟩
theorem z_pre {ws : va_W} (K : ZK D cs s) (w : ZW D A0 H0 ws H locs) : ∀ U : State, U.heap = H → s.WarmedH U.vm → va_Pc av (zPre D cs ws H.size) av.toArray U := by
  intro U hU hW
  exact ⟨rfl, by rw [hU], by rw [hU]; exact w.1, ⟨va_K.moved hW.alike K.1, zNw.warm hW K.2⟩, w.2.1.weaken (fun _ _ _ _ => trivial)⟩
variable {y : MethodName} {bytes : ByteArray} {maxL n : Nat} {ret : Option FieldType} {rm : Room} {C host : String} {b : Nat} {As st0 : List Value}
theorem z_callVi {q : Int32 × ZS} {φ : Prop} (S : CallFix p m c cc nL s args zWs own) (K : ZK D cs s) (w : ZW D A0 H0 (WF F A T) H locs) (hA : ∀ q : Nat, H0.size ≤ q → A0 q) (hM : zMi l D cs WF y bytes maxL ret rm (.ref b :: As) F A T q φ) (cw : CallW R s args own C index y bytes maxL ret (.code y bytes maxL ret :: zWs) rm 0 0 n) (hrec : ∃ cell : Cell, H[b]? = some cell ∧ cell.vm.isStatics = false ∧ s.vm.findClass C = some cell.cls) (hn : As.length = n) (hsz : ls.size = nL) (hst : st0 = As.reverse ++ .ref b :: rest) (hW : (rest.map fun v => v.category).sum ≤ 8) (hf : cells ≤ R.cells ∧ slots ≤ R.slots) (hd : decode cc pc = .ok (.invokevirtual index, 3))
    (kk : φ → ∀ (H1 : Heap) (locs1 : List Loc), ZW D A0 H0 (WF q.2.1 q.2.2.1 q.2.2.2) H1 locs1 → W p l e R s m args below meth c H1 locs1 cells slots Q (F0 m (pc + 3) ls (.int q.1 :: rest))) : W p l e R s m args below meth c H locs cells slots Q (F0 m pc ls st0) := by
  have hF := z_free w hA
  refine va_calli (va_runV S (hM H.size) cw ⟨z_blind, hrec, z_pre K w⟩ rfl hn hsz hst (lv_room hW) hd hf) w.2.2 (fun q _ h => hF q h) hF (fun r u t H1 locs1 ht hvm hw hB hz1 hk1 hS => ?_)
  obtain ⟨rfl, rfl, hφ⟩ := hw
  exact kk hφ H1 locs1 ⟨by rw [← ht]; exact hB.1, hB.2.weaken (fun _ _ _ h => hF _ h), hS⟩
theorem z_callVv {q : ZS} (S : CallFix p m c cc nL s args zWs own) (K : ZK D cs s) (w : ZW D A0 H0 (WF F A T) H locs) (hA : ∀ q : Nat, H0.size ≤ q → A0 q) (hM : zMv l D cs WF y bytes maxL ret rm (.ref b :: As) F A T q) (cw : CallW R s args own C index y bytes maxL ret (.code y bytes maxL ret :: zWs) rm 0 0 n) (hrec : ∃ cell : Cell, H[b]? = some cell ∧ cell.vm.isStatics = false ∧ s.vm.findClass C = some cell.cls) (hn : As.length = n) (hsz : ls.size = nL) (hst : st0 = As.reverse ++ .ref b :: rest) (hW : (rest.map fun v => v.category).sum ≤ 8) (hf : cells ≤ R.cells ∧ slots ≤ R.slots) (hd : decode cc pc = .ok (.invokevirtual index, 3))
    (kk : ∀ (H1 : Heap) (locs1 : List Loc), ZW D A0 H0 (WF q.1 q.2.1 q.2.2) H1 locs1 → W p l e R s m args below meth c H1 locs1 cells slots Q (F0 m (pc + 3) ls rest)) : W p l e R s m args below meth c H locs cells slots Q (F0 m pc ls st0) := by
  have hF := z_free w hA
  refine va_callv (va_runV S (hM H.size) cw ⟨z_blind, hrec, z_pre K w⟩ rfl hn hsz hst (lv_room hW) hd hf) w.2.2 (fun q _ h => hF q h) hF (fun u t H1 locs1 ht hvm hw hB hz1 hk1 hS => ?_)
  obtain rfl := hw
  exact kk H1 locs1 ⟨by rw [← ht]; exact hB.1, hB.2.weaken (fun _ _ _ h => hF _ h), hS⟩
theorem z_callVl {q : Int64 × ZS} (S : CallFix p m c cc nL s args zWs own) (K : ZK D cs s) (w : ZW D A0 H0 (WF F A T) H locs) (hA : ∀ q : Nat, H0.size ≤ q → A0 q) (hM : zMl l D cs WF y bytes maxL ret rm (.ref b :: As) F A T q) (cw : CallW R s args own C index y bytes maxL ret (.code y bytes maxL ret :: zWs) rm 0 0 n) (hrec : ∃ cell : Cell, H[b]? = some cell ∧ cell.vm.isStatics = false ∧ s.vm.findClass C = some cell.cls) (hn : As.length = n) (hsz : ls.size = nL) (hst : st0 = As.reverse ++ .ref b :: rest) (hW : (rest.map fun v => v.category).sum ≤ 8) (hf : cells ≤ R.cells ∧ slots ≤ R.slots) (hd : decode cc pc = .ok (.invokevirtual index, 3))
    (kk : ∀ (H1 : Heap) (locs1 : List Loc), ZW D A0 H0 (WF q.2.1 q.2.2.1 q.2.2.2) H1 locs1 → W p l e R s m args below meth c H1 locs1 cells slots Q (F0 m (pc + 3) ls (.long q.1 :: rest))) : W p l e R s m args below meth c H locs cells slots Q (F0 m pc ls st0) := by
  have hF := z_free w hA
  refine va_calll (va_runV S (hM H.size) cw ⟨z_blind, hrec, z_pre K w⟩ rfl hn hsz hst (lv_room hW) hd hf) w.2.2 (fun q _ h => hF q h) hF (fun r u t H1 locs1 ht hvm hw hB hz1 hk1 hS => ?_)
  obtain ⟨rfl, rfl⟩ := hw
  exact kk H1 locs1 ⟨by rw [← ht]; exact hB.1, hB.2.weaken (fun _ _ _ h => hF _ h), hS⟩
theorem z_callSi {q : Int32 × ZS} {φ : Prop} (S : CallFix p m c cc nL s args zWs own) (K : ZK D cs s) (w : ZW D A0 H0 (WF F A T) H locs) (hA : ∀ q : Nat, H0.size ≤ q → A0 q) (hM : zMi l D cs WF y bytes maxL ret rm As F A T q φ) (cw : CallB R s args own index y bytes maxL ret (.code y bytes maxL ret :: zWs) rm 0 0 n ∧ (Cond.static y).before args s = true) (hn : As.length = n) (hsz : ls.size = nL) (hst : st0 = As.reverse ++ rest) (hW : (rest.map fun v => v.category).sum ≤ 8) (hf : cells ≤ R.cells ∧ slots ≤ R.slots) (hd : decode cc pc = .ok (.invokestatic index, 3))
    (kk : φ → ∀ (H1 : Heap) (locs1 : List Loc), ZW D A0 H0 (WF q.2.1 q.2.2.1 q.2.2.2) H1 locs1 → W p l e R s m args below meth c H1 locs1 cells slots Q (F0 m (pc + 3) ls (.int q.1 :: rest))) : W p l e R s m args below meth c H locs cells slots Q (F0 m pc ls st0) := by
  have hF := z_free w hA
  refine va_calli (va_runS S (hM H.size) cw ⟨z_blind, z_pre K w⟩ rfl hn hsz hst (lv_room hW) hd hf) w.2.2 (fun q _ h => hF q h) hF (fun r u t H1 locs1 ht hvm hw hB hz1 hk1 hS => ?_)
  obtain ⟨rfl, rfl, hφ⟩ := hw
  exact kk hφ H1 locs1 ⟨by rw [← ht]; exact hB.1, hB.2.weaken (fun _ _ _ h => hF _ h), hS⟩
theorem z_callNi {q : Int32 × ZS} {φ : Prop} (S : CallFix p m c cc nL s args zWs own) (K : ZK D cs s) (w : ZW D A0 H0 (WF F A T) H locs) (hA : ∀ q : Nat, H0.size ≤ q → A0 q) (hM : zMi l D cs WF y bytes maxL ret rm As F A T q φ) (cw : va_CN R s args own index y host bytes maxL ret (.code y bytes maxL ret :: zWs) rm 0 0 n ∧ (Cond.static y).before args s = true ∧ True) (hn : As.length = n) (hsz : ls.size = nL) (hst : st0 = As.reverse ++ rest) (hW : (rest.map fun v => v.category).sum ≤ 8) (hf : cells ≤ R.cells ∧ slots ≤ R.slots) (hd : decode cc pc = .ok (.invokestatic index, 3))
    (kk : φ → ∀ (H1 : Heap) (locs1 : List Loc), ZW D A0 H0 (WF q.2.1 q.2.2.1 q.2.2.2) H1 locs1 → W p l e R s m args below meth c H1 locs1 cells slots Q (F0 m (pc + 3) ls (.int q.1 :: rest))) : W p l e R s m args below meth c H locs cells slots Q (F0 m pc ls st0) := by
  have hF := z_free w hA
  refine va_calli (va_runSN S (hM H.size) cw ⟨z_blind, z_pre K w⟩ rfl hn hsz hst (lv_room hW) hd hf) w.2.2 (fun q _ h => hF q h) hF (fun r u t H1 locs1 ht hvm hw hB hz1 hk1 hS => ?_)
  obtain ⟨rfl, rfl, hφ⟩ := hw
  exact kk hφ H1 locs1 ⟨by rw [← ht]; exact hB.1, hB.2.weaken (fun _ _ _ h => hF _ h), hS⟩
end Z4
section Z5
variable {p : Program} {l : Launch} {e : Env} {R : Room} {s : State} {m : MethodId} {args : Array Value} {below : List Frame} {meth : Method} {c : Code} {H : Heap} {locs : List Loc} {cells slots : Nat} {Q : State → Prop} {cc : ByteArray} {pc nL : Nat} {ls : Array Slot} {rest : List Value} {own : String} {D : va_G} {cs : Nat → ClassId} {ad : Nat → Nat} {WF : ZF → ZA → Int64 → va_W} {A0 : Nat → Prop} {H0 : Heap} {F : ZF} {A : ZA} {T : Int64} {index : Nat} {av : List Value}
variable {y : MethodName} {bytes : ByteArray} {maxL n : Nat} {ret : Option FieldType} {rm : Room} {C host : String} {b : Nat} {As st0 : List Value}
theorem z_callVr {r : Int32} {φ : Prop} (S : CallFix p m c cc nL s args zWs own) (K : ZK D cs s) (w : ZW D A0 H0 (WF F A T) H locs) (hA : ∀ q : Nat, H0.size ≤ q → A0 q) (hM : zMi l D cs WF y bytes maxL ret rm (.ref b :: As) F A T (r, F, A, T) φ) (cw : CallW R s args own C index y bytes maxL ret (.code y bytes maxL ret :: zWs) rm 0 0 n) (hrec : ∃ cell : Cell, H[b]? = some cell ∧ cell.vm.isStatics = false ∧ s.vm.findClass C = some cell.cls) (hn : As.length = n) (hsz : ls.size = nL) (hst : st0 = As.reverse ++ .ref b :: rest) (hW : (rest.map fun v => v.category).sum ≤ 8) (hf : cells ≤ R.cells ∧ slots ≤ R.slots) (hd : decode cc pc = .ok (.invokevirtual index, 3))
    (kk : φ → ∀ (H1 : Heap) (locs1 : List Loc), ZW D A0 H0 (WF F A T) H1 locs1 → W p l e R s m args below meth c H1 locs1 cells slots Q (F0 m (pc + 3) ls (.int r :: rest))) : W p l e R s m args below meth c H locs cells slots Q (F0 m pc ls st0) := z_callVi S K w hA hM cw hrec hn hsz hst hW hf hd kk
theorem z_callSr {r : Int32} {φ : Prop} (S : CallFix p m c cc nL s args zWs own) (K : ZK D cs s) (w : ZW D A0 H0 (WF F A T) H locs) (hA : ∀ q : Nat, H0.size ≤ q → A0 q) (hM : zMi l D cs WF y bytes maxL ret rm As F A T (r, F, A, T) φ) (cw : CallB R s args own index y bytes maxL ret (.code y bytes maxL ret :: zWs) rm 0 0 n ∧ (Cond.static y).before args s = true) (hn : As.length = n) (hsz : ls.size = nL) (hst : st0 = As.reverse ++ rest) (hW : (rest.map fun v => v.category).sum ≤ 8) (hf : cells ≤ R.cells ∧ slots ≤ R.slots) (hd : decode cc pc = .ok (.invokestatic index, 3))
    (kk : φ → ∀ (H1 : Heap) (locs1 : List Loc), ZW D A0 H0 (WF F A T) H1 locs1 → W p l e R s m args below meth c H1 locs1 cells slots Q (F0 m (pc + 3) ls (.int r :: rest))) : W p l e R s m args below meth c H locs cells slots Q (F0 m pc ls st0) := z_callSi S K w hA hM cw hn hsz hst hW hf hd kk
theorem z_callNr {r : Int32} {φ : Prop} (S : CallFix p m c cc nL s args zWs own) (K : ZK D cs s) (w : ZW D A0 H0 (WF F A T) H locs) (hA : ∀ q : Nat, H0.size ≤ q → A0 q) (hM : zMi l D cs WF y bytes maxL ret rm As F A T (r, F, A, T) φ) (cw : va_CN R s args own index y host bytes maxL ret (.code y bytes maxL ret :: zWs) rm 0 0 n ∧ (Cond.static y).before args s = true ∧ True) (hn : As.length = n) (hsz : ls.size = nL) (hst : st0 = As.reverse ++ rest) (hW : (rest.map fun v => v.category).sum ≤ 8) (hf : cells ≤ R.cells ∧ slots ≤ R.slots) (hd : decode cc pc = .ok (.invokestatic index, 3))
    (kk : φ → ∀ (H1 : Heap) (locs1 : List Loc), ZW D A0 H0 (WF F A T) H1 locs1 → W p l e R s m args below meth c H1 locs1 cells slots Q (F0 m (pc + 3) ls (.int r :: rest))) : W p l e R s m args below meth c H locs cells slots Q (F0 m pc ls st0) := z_callNi S K w hA hM cw hn hsz hst hW hf hd kk
theorem rX_4_0 {td dr : Nat} (S : CallFix p m c cc nL s args zWs own) (K : ZK D cs s) (w : ZW D A0 H0 (XWc cs ad td dr F A T) H locs) {i : Int32} (hi : i = 0) (hd : decode cc pc = .ok (.aaload, 1)) (kk : W p l e R s m args below meth c H locs cells slots Q (F0 m (pc + 1) ls (.ref (ad 19) :: rest))) : W p l e R s m args below meth c H locs cells slots Q (F0 m pc ls (.int i :: .ref (ad 4) :: rest)) := by
  subst hi
  exact va_aldq S.1 S.2.1 K.1 w.1 4 4 (n := 2) (f := zIm ad) rfl rfl (gok_in (by decide)) hd kk
theorem rX_4_1 {td dr : Nat} (S : CallFix p m c cc nL s args zWs own) (K : ZK D cs s) (w : ZW D A0 H0 (XWc cs ad td dr F A T) H locs) {i : Int32} (hi : i = 1) (hd : decode cc pc = .ok (.aaload, 1)) (kk : W p l e R s m args below meth c H locs cells slots Q (F0 m (pc + 1) ls (.ref (ad 20) :: rest))) : W p l e R s m args below meth c H locs cells slots Q (F0 m pc ls (.int i :: .ref (ad 4) :: rest)) := by
  subst hi
  exact va_aldq S.1 S.2.1 K.1 w.1 4 4 (n := 2) (f := zIm ad) rfl rfl (gok_in (by decide)) hd kk
end Z5
theorem rX_6_0 {p : Program} {l : Launch} {e : Env} {R : Room} {s : State} {m : MethodId} {args : Array Value} {below : List Frame} {meth : Method} {c : Code} {H : Heap} {locs : List Loc} {cells slots : Nat} {Q : State → Prop} {cc : ByteArray} {pc nL : Nat} {ls : Array Slot} {rest : List Value} {own : String} {D : va_G} {cs : Nat → ClassId} {ad : Nat → Nat} {A0 : Nat → Prop} {H0 : Heap} {F : ZF} {A : ZA} {T : Int64} {td dr : Nat} (S : CallFix p m c cc nL s args zWs own) (K : ZK D cs s) (w : ZW D A0 H0 (XWc cs ad td dr F A T) H locs) {i : Int32} (hi : i = 0) (hd : decode cc pc = .ok (.aaload, 1)) (kk : W p l e R s m args below meth c H locs cells slots Q (F0 m (pc + 1) ls (.ref (ad 23) :: rest))) : W p l e R s m args below meth c H locs cells slots Q (F0 m pc ls (.int i :: .ref (ad 6) :: rest)) := by
  subst hi
  exact va_aldq S.1 S.2.1 K.1 w.1 6 3 (n := 6) (f := zKd ad) rfl rfl (gok_in (by decide)) hd kk
theorem rX_6_1 {p : Program} {l : Launch} {e : Env} {R : Room} {s : State} {m : MethodId} {args : Array Value} {below : List Frame} {meth : Method} {c : Code} {H : Heap} {locs : List Loc} {cells slots : Nat} {Q : State → Prop} {cc : ByteArray} {pc nL : Nat} {ls : Array Slot} {rest : List Value} {own : String} {D : va_G} {cs : Nat → ClassId} {ad : Nat → Nat} {A0 : Nat → Prop} {H0 : Heap} {F : ZF} {A : ZA} {T : Int64} {td dr : Nat} (S : CallFix p m c cc nL s args zWs own) (K : ZK D cs s) (w : ZW D A0 H0 (XWc cs ad td dr F A T) H locs) {i : Int32} (hi : i = 1) (hd : decode cc pc = .ok (.aaload, 1)) (kk : W p l e R s m args below meth c H locs cells slots Q (F0 m (pc + 1) ls (.ref (ad 24) :: rest))) : W p l e R s m args below meth c H locs cells slots Q (F0 m pc ls (.int i :: .ref (ad 6) :: rest)) := by
  subst hi
  exact va_aldq S.1 S.2.1 K.1 w.1 6 3 (n := 6) (f := zKd ad) rfl rfl (gok_in (by decide)) hd kk
theorem rX_6_2 {p : Program} {l : Launch} {e : Env} {R : Room} {s : State} {m : MethodId} {args : Array Value} {below : List Frame} {meth : Method} {c : Code} {H : Heap} {locs : List Loc} {cells slots : Nat} {Q : State → Prop} {cc : ByteArray} {pc nL : Nat} {ls : Array Slot} {rest : List Value} {own : String} {D : va_G} {cs : Nat → ClassId} {ad : Nat → Nat} {A0 : Nat → Prop} {H0 : Heap} {F : ZF} {A : ZA} {T : Int64} {td dr : Nat} (S : CallFix p m c cc nL s args zWs own) (K : ZK D cs s) (w : ZW D A0 H0 (XWc cs ad td dr F A T) H locs) {i : Int32} (hi : i = 2) (hd : decode cc pc = .ok (.aaload, 1)) (kk : W p l e R s m args below meth c H locs cells slots Q (F0 m (pc + 1) ls (.ref (ad 25) :: rest))) : W p l e R s m args below meth c H locs cells slots Q (F0 m pc ls (.int i :: .ref (ad 6) :: rest)) := by
  subst hi
  exact va_aldq S.1 S.2.1 K.1 w.1 6 3 (n := 6) (f := zKd ad) rfl rfl (gok_in (by decide)) hd kk
theorem rX_6_3 {p : Program} {l : Launch} {e : Env} {R : Room} {s : State} {m : MethodId} {args : Array Value} {below : List Frame} {meth : Method} {c : Code} {H : Heap} {locs : List Loc} {cells slots : Nat} {Q : State → Prop} {cc : ByteArray} {pc nL : Nat} {ls : Array Slot} {rest : List Value} {own : String} {D : va_G} {cs : Nat → ClassId} {ad : Nat → Nat} {A0 : Nat → Prop} {H0 : Heap} {F : ZF} {A : ZA} {T : Int64} {td dr : Nat} (S : CallFix p m c cc nL s args zWs own) (K : ZK D cs s) (w : ZW D A0 H0 (XWc cs ad td dr F A T) H locs) {i : Int32} (hi : i = 3) (hd : decode cc pc = .ok (.aaload, 1)) (kk : W p l e R s m args below meth c H locs cells slots Q (F0 m (pc + 1) ls (.ref (ad 26) :: rest))) : W p l e R s m args below meth c H locs cells slots Q (F0 m pc ls (.int i :: .ref (ad 6) :: rest)) := by
  subst hi
  exact va_aldq S.1 S.2.1 K.1 w.1 6 3 (n := 6) (f := zKd ad) rfl rfl (gok_in (by decide)) hd kk
theorem rX_6_4 {p : Program} {l : Launch} {e : Env} {R : Room} {s : State} {m : MethodId} {args : Array Value} {below : List Frame} {meth : Method} {c : Code} {H : Heap} {locs : List Loc} {cells slots : Nat} {Q : State → Prop} {cc : ByteArray} {pc nL : Nat} {ls : Array Slot} {rest : List Value} {own : String} {D : va_G} {cs : Nat → ClassId} {ad : Nat → Nat} {A0 : Nat → Prop} {H0 : Heap} {F : ZF} {A : ZA} {T : Int64} {td dr : Nat} (S : CallFix p m c cc nL s args zWs own) (K : ZK D cs s) (w : ZW D A0 H0 (XWc cs ad td dr F A T) H locs) {i : Int32} (hi : i = 4) (hd : decode cc pc = .ok (.aaload, 1)) (kk : W p l e R s m args below meth c H locs cells slots Q (F0 m (pc + 1) ls (.ref (ad 27) :: rest))) : W p l e R s m args below meth c H locs cells slots Q (F0 m pc ls (.int i :: .ref (ad 6) :: rest)) := by
  subst hi
  exact va_aldq S.1 S.2.1 K.1 w.1 6 3 (n := 6) (f := zKd ad) rfl rfl (gok_in (by decide)) hd kk
theorem rX_6_5 {p : Program} {l : Launch} {e : Env} {R : Room} {s : State} {m : MethodId} {args : Array Value} {below : List Frame} {meth : Method} {c : Code} {H : Heap} {locs : List Loc} {cells slots : Nat} {Q : State → Prop} {cc : ByteArray} {pc nL : Nat} {ls : Array Slot} {rest : List Value} {own : String} {D : va_G} {cs : Nat → ClassId} {ad : Nat → Nat} {A0 : Nat → Prop} {H0 : Heap} {F : ZF} {A : ZA} {T : Int64} {td dr : Nat} (S : CallFix p m c cc nL s args zWs own) (K : ZK D cs s) (w : ZW D A0 H0 (XWc cs ad td dr F A T) H locs) {i : Int32} (hi : i = 5) (hd : decode cc pc = .ok (.aaload, 1)) (kk : W p l e R s m args below meth c H locs cells slots Q (F0 m (pc + 1) ls (.ref (ad 28) :: rest))) : W p l e R s m args below meth c H locs cells slots Q (F0 m pc ls (.int i :: .ref (ad 6) :: rest)) := by
  subst hi
  exact va_aldq S.1 S.2.1 K.1 w.1 6 3 (n := 6) (f := zKd ad) rfl rfl (gok_in (by decide)) hd kk
end
section
abbrev rm_X11_clear : Room := { frames := 0, cells := 0, slots := 0, locals := 0 }
abbrev rm_X11_in : Room := { frames := 0, cells := 0, slots := 0, locals := 0 }
abbrev rm_X11_isFact : Room := { frames := 1, cells := 0, slots := 0, locals := 22 }
abbrev rm_X11_fact : Room := { frames := 2, cells := 0, slots := 0, locals := 43 }
abbrev rm_X11_isSuspect : Room := { frames := 1, cells := 0, slots := 0, locals := 22 }
abbrev rm_X11_hoursOf : Room := { frames := 1, cells := 0, slots := 0, locals := 22 }
abbrev rm_X11_heldBy : Room := { frames := 2, cells := 0, slots := 0, locals := 47 }
abbrev rm_X11_hold : Room := { frames := 3, cells := 0, slots := 0, locals := 71 }
abbrev rm_X11_serve : Room := { frames := 0, cells := 0, slots := 0, locals := 0 }
abbrev rm_X11_asNow : Room := { frames := 4, cells := 0, slots := 0, locals := 93 }
abbrev rm_X11_suspect : Room := { frames := 5, cells := 0, slots := 0, locals := 113 }
abbrev rm_X10_clear : Room := { frames := 0, cells := 0, slots := 0, locals := 0 }
abbrev rm_X10_within : Room := { frames := 0, cells := 0, slots := 0, locals := 0 }
abbrev rm_X10_isFact : Room := { frames := 1, cells := 0, slots := 0, locals := 22 }
abbrev rm_X10_bit : Room := { frames := 0, cells := 0, slots := 0, locals := 0 }
abbrev rm_X10_fact : Room := { frames := 2, cells := 0, slots := 0, locals := 43 }
abbrev rm_X10_isAlibi : Room := { frames := 1, cells := 0, slots := 0, locals := 22 }
abbrev rm_X10_alibi : Room := { frames := 2, cells := 0, slots := 0, locals := 43 }
abbrev rm_X6_stepBack : Room := { frames := 0, cells := 0, slots := 0, locals := 0 }
abbrev rm_X10_undo : Room := { frames := 1, cells := 0, slots := 0, locals := 20 }
theorem w10 : Cond.selects RX10 yX10_isFact yX10_isFact ∈ zWs := z_at 10 (by decide +kernel) rfl
theorem w11 : Cond.selects RX10 yX10_isAlibi yX10_isAlibi ∈ zWs := z_at 11 (by decide +kernel) rfl
theorem w32 : Cond.selects RX11 yX11_isSuspect yX11_isSuspect ∈ zWs := z_at 32 (by decide +kernel) rfl
theorem w33 : Cond.selects RX11 yX11_asNow yX11_asNow ∈ zWs := z_at 33 (by decide +kernel) rfl
theorem w34 : Cond.selects RX11 yX11_hold yX11_hold ∈ zWs := z_at 34 (by decide +kernel) rfl
theorem w35 : Cond.selects RX11 yX11_heldBy yX11_heldBy ∈ zWs := z_at 35 (by decide +kernel) rfl
theorem w36 : Cond.selects RX11 yX11_hoursOf yX11_hoursOf ∈ zWs := z_at 36 (by decide +kernel) rfl
theorem w37 : Cond.selects RX11 yX11_serve yX11_serve ∈ zWs := z_at 37 (by decide +kernel) rfl
theorem w38 : Cond.selects RX11 yX11_isFact yX11_isFact ∈ zWs := z_at 38 (by decide +kernel) rfl
theorem w56 : Cond.initialized RX10 ∈ zWs := z_at 56 (by decide +kernel) rfl
theorem w59 : Cond.initialized RX6 ∈ zWs := z_at 59 (by decide +kernel) rfl
theorem w67 : Cond.initialized RX11 ∈ zWs := z_at 67 (by decide +kernel) rfl
theorem w87 : Cond.fieldLink RX10 94 "FifthsOfGuilt$TextReader" "size" "I" ∈ zWs := z_at 87 (by decide +kernel) rfl
theorem w152 : Cond.fieldLink RX6 15 "FifthsOfGuilt$Standing" "facts" "I" ∈ zWs := z_at 152 (by decide +kernel) rfl
theorem w154 : Cond.fieldLink RX10 135 "FifthsOfGuilt$Standing" "facts" "I" ∈ zWs := z_at 154 (by decide +kernel) rfl
theorem w155 : Cond.fieldLink RX6 19 "FifthsOfGuilt$Standing" "alibis" "I" ∈ zWs := z_at 155 (by decide +kernel) rfl
theorem w156 : Cond.fieldLink RX10 161 "FifthsOfGuilt$Standing" "alibis" "I" ∈ zWs := z_at 156 (by decide +kernel) rfl
theorem w157 : Cond.fieldLink RX6 22 "FifthsOfGuilt$Standing" "days" "I" ∈ zWs := z_at 157 (by decide +kernel) rfl
theorem w159 : Cond.fieldLink RX6 25 "FifthsOfGuilt$Standing" "known" "I" ∈ zWs := z_at 159 (by decide +kernel) rfl
theorem w160 : Cond.fieldLink RX10 172 "FifthsOfGuilt$Standing" "known" "I" ∈ zWs := z_at 160 (by decide +kernel) rfl
theorem w161 : Cond.fieldLink RX6 9 "FifthsOfGuilt$Standing" "before" "[I" ∈ zWs := z_at 161 (by decide +kernel) rfl
theorem w231 : Cond.fieldLink RX10 239 "FifthsOfGuilt$CaseFile" "facts" "I" ∈ zWs := z_at 231 (by decide +kernel) rfl
theorem w236 : Cond.fieldLink RX10 255 "FifthsOfGuilt$CaseFile" "alibis" "I" ∈ zWs := z_at 236 (by decide +kernel) rfl
theorem w253 : Cond.fieldLink RX10 129 "FifthsOfGuilt$CaseFile" "cost" "[I" ∈ zWs := z_at 253 (by decide +kernel) rfl
theorem w255 : Cond.fieldLink RX10 132 "FifthsOfGuilt$CaseFile" "trust" "[I" ∈ zWs := z_at 255 (by decide +kernel) rfl
theorem w263 : Cond.fieldLink RX10 149 "FifthsOfGuilt$CaseFile" "alibiOf" "[I" ∈ zWs := z_at 263 (by decide +kernel) rfl
theorem w265 : Cond.fieldLink RX10 152 "FifthsOfGuilt$CaseFile" "place" "[I" ∈ zWs := z_at 265 (by decide +kernel) rfl
theorem w268 : Cond.fieldLink RX10 155 "FifthsOfGuilt$CaseFile" "from" "[I" ∈ zWs := z_at 268 (by decide +kernel) rfl
theorem w271 : Cond.fieldLink RX10 158 "FifthsOfGuilt$CaseFile" "to" "[I" ∈ zWs := z_at 271 (by decide +kernel) rfl
theorem w311 : Cond.fieldLink RX10 10 "FifthsOfGuilt" "text" "LFifthsOfGuilt$TextReader;" ∈ zWs := z_at 311 (by decide +kernel) rfl
theorem w314 : Cond.fieldLink RX10 26 "FifthsOfGuilt" "present" "LFifthsOfGuilt$Standing;" ∈ zWs := z_at 314 (by decide +kernel) rfl
theorem w330 : Cond.fieldLink RX10 73 "FifthsOfGuilt" "told" "LFifthsOfGuilt$CaseFile;" ∈ zWs := z_at 330 (by decide +kernel) rfl
theorem w365 : Cond.methodLink RX10 90 yX10_within ∈ zWs := z_at 365 (by decide +kernel) rfl
theorem w366 : Cond.static yX10_within ∈ zWs := z_at 366 (by decide +kernel) rfl
theorem w367 : Cond.code yX10_within cX10_within 3 (some .boolean) ∈ zWs := z_at 367 (by decide +kernel) rfl
theorem w451 : Cond.static yX10_bit ∈ zWs := z_at 451 (by decide +kernel) rfl
theorem w452 : Cond.code yX10_bit cX10_bit 2 (some .int) ∈ zWs := z_at 452 (by decide +kernel) rfl
theorem w482 : Cond.methodLink RX10 126 yX10_isFact ∈ zWs := z_at 482 (by decide +kernel) rfl
theorem w484 : Cond.instanceMethod yX10_isFact ∈ zWs := z_at 484 (by decide +kernel) rfl
theorem w485 : Cond.code yX10_isFact cX10_isFact 2 (some .boolean) ∈ zWs := z_at 485 (by decide +kernel) rfl
theorem w486 : Cond.methodLink RX10 138 yX10_bit ∈ zWs := z_at 486 (by decide +kernel) rfl
theorem w496 : Cond.methodLink RX10 146 yX10_isAlibi ∈ zWs := z_at 496 (by decide +kernel) rfl
theorem w498 : Cond.instanceMethod yX10_isAlibi ∈ zWs := z_at 498 (by decide +kernel) rfl
theorem w499 : Cond.code yX10_isAlibi cX10_isAlibi 2 (some .boolean) ∈ zWs := z_at 499 (by decide +kernel) rfl
theorem w527 : Cond.methodLink RX10 175 yX6_stepBack ∈ zWs := z_at 527 (by decide +kernel) rfl
theorem w528 : Cond.instanceMethod yX6_stepBack ∈ zWs := z_at 528 (by decide +kernel) rfl
theorem w529 : Cond.selects RX6 yX6_stepBack yX6_stepBack ∈ zWs := z_at 529 (by decide +kernel) rfl
theorem w530 : Cond.code yX6_stepBack cX6_stepBack 1 none ∈ zWs := z_at 530 (by decide +kernel) rfl
theorem w730 : Cond.fieldLink RX11 76 "FifthsOfGuiltModel" "typed" "I" ∈ zWs := z_at 730 (by decide +kernel) rfl
theorem w731 : Cond.fieldLink RX11 13 "FifthsOfGuiltModel" "suspects" "[I" ∈ zWs := z_at 731 (by decide +kernel) rfl
theorem w732 : Cond.fieldLink RX11 17 "FifthsOfGuiltModel" "grudge" "[I" ∈ zWs := z_at 732 (by decide +kernel) rfl
theorem w733 : Cond.fieldLink RX11 20 "FifthsOfGuiltModel" "facts" "[I" ∈ zWs := z_at 733 (by decide +kernel) rfl
theorem w734 : Cond.fieldLink RX11 23 "FifthsOfGuiltModel" "cost" "[I" ∈ zWs := z_at 734 (by decide +kernel) rfl
theorem w735 : Cond.fieldLink RX11 26 "FifthsOfGuiltModel" "trust" "[I" ∈ zWs := z_at 735 (by decide +kernel) rfl
theorem w736 : Cond.fieldLink RX11 29 "FifthsOfGuiltModel" "moves" "[I" ∈ zWs := z_at 736 (by decide +kernel) rfl
theorem w737 : Cond.fieldLink RX11 32 "FifthsOfGuiltModel" "alibis" "[I" ∈ zWs := z_at 737 (by decide +kernel) rfl
theorem w738 : Cond.fieldLink RX11 35 "FifthsOfGuiltModel" "whose" "[I" ∈ zWs := z_at 738 (by decide +kernel) rfl
theorem w740 : Cond.fieldLink RX11 41 "FifthsOfGuiltModel" "from" "[I" ∈ zWs := z_at 740 (by decide +kernel) rfl
theorem w741 : Cond.fieldLink RX11 44 "FifthsOfGuiltModel" "to" "[I" ∈ zWs := z_at 741 (by decide +kernel) rfl
theorem w742 : Cond.fieldLink RX11 47 "FifthsOfGuiltModel" "deedFrom" "[I" ∈ zWs := z_at 742 (by decide +kernel) rfl
theorem w743 : Cond.fieldLink RX11 50 "FifthsOfGuiltModel" "deedTo" "[I" ∈ zWs := z_at 743 (by decide +kernel) rfl
theorem w752 : Cond.fieldLink RX11 53 "FifthsOfGuiltModel" "now" "[I" ∈ zWs := z_at 752 (by decide +kernel) rfl
theorem w754 : Cond.fieldLink RX11 60 "FifthsOfGuiltModel" "held" "[I" ∈ zWs := z_at 754 (by decide +kernel) rfl
theorem w755 : Cond.fieldLink RX11 141 "FifthsOfGuiltModel" "whole" "I" ∈ zWs := z_at 755 (by decide +kernel) rfl
theorem w756 : Cond.fieldLink RX11 63 "FifthsOfGuiltModel" "serves" "[I" ∈ zWs := z_at 756 (by decide +kernel) rfl
theorem w830 : Cond.methodLink RX11 72 yX11_in ∈ zWs := z_at 830 (by decide +kernel) rfl
theorem w831 : Cond.static yX11_in ∈ zWs := z_at 831 (by decide +kernel) rfl
theorem w832 : Cond.code yX11_in cX11_in 3 (some .boolean) ∈ zWs := z_at 832 (by decide +kernel) rfl
theorem w877 : Cond.methodLink RX11 153 yX11_isSuspect ∈ zWs := z_at 877 (by decide +kernel) rfl
theorem w879 : Cond.instanceMethod yX11_isSuspect ∈ zWs := z_at 879 (by decide +kernel) rfl
theorem w880 : Cond.code yX11_isSuspect cX11_isSuspect 2 (some .boolean) ∈ zWs := z_at 880 (by decide +kernel) rfl
theorem w881 : Cond.methodLink RX11 156 yX11_asNow ∈ zWs := z_at 881 (by decide +kernel) rfl
theorem w883 : Cond.instanceMethod yX11_asNow ∈ zWs := z_at 883 (by decide +kernel) rfl
theorem w884 : Cond.code yX11_asNow cX11_asNow 1 none ∈ zWs := z_at 884 (by decide +kernel) rfl
theorem w885 : Cond.methodLink RX11 147 yX11_hold ∈ zWs := z_at 885 (by decide +kernel) rfl
theorem w887 : Cond.instanceMethod yX11_hold ∈ zWs := z_at 887 (by decide +kernel) rfl
theorem w888 : Cond.code yX11_hold cX11_hold 3 none ∈ zWs := z_at 888 (by decide +kernel) rfl
theorem w889 : Cond.methodLink RX11 144 yX11_heldBy ∈ zWs := z_at 889 (by decide +kernel) rfl
theorem w891 : Cond.instanceMethod yX11_heldBy ∈ zWs := z_at 891 (by decide +kernel) rfl
theorem w892 : Cond.code yX11_heldBy cX11_heldBy 5 (some .int) ∈ zWs := z_at 892 (by decide +kernel) rfl
theorem w893 : Cond.methodLink RX11 137 yX11_hoursOf ∈ zWs := z_at 893 (by decide +kernel) rfl
theorem w895 : Cond.instanceMethod yX11_hoursOf ∈ zWs := z_at 895 (by decide +kernel) rfl
theorem w896 : Cond.code yX11_hoursOf cX11_hoursOf 6 (some .int) ∈ zWs := z_at 896 (by decide +kernel) rfl
theorem w897 : Cond.methodLink RX11 150 yX11_serve ∈ zWs := z_at 897 (by decide +kernel) rfl
theorem w899 : Cond.instanceMethod yX11_serve ∈ zWs := z_at 899 (by decide +kernel) rfl
theorem w900 : Cond.code yX11_serve cX11_serve 6 none ∈ zWs := z_at 900 (by decide +kernel) rfl
theorem w905 : Cond.methodLink RX11 159 yX11_isFact ∈ zWs := z_at 905 (by decide +kernel) rfl
theorem w907 : Cond.instanceMethod yX11_isFact ∈ zWs := z_at 907 (by decide +kernel) rfl
theorem w908 : Cond.code yX11_isFact cX11_isFact 2 (some .boolean) ∈ zWs := z_at 908 (by decide +kernel) rfl
theorem gk_0_2 : gok (0 : Int32) 2 = true := by decide +kernel
theorem gk_0_102 : gok (0 : Int32) 102 = true := by decide +kernel
theorem gk_1_102 : gok (1 : Int32) 102 = true := by decide +kernel
theorem gk_2_102 : gok (2 : Int32) 102 = true := by decide +kernel
theorem nz_10 : ¬ (10 : Int32) = 0 := by decide
theorem cw_X10_126 {R : Room} {s : State} {args : Array Value} (hz : ∀ w ∈ zWs, w.before args s = true) (hR : rm_X10_isFact.frames + 1 ≤ R.frames ∧ 8 + (2 + 11) + rm_X10_isFact.locals ≤ R.locals) : CallW R s args RX10 RX10 126 yX10_isFact cX10_isFact 2 (some .boolean) (.code yX10_isFact cX10_isFact 2 (some .boolean) :: zWs) rm_X10_isFact 0 0 1 :=
  cwV 1 hz (z_gV w482 w484 w10 w56 w485) rfl rfl rfl (by decide +kernel) hR
theorem cw_X10_138 {R : Room} {s : State} {args : Array Value} (hz : ∀ w ∈ zWs, w.before args s = true) (hR : rm_X10_bit.frames + 1 ≤ R.frames ∧ 8 + (2 + 11) + rm_X10_bit.locals ≤ R.locals) : CallB R s args RX10 138 yX10_bit cX10_bit 2 (some .int) (.code yX10_bit cX10_bit 2 (some .int) :: zWs) rm_X10_bit 0 0 2 ∧ (Cond.static yX10_bit).before args s = true :=
  va_cwS 2 hz (z_gS w486 w451 w56 w452) rfl rfl rfl (by decide +kernel) hR
theorem cw_X10_146 {R : Room} {s : State} {args : Array Value} (hz : ∀ w ∈ zWs, w.before args s = true) (hR : rm_X10_isAlibi.frames + 1 ≤ R.frames ∧ 8 + (2 + 11) + rm_X10_isAlibi.locals ≤ R.locals) : CallW R s args RX10 RX10 146 yX10_isAlibi cX10_isAlibi 2 (some .boolean) (.code yX10_isAlibi cX10_isAlibi 2 (some .boolean) :: zWs) rm_X10_isAlibi 0 0 1 :=
  cwV 1 hz (z_gV w496 w498 w11 w56 w499) rfl rfl rfl (by decide +kernel) hR
theorem cw_X10_175 {R : Room} {s : State} {args : Array Value} (hz : ∀ w ∈ zWs, w.before args s = true) (hR : rm_X6_stepBack.frames + 1 ≤ R.frames ∧ 8 + (1 + 11) + rm_X6_stepBack.locals ≤ R.locals) : CallW R s args RX10 RX6 175 yX6_stepBack cX6_stepBack 1 none (.code yX6_stepBack cX6_stepBack 1 none :: zWs) rm_X6_stepBack 0 0 0 :=
  cwV 0 hz (z_gV w527 w528 w529 w59 w530) rfl rfl rfl (by decide +kernel) hR
theorem cw_X10_90 {R : Room} {s : State} {args : Array Value} (hz : ∀ w ∈ zWs, w.before args s = true) (hR : rm_X10_within.frames + 1 ≤ R.frames ∧ 8 + (3 + 11) + rm_X10_within.locals ≤ R.locals) : CallB R s args RX10 90 yX10_within cX10_within 3 (some .boolean) (.code yX10_within cX10_within 3 (some .boolean) :: zWs) rm_X10_within 0 0 3 ∧ (Cond.static yX10_within).before args s = true :=
  va_cwS 3 hz (z_gS w365 w366 w56 w367) rfl rfl rfl (by decide +kernel) hR
theorem cw_X11_137 {R : Room} {s : State} {args : Array Value} (hz : ∀ w ∈ zWs, w.before args s = true) (hR : rm_X11_hoursOf.frames + 1 ≤ R.frames ∧ 8 + (6 + 11) + rm_X11_hoursOf.locals ≤ R.locals) : CallW R s args RX11 RX11 137 yX11_hoursOf cX11_hoursOf 6 (some .int) (.code yX11_hoursOf cX11_hoursOf 6 (some .int) :: zWs) rm_X11_hoursOf 0 0 1 :=
  cwV 1 hz (z_gV w893 w895 w36 w67 w896) rfl rfl rfl (by decide +kernel) hR
theorem cw_X11_144 {R : Room} {s : State} {args : Array Value} (hz : ∀ w ∈ zWs, w.before args s = true) (hR : rm_X11_heldBy.frames + 1 ≤ R.frames ∧ 8 + (5 + 11) + rm_X11_heldBy.locals ≤ R.locals) : CallW R s args RX11 RX11 144 yX11_heldBy cX11_heldBy 5 (some .int) (.code yX11_heldBy cX11_heldBy 5 (some .int) :: zWs) rm_X11_heldBy 0 0 2 :=
  cwV 2 hz (z_gV w889 w891 w35 w67 w892) rfl rfl rfl (by decide +kernel) hR
theorem cw_X11_147 {R : Room} {s : State} {args : Array Value} (hz : ∀ w ∈ zWs, w.before args s = true) (hR : rm_X11_hold.frames + 1 ≤ R.frames ∧ 8 + (3 + 11) + rm_X11_hold.locals ≤ R.locals) : CallW R s args RX11 RX11 147 yX11_hold cX11_hold 3 none (.code yX11_hold cX11_hold 3 none :: zWs) rm_X11_hold 0 0 1 :=
  cwV 1 hz (z_gV w885 w887 w34 w67 w888) rfl rfl rfl (by decide +kernel) hR
theorem cw_X11_150 {R : Room} {s : State} {args : Array Value} (hz : ∀ w ∈ zWs, w.before args s = true) (hR : rm_X11_serve.frames + 1 ≤ R.frames ∧ 8 + (6 + 11) + rm_X11_serve.locals ≤ R.locals) : CallW R s args RX11 RX11 150 yX11_serve cX11_serve 6 none (.code yX11_serve cX11_serve 6 none :: zWs) rm_X11_serve 0 0 0 :=
  cwV 0 hz (z_gV w897 w899 w37 w67 w900) rfl rfl rfl (by decide +kernel) hR
theorem cw_X11_153 {R : Room} {s : State} {args : Array Value} (hz : ∀ w ∈ zWs, w.before args s = true) (hR : rm_X11_isSuspect.frames + 1 ≤ R.frames ∧ 8 + (2 + 11) + rm_X11_isSuspect.locals ≤ R.locals) : CallW R s args RX11 RX11 153 yX11_isSuspect cX11_isSuspect 2 (some .boolean) (.code yX11_isSuspect cX11_isSuspect 2 (some .boolean) :: zWs) rm_X11_isSuspect 0 0 1 :=
  cwV 1 hz (z_gV w877 w879 w32 w67 w880) rfl rfl rfl (by decide +kernel) hR
theorem cw_X11_156 {R : Room} {s : State} {args : Array Value} (hz : ∀ w ∈ zWs, w.before args s = true) (hR : rm_X11_asNow.frames + 1 ≤ R.frames ∧ 8 + (1 + 11) + rm_X11_asNow.locals ≤ R.locals) : CallW R s args RX11 RX11 156 yX11_asNow cX11_asNow 1 none (.code yX11_asNow cX11_asNow 1 none :: zWs) rm_X11_asNow 0 0 0 :=
  cwV 0 hz (z_gV w881 w883 w33 w67 w884) rfl rfl rfl (by decide +kernel) hR
theorem cw_X11_159 {R : Room} {s : State} {args : Array Value} (hz : ∀ w ∈ zWs, w.before args s = true) (hR : rm_X11_isFact.frames + 1 ≤ R.frames ∧ 8 + (2 + 11) + rm_X11_isFact.locals ≤ R.locals) : CallW R s args RX11 RX11 159 yX11_isFact cX11_isFact 2 (some .boolean) (.code yX11_isFact cX11_isFact 2 (some .boolean) :: zWs) rm_X11_isFact 0 0 1 :=
  cwV 1 hz (z_gV w905 w907 w38 w67 w908) rfl rfl rfl (by decide +kernel) hR
theorem cw_X11_72 {R : Room} {s : State} {args : Array Value} (hz : ∀ w ∈ zWs, w.before args s = true) (hR : rm_X11_in.frames + 1 ≤ R.frames ∧ 8 + (3 + 11) + rm_X11_in.locals ≤ R.locals) : CallB R s args RX11 72 yX11_in cX11_in 3 (some .boolean) (.code yX11_in cX11_in 3 (some .boolean) :: zWs) rm_X11_in 0 0 3 ∧ (Cond.static yX11_in).before args s = true :=
  va_cwS 3 hz (z_gS w830 w831 w67 w832) rfl rfl rfl (by decide +kernel) hR
end
section
noncomputable def f_X11_clear (F : ZF) (A : ZA) (T : Int64) : Option (Int32 × ZS) :=
  (some ((F 0), (upd F 0 (0 : Int32)), A, T))
noncomputable def f_X11_in (a0 a1 a2 : Int32) : Int32 :=
  (if a0 < a1 then ((0 : Int32)) else (if a2 < a0 then ((0 : Int32)) else ((1 : Int32))))
noncomputable def f_X11_isFact (a0 : Int32) (F : ZF) (A : ZA) (T : Int64) : Int32 :=
  ((f_X11_in a0 (0 : Int32) ((A 4 ((0 : Int32)).toNatClampNeg) - (1 : Int32))))
noncomputable def f_X11_fact (a0 a1 : Int32) (F : ZF) (A : ZA) (T : Int64) : Option Int32 :=
  (if (f_X11_isFact a0 F A T) = 0 then (some (-1 : Int32)) else (if a1 = 0 then (if gok a0 16 = true then (some (A 5 (a0).toNatClampNeg)) else none) else (if a1 = (1 : Int32) then (if gok a0 16 = true then (some (A 6 (a0).toNatClampNeg)) else none) else (if a1 = (2 : Int32) then (some (((A 15 ((0 : Int32)).toNatClampNeg) >>> (a0 &&& 31)) &&& (1 : Int32))) else (some (-1 : Int32))))))
noncomputable def f_X11_isSuspect (a0 : Int32) (F : ZF) (A : ZA) (T : Int64) : Int32 :=
  ((f_X11_in a0 (0 : Int32) ((A 2 ((0 : Int32)).toNatClampNeg) - (1 : Int32))))
noncomputable def f_X11_hoursOf_112 (F : ZF) (A : ZA) (T : Int64) (K9 : Int32 → Int32 → Int32 → Option Int32) (x1 x3 y0 y1 : Int32) : Option Int32 :=
  (K9 x1 (y1 + y0) (x3 + (1 : Int32)))
noncomputable def f_X11_hoursOf_25 (F : ZF) (A : ZA) (T : Int64) (K9 : Int32 → Int32 → Int32 → Option Int32) (n : Nat) : Int32 → Int32 → Int32 → Int32 → Int32 → Option Int32 :=
  @Nat.rec (fun _ => Int32 → Int32 → Int32 → Int32 → Int32 → Option Int32) (fun _ _ _ _ _ => none) (fun _ K25 x1 x2 x3 x4 x5 =>
  (if (A 8 ((0 : Int32)).toNatClampNeg) ≤ x5 then (if x4 = 0 then (f_X11_hoursOf_112 F A T K9 x1 x3 (0 : Int32) x2) else (f_X11_hoursOf_112 F A T K9 x1 x3 (1 : Int32) x2)) else (if x4 = 0 then (if (((A 15 ((1 : Int32)).toNatClampNeg) >>> (x5 &&& 31)) &&& (1 : Int32)) = (1 : Int32) then (if gok x5 16 = true then (if (A 9 (x5).toNatClampNeg) = x1 then (if gok x5 16 = true then (if gok x5 16 = true then (if (f_X11_in x3 (A 11 (x5).toNatClampNeg) (A 12 (x5).toNatClampNeg)) = 0 then (K25 x1 x2 x3 (0 : Int32) (x5 + (1 : Int32))) else (K25 x1 x2 x3 (1 : Int32) (x5 + (1 : Int32)))) else none) else none) else (K25 x1 x2 x3 (0 : Int32) (x5 + (1 : Int32)))) else none) else (K25 x1 x2 x3 (0 : Int32) (x5 + (1 : Int32)))) else (K25 x1 x2 x3 (1 : Int32) (x5 + (1 : Int32)))))) n
theorem f_X11_hoursOf_25_s (F : ZF) (A : ZA) (T : Int64) (K9 : Int32 → Int32 → Int32 → Option Int32) (n : Nat) (x1 x2 x3 x4 x5 : Int32) : f_X11_hoursOf_25 F A T K9 (n + 1) x1 x2 x3 x4 x5 =
  (if (A 8 ((0 : Int32)).toNatClampNeg) ≤ x5 then (if x4 = 0 then (f_X11_hoursOf_112 F A T K9 x1 x3 (0 : Int32) x2) else (f_X11_hoursOf_112 F A T K9 x1 x3 (1 : Int32) x2)) else (if x4 = 0 then (if (((A 15 ((1 : Int32)).toNatClampNeg) >>> (x5 &&& 31)) &&& (1 : Int32)) = (1 : Int32) then (if gok x5 16 = true then (if (A 9 (x5).toNatClampNeg) = x1 then (if gok x5 16 = true then (if gok x5 16 = true then (if (f_X11_in x3 (A 11 (x5).toNatClampNeg) (A 12 (x5).toNatClampNeg)) = 0 then ((f_X11_hoursOf_25 F A T K9 n) x1 x2 x3 (0 : Int32) (x5 + (1 : Int32))) else ((f_X11_hoursOf_25 F A T K9 n) x1 x2 x3 (1 : Int32) (x5 + (1 : Int32)))) else none) else none) else ((f_X11_hoursOf_25 F A T K9 n) x1 x2 x3 (0 : Int32) (x5 + (1 : Int32)))) else none) else ((f_X11_hoursOf_25 F A T K9 n) x1 x2 x3 (0 : Int32) (x5 + (1 : Int32)))) else ((f_X11_hoursOf_25 F A T K9 n) x1 x2 x3 (1 : Int32) (x5 + (1 : Int32))))) := rfl
noncomputable def f_X11_hoursOf_9 (F : ZF) (A : ZA) (T : Int64) (n : Nat) : Int32 → Int32 → Int32 → Option Int32 :=
  @Nat.rec (fun _ => Int32 → Int32 → Int32 → Option Int32) (fun _ _ _ => none) (fun _ K9 x1 x2 x3 =>
  (if (A 14 ((0 : Int32)).toNatClampNeg) < x3 then (some x2) else (f_X11_hoursOf_25 F A T K9 1000 x1 x2 x3 (0 : Int32) (0 : Int32)))) n
theorem f_X11_hoursOf_9_s (F : ZF) (A : ZA) (T : Int64) (n : Nat) (x1 x2 x3 : Int32) : f_X11_hoursOf_9 F A T (n + 1) x1 x2 x3 =
  (if (A 14 ((0 : Int32)).toNatClampNeg) < x3 then (some x2) else (f_X11_hoursOf_25 F A T (f_X11_hoursOf_9 F A T n) 1000 x1 x2 x3 (0 : Int32) (0 : Int32))) := rfl
noncomputable def f_X11_hoursOf (a0 : Int32) (F : ZF) (A : ZA) (T : Int64) : Option Int32 :=
  (f_X11_hoursOf_9 F A T 1000 a0 (0 : Int32) (A 13 ((0 : Int32)).toNatClampNeg))
noncomputable def f_X11_heldBy_76 (F : ZF) (A : ZA) (T : Int64) (x1 y0 : Int32) : Option Int32 :=
  (Option.bind (f_X11_hoursOf x1 F A T) fun q8 => (if 0 ≤ (y0 - q8) then (some (y0 - q8)) else (some (0 : Int32))))
noncomputable def f_X11_heldBy_59 (F : ZF) (A : ZA) (T : Int64) (K10 : Int32 → Int32 → Int32 → Int32 → Option Int32) (x1 x2 x4 y0 y1 : Int32) : Option Int32 :=
  (K10 x1 x2 (y1 + y0) (x4 + (1 : Int32)))
noncomputable def f_X11_heldBy_10 (F : ZF) (A : ZA) (T : Int64) (n : Nat) : Int32 → Int32 → Int32 → Int32 → Option Int32 :=
  @Nat.rec (fun _ => Int32 → Int32 → Int32 → Int32 → Option Int32) (fun _ _ _ _ => none) (fun _ K10 x1 x2 x3 x4 =>
  (if (A 4 ((0 : Int32)).toNatClampNeg) ≤ x4 then (if 0 ≤ x3 then (f_X11_heldBy_76 F A T x1 x3) else (f_X11_heldBy_76 F A T x1 (0 : Int32))) else (if ((x2 >>> (x4 &&& 31)) &&& (1 : Int32)) = (1 : Int32) then (if gok (((6 : Int32) * x4) + x1) 96 = true then (if gok x4 16 = true then (f_X11_heldBy_59 F A T K10 x1 x2 x4 (((A 7 ((((6 : Int32) * x4) + x1)).toNatClampNeg) * (A 6 (x4).toNatClampNeg)) / (10 : Int32)) x3) else none) else none) else (f_X11_heldBy_59 F A T K10 x1 x2 x4 (0 : Int32) x3)))) n
theorem f_X11_heldBy_10_s (F : ZF) (A : ZA) (T : Int64) (n : Nat) (x1 x2 x3 x4 : Int32) : f_X11_heldBy_10 F A T (n + 1) x1 x2 x3 x4 =
  (if (A 4 ((0 : Int32)).toNatClampNeg) ≤ x4 then (if 0 ≤ x3 then (f_X11_heldBy_76 F A T x1 x3) else (f_X11_heldBy_76 F A T x1 (0 : Int32))) else (if ((x2 >>> (x4 &&& 31)) &&& (1 : Int32)) = (1 : Int32) then (if gok (((6 : Int32) * x4) + x1) 96 = true then (if gok x4 16 = true then (f_X11_heldBy_59 F A T (f_X11_heldBy_10 F A T n) x1 x2 x4 (((A 7 ((((6 : Int32) * x4) + x1)).toNatClampNeg) * (A 6 (x4).toNatClampNeg)) / (10 : Int32)) x3) else none) else none) else (f_X11_heldBy_59 F A T (f_X11_heldBy_10 F A T n) x1 x2 x4 (0 : Int32) x3))) := rfl
noncomputable def f_X11_heldBy (a0 a1 : Int32) (F : ZF) (A : ZA) (T : Int64) : Option Int32 :=
  (if gok a0 12 = true then (f_X11_heldBy_10 F A T 1000 a0 a1 (A 3 (a0).toNatClampNeg) (0 : Int32)) else none)
noncomputable def f_X11_hold_7 (n : Nat) : Int32 → Int32 → ZF → ZA → Int64 → Option ZS :=
  @Nat.rec (fun _ => Int32 → Int32 → ZF → ZA → Int64 → Option ZS) (fun _ _ _ _ _ => none) (fun _ K7 x1 x2 F A T =>
  (if (A 2 ((0 : Int32)).toNatClampNeg) ≤ x2 then (some (F, A, T)) else (Option.bind (f_X11_heldBy x2 x1 F A T) fun q3 => (if gok x2 6 = true then (if gok x2 6 = true then (K7 x1 (x2 + (1 : Int32)) (upd F 9 ((F 9) + ((zst A 17 (x2).toNatClampNeg q3) 17 (x2).toNatClampNeg))) (zst A 17 (x2).toNatClampNeg q3) T) else none) else none)))) n
theorem f_X11_hold_7_s (n : Nat) (x1 x2 : Int32) (F : ZF) (A : ZA) (T : Int64) : f_X11_hold_7 (n + 1) x1 x2 F A T =
  (if (A 2 ((0 : Int32)).toNatClampNeg) ≤ x2 then (some (F, A, T)) else (Option.bind (f_X11_heldBy x2 x1 F A T) fun q3 => (if gok x2 6 = true then (if gok x2 6 = true then ((f_X11_hold_7 n) x1 (x2 + (1 : Int32)) (upd F 9 ((F 9) + ((zst A 17 (x2).toNatClampNeg q3) 17 (x2).toNatClampNeg))) (zst A 17 (x2).toNatClampNeg q3) T) else none) else none))) := rfl
noncomputable def f_X11_hold (a0 : Int32) (F : ZF) (A : ZA) (T : Int64) : Option ZS :=
  (f_X11_hold_7 1000 a0 (0 : Int32) (upd F 9 (0 : Int32)) A T)
noncomputable def f_X11_serve_117 (K82 : Int32 → Int32 → ZF → ZA → Int64 → Option ZS) (K92 : Int32 → Int32 → Int32 → Int32 → ZF → ZA → Int64 → Option ZS) (x1 x2 x3 x4 y0 : Int32) (F : ZF) (A : ZA) (T : Int64) : Option ZS :=
  (if y0 = 0 then (K92 x1 x2 x3 (x4 + (1 : Int32)) F A T) else (if x3 = (-9 : Int32) then (K92 x1 x2 x4 (x4 + (1 : Int32)) F A T) else (if gok x4 6 = true then (if (F 9) = 0 then none else (if gok x3 6 = true then (if (F 9) = 0 then none else (if (((A 15 ((2 : Int32)).toNatClampNeg) * (A 17 (x4).toNatClampNeg)) - ((A 15 ((2 : Int32)).toNatClampNeg) * (A 17 (x4).toNatClampNeg)) / (F 9) * (F 9)) ≤ (((A 15 ((2 : Int32)).toNatClampNeg) * (A 17 (x3).toNatClampNeg)) - ((A 15 ((2 : Int32)).toNatClampNeg) * (A 17 (x3).toNatClampNeg)) / (F 9) * (F 9)) then (K92 x1 x2 x3 (x4 + (1 : Int32)) F A T) else (K92 x1 x2 x4 (x4 + (1 : Int32)) F A T))) else none)) else none)))
noncomputable def f_X11_serve_92 (K82 : Int32 → Int32 → ZF → ZA → Int64 → Option ZS) (n : Nat) : Int32 → Int32 → Int32 → Int32 → ZF → ZA → Int64 → Option ZS :=
  @Nat.rec (fun _ => Int32 → Int32 → Int32 → Int32 → ZF → ZA → Int64 → Option ZS) (fun _ _ _ _ _ _ _ => none) (fun _ K92 x1 x2 x3 x4 F A T =>
  (if (A 2 ((0 : Int32)).toNatClampNeg) ≤ x4 then (if gok x3 6 = true then (if gok x3 6 = true then (K82 (x1 + (-1 : Int32)) (x2 ||| ((1 : Int32) <<< (x3 &&& 31))) F (zst A 18 (x3).toNatClampNeg ((A 18 (x3).toNatClampNeg) + (1 : Int32))) T) else none) else none) else (if ((x2 >>> (x4 &&& 31)) &&& (1 : Int32)) = 0 then (f_X11_serve_117 K82 K92 x1 x2 x3 x4 (1 : Int32) F A T) else (f_X11_serve_117 K82 K92 x1 x2 x3 x4 (0 : Int32) F A T)))) n
theorem f_X11_serve_92_s (K82 : Int32 → Int32 → ZF → ZA → Int64 → Option ZS) (n : Nat) (x1 x2 x3 x4 : Int32) (F : ZF) (A : ZA) (T : Int64) : f_X11_serve_92 K82 (n + 1) x1 x2 x3 x4 F A T =
  (if (A 2 ((0 : Int32)).toNatClampNeg) ≤ x4 then (if gok x3 6 = true then (if gok x3 6 = true then (K82 (x1 + (-1 : Int32)) (x2 ||| ((1 : Int32) <<< (x3 &&& 31))) F (zst A 18 (x3).toNatClampNeg ((A 18 (x3).toNatClampNeg) + (1 : Int32))) T) else none) else none) else (if ((x2 >>> (x4 &&& 31)) &&& (1 : Int32)) = 0 then (f_X11_serve_117 K82 (f_X11_serve_92 K82 n) x1 x2 x3 x4 (1 : Int32) F A T) else (f_X11_serve_117 K82 (f_X11_serve_92 K82 n) x1 x2 x3 x4 (0 : Int32) F A T))) := rfl
noncomputable def f_X11_serve_82 (n : Nat) : Int32 → Int32 → ZF → ZA → Int64 → Option ZS :=
  @Nat.rec (fun _ => Int32 → Int32 → ZF → ZA → Int64 → Option ZS) (fun _ _ _ _ _ => none) (fun _ K82 x1 x2 F A T =>
  (if x1 ≤ 0 then (some (F, A, T)) else (f_X11_serve_92 K82 1000 x1 x2 (-9 : Int32) (0 : Int32) F A T))) n
theorem f_X11_serve_82_s (n : Nat) (x1 x2 : Int32) (F : ZF) (A : ZA) (T : Int64) : f_X11_serve_82 (n + 1) x1 x2 F A T =
  (if x1 ≤ 0 then (some (F, A, T)) else (f_X11_serve_92 (f_X11_serve_82 n) 1000 x1 x2 (-9 : Int32) (0 : Int32) F A T)) := rfl
noncomputable def f_X11_serve_64 (K20 : Int32 → Int32 → ZF → ZA → Int64 → Option ZS) (x1 x2 y0 y1 : Int32) (F : ZF) (A : ZA) (T : Int64) : Option ZS :=
  (if gok y1 6 = true then (if gok x2 6 = true then (K20 (x1 - ((zst A 18 (y1).toNatClampNeg y0) 18 (x2).toNatClampNeg)) (x2 + (1 : Int32)) F (zst A 18 (y1).toNatClampNeg y0) T) else none) else none)
noncomputable def f_X11_serve_20 (n : Nat) : Int32 → Int32 → ZF → ZA → Int64 → Option ZS :=
  @Nat.rec (fun _ => Int32 → Int32 → ZF → ZA → Int64 → Option ZS) (fun _ _ _ _ _ => none) (fun _ K20 x1 x2 F A T =>
  (if (A 2 ((0 : Int32)).toNatClampNeg) ≤ x2 then (f_X11_serve_82 1000 x1 (0 : Int32) F A T) else (if (F 9) = 0 then (f_X11_serve_64 K20 x1 x2 (0 : Int32) x2 F A T) else (if gok x2 6 = true then (if (F 9) = 0 then none else (f_X11_serve_64 K20 x1 x2 (((A 15 ((2 : Int32)).toNatClampNeg) * (A 17 (x2).toNatClampNeg)) / (F 9)) x2 F A T)) else none)))) n
theorem f_X11_serve_20_s (n : Nat) (x1 x2 : Int32) (F : ZF) (A : ZA) (T : Int64) : f_X11_serve_20 (n + 1) x1 x2 F A T =
  (if (A 2 ((0 : Int32)).toNatClampNeg) ≤ x2 then (f_X11_serve_82 1000 x1 (0 : Int32) F A T) else (if (F 9) = 0 then (f_X11_serve_64 (f_X11_serve_20 n) x1 x2 (0 : Int32) x2 F A T) else (if gok x2 6 = true then (if (F 9) = 0 then none else (f_X11_serve_64 (f_X11_serve_20 n) x1 x2 (((A 15 ((2 : Int32)).toNatClampNeg) * (A 17 (x2).toNatClampNeg)) / (F 9)) x2 F A T)) else none))) := rfl
noncomputable def f_X11_serve (F : ZF) (A : ZA) (T : Int64) : Option ZS :=
  (if (F 9) = 0 then (f_X11_serve_20 1000 (0 : Int32) (0 : Int32) F A T) else (f_X11_serve_20 1000 (A 15 ((2 : Int32)).toNatClampNeg) (0 : Int32) F A T))
noncomputable def f_X11_asNow (F : ZF) (A : ZA) (T : Int64) : Option ZS :=
  (Option.bind (f_X11_hold (A 15 ((0 : Int32)).toNatClampNeg) F A T) fun q1 => (Option.bind (f_X11_serve q1.1 q1.2.1 q1.2.2) fun q3 => (some (q3.1, q3.2.1, q3.2.2))))
noncomputable def f_X11_suspect (a0 a1 : Int32) (F : ZF) (A : ZA) (T : Int64) : Option (Int32 × ZS) :=
  (if (f_X11_isSuspect a0 F A T) = 0 then (some ((-1 : Int32), F, A, T)) else (Option.bind (f_X11_asNow F A T) fun q3 => (if a1 = (0 : Int32) then (if gok a0 12 = true then (some ((q3.2.1 3 (a0).toNatClampNeg), q3.1, q3.2.1, q3.2.2)) else none) else (if a1 = (1 : Int32) then (if gok a0 6 = true then (some ((q3.2.1 17 (a0).toNatClampNeg), q3.1, q3.2.1, q3.2.2)) else none) else (if a1 = (2 : Int32) then (if gok a0 6 = true then (some ((q3.2.1 18 (a0).toNatClampNeg), q3.1, q3.2.1, q3.2.2)) else none) else (if a1 = (3 : Int32) then (Option.bind (f_X11_hoursOf a0 q3.1 q3.2.1 q3.2.2) fun q13 => (some (q13, q3.1, q3.2.1, q3.2.2))) else (some ((-1 : Int32), q3.1, q3.2.1, q3.2.2))))))))
noncomputable def f_X10_clear (F : ZF) (A : ZA) (T : Int64) : Option (Int32 × ZS) :=
  (some ((F 1), (upd F 1 (0 : Int32)), A, T))
noncomputable def f_X10_within (a0 a1 a2 : Int32) : Int32 :=
  (if a0 < a1 then ((0 : Int32)) else (if a2 < a0 then ((0 : Int32)) else ((1 : Int32))))
noncomputable def f_X10_isFact (a0 : Int32) (F : ZF) (A : ZA) (T : Int64) : Int32 :=
  ((f_X10_within a0 (0 : Int32) ((F 23) - (1 : Int32))))
noncomputable def f_X10_bit (a0 a1 : Int32) : Int32 :=
  (((a0 >>> (a1 &&& 31)) &&& (1 : Int32)))
noncomputable def f_X10_fact (a0 a1 : Int32) (F : ZF) (A : ZA) (T : Int64) : Option Int32 :=
  (if (f_X10_isFact a0 F A T) = 0 then (some (-1 : Int32)) else (if (f_X10_within a1 (0 : Int32) (2 : Int32)) = 0 then (some (-1 : Int32)) else (if a1 = (0 : Int32) then (if gok a0 8 = true then (some (A 30 (a0).toNatClampNeg)) else none) else (if a1 = (1 : Int32) then (if gok a0 8 = true then (some (A 31 (a0).toNatClampNeg)) else none) else (some (f_X10_bit (F 10) a0))))))
noncomputable def f_X10_isAlibi (a0 : Int32) (F : ZF) (A : ZA) (T : Int64) : Int32 :=
  ((f_X10_within a0 (0 : Int32) ((F 24) - (1 : Int32))))
noncomputable def f_X10_alibi (a0 a1 : Int32) (F : ZF) (A : ZA) (T : Int64) : Option Int32 :=
  (if (f_X10_isAlibi a0 F A T) = 0 then (some (-1 : Int32)) else (if (f_X10_within a1 (0 : Int32) (4 : Int32)) = 0 then (some (-1 : Int32)) else (if a1 = (0 : Int32) then (if gok a0 8 = true then (some (A 34 (a0).toNatClampNeg)) else none) else (if a1 = (1 : Int32) then (if gok a0 8 = true then (some (A 35 (a0).toNatClampNeg)) else none) else (if a1 = (2 : Int32) then (if gok a0 8 = true then (some (A 36 (a0).toNatClampNeg)) else none) else (if a1 = (3 : Int32) then (if gok a0 8 = true then (some (A 37 (a0).toNatClampNeg)) else none) else (some (f_X10_bit (F 11) a0))))))))
noncomputable def f_X6_stepBack (F : ZF) (A : ZA) (T : Int64) : Option ZS :=
  (if gok ((upd F 13 ((F 13) - (1 : Int32))) 13) 10 = true then (if gok ((upd (upd F 13 ((F 13) - (1 : Int32))) 10 ((A 18 (((upd F 13 ((F 13) - (1 : Int32))) 13)).toNatClampNeg) &&& (255 : Int32))) 13) 10 = true then (if gok ((upd (upd (upd F 13 ((F 13) - (1 : Int32))) 10 ((A 18 (((upd F 13 ((F 13) - (1 : Int32))) 13)).toNatClampNeg) &&& (255 : Int32))) 11 (((A 18 (((upd (upd F 13 ((F 13) - (1 : Int32))) 10 ((A 18 (((upd F 13 ((F 13) - (1 : Int32))) 13)).toNatClampNeg) &&& (255 : Int32))) 13)).toNatClampNeg) >>> ((8 : Int32) &&& 31)) &&& (255 : Int32))) 13) 10 = true then (some ((upd (upd (upd (upd F 13 ((F 13) - (1 : Int32))) 10 ((A 18 (((upd F 13 ((F 13) - (1 : Int32))) 13)).toNatClampNeg) &&& (255 : Int32))) 11 (((A 18 (((upd (upd F 13 ((F 13) - (1 : Int32))) 10 ((A 18 (((upd F 13 ((F 13) - (1 : Int32))) 13)).toNatClampNeg) &&& (255 : Int32))) 13)).toNatClampNeg) >>> ((8 : Int32) &&& 31)) &&& (255 : Int32))) 12 ((A 18 (((upd (upd (upd F 13 ((F 13) - (1 : Int32))) 10 ((A 18 (((upd F 13 ((F 13) - (1 : Int32))) 13)).toNatClampNeg) &&& (255 : Int32))) 11 (((A 18 (((upd (upd F 13 ((F 13) - (1 : Int32))) 10 ((A 18 (((upd F 13 ((F 13) - (1 : Int32))) 13)).toNatClampNeg) &&& (255 : Int32))) 13)).toNatClampNeg) >>> ((8 : Int32) &&& 31)) &&& (255 : Int32))) 13)).toNatClampNeg) >>> ((16 : Int32) &&& 31))), A, T)) else none) else none) else none)
noncomputable def f_X10_undo (F : ZF) (A : ZA) (T : Int64) : Option (Int32 × ZS) :=
  (if (F 13) = 0 then (some ((-2 : Int32), F, A, T)) else (Option.bind (f_X6_stepBack F A T) fun q2 => (some ((q2.1 13), q2.1, q2.2.1, q2.2.2))))
end
section
set_option maxHeartbeats 4000000 in
set_option maxRecDepth 100000 in
theorem c_X11_clear (l : Launch) (D : va_G) (cs : Nat → ClassId) (ad : Nat → Nat) (F : ZF) (A : ZA) (T : Int64) (q : (Int32 × ZS)) (h : f_X11_clear F A T = some q) : zMi l D cs (MW cs ad) yX11_clear cX11_clear 2 (some .int) rm_X11_clear ([.ref (ad 0)] : List Value) F A T q True := by
  refine z_enteri (by decide) (Nat.le_of_ble_eq_true rfl) ?_
  intro p e s m below meth c A0 ls S K w hA hr hlk hl
  have S : CallFix p m c cX11_clear 2 s ([.ref (ad 0)] : List Value).toArray zWs RX11 := S
  have hl : lv_has ls 2 [(0, .ref (ad 0))] := hl
  unfold f_X11_clear at h
  refine lv_aload_n S.1 S.2.1 dX11_clear_0 rfl (lv_at hl 0 rfl) ?_
  refine gM_0_2 S K w w730 dX11_clear_1 ?_
  refine lv_istore_n (lv' := [(1, .int (F 0)), (0, .ref (ad 0))]) S.1 S.2.1 dX11_clear_4 rfl hl (by decide) rfl (fun ls hl => ?_)
  refine lv_aload_n S.1 S.2.1 dX11_clear_5 rfl (lv_at hl 1 rfl) ?_
  refine lv_iconst (v := 0) S.1 S.2.1 dX11_clear_6 (by decide) ?_
  refine pM_0_2 S K w w730 dX11_clear_7 (fun H locs w => ?_)
  refine lv_iload_n S.1 S.2.1 dX11_clear_10 rfl (lv_at hl 0 rfl) ?_
  exact z_reti S w hr hlk dX11_clear_11 trivial (Option.some.inj h).symm
set_option maxHeartbeats 4000000 in
set_option maxRecDepth 100000 in
theorem c_X11_in (l : Launch) (D : va_G) (cs : Nat → ClassId) (ad : Nat → Nat) (F : ZF) (A : ZA) (T : Int64) (a0 a1 a2 : Int32) (q : Int32) (h : f_X11_in a0 a1 a2 = q) : zMi l D cs (MW cs ad) yX11_in cX11_in 3 (some .boolean) rm_X11_in ([.int a0, .int a1, .int a2] : List Value) F A T ((q, F, A, T) : Int32 × ZS) (((q, F, A, T) : Int32 × ZS).1 &&& 1 = ((q, F, A, T) : Int32 × ZS).1) := by
  refine z_enteri (by decide) (Nat.le_of_ble_eq_true rfl) ?_
  intro p e s m below meth c A0 ls S K w hA hr hlk hl
  have S : CallFix p m c cX11_in 3 s ([.int a0, .int a1, .int a2] : List Value).toArray zWs RX11 := S
  have hl : lv_has ls 3 [(0, .int a0), (1, .int a1), (2, .int a2)] := hl
  unfold f_X11_in at h
  refine lv_iload_n S.1 S.2.1 dX11_in_0 rfl (lv_at hl 0 rfl) ?_
  refine lv_iload_n S.1 S.2.1 dX11_in_1 rfl (lv_at hl 1 rfl) ?_
  refine lv_icmp_lt (tgt := 14) S.1 S.2.1 dX11_in_2 (by decide) (fun c1 => ?_) (fun c1 => ?_)
  · have h := og_t c1 h
    refine lv_iconst (v := 0) S.1 S.2.1 dX11_in_14 (by decide) ?_
    exact z_retz S w hr hlk dX11_in_15 (by decide) (by rw [← h])
  · have h := og_f c1 h
    refine lv_iload_n S.1 S.2.1 dX11_in_5 rfl (lv_at hl 0 rfl) ?_
    refine lv_iload_n S.1 S.2.1 dX11_in_6 rfl (lv_at hl 2 rfl) ?_
    refine lv_icmp_gt (tgt := 14) S.1 S.2.1 dX11_in_7 (by decide) (fun c2 => ?_) (fun c2 => ?_)
    · have h := og_t c2 h
      refine lv_iconst (v := 0) S.1 S.2.1 dX11_in_14 (by decide) ?_
      exact z_retz S w hr hlk dX11_in_15 (by decide) (by rw [← h])
    · have h := og_f c2 h
      refine lv_iconst (v := 1) S.1 S.2.1 dX11_in_10 (by decide) ?_
      refine lv_goto (tgt := 15) S.1 S.2.1 dX11_in_11 (by decide) ?_
      exact z_retz S w hr hlk dX11_in_15 (by decide) (by rw [← h])
set_option maxHeartbeats 4000000 in
set_option maxRecDepth 100000 in
theorem c_X11_isFact (l : Launch) (D : va_G) (cs : Nat → ClassId) (ad : Nat → Nat) (F : ZF) (A : ZA) (T : Int64) (a0 : Int32) (q : Int32) (h : f_X11_isFact a0 F A T = q) : zMi l D cs (MW cs ad) yX11_isFact cX11_isFact 2 (some .boolean) rm_X11_isFact ([.ref (ad 0), .int a0] : List Value) F A T ((q, F, A, T) : Int32 × ZS) (((q, F, A, T) : Int32 × ZS).1 &&& 1 = ((q, F, A, T) : Int32 × ZS).1) := by
  refine z_enteri (by decide) (Nat.le_of_ble_eq_true rfl) ?_
  intro p e s m below meth c A0 ls S K w hA hr hlk hl
  have S : CallFix p m c cX11_isFact 2 s ([.ref (ad 0), .int a0] : List Value).toArray zWs RX11 := S
  have hl : lv_has ls 2 [(0, .ref (ad 0)), (1, .int a0)] := hl
  unfold f_X11_isFact at h
  refine lv_iload_n S.1 S.2.1 dX11_isFact_0 rfl (lv_at hl 1 rfl) ?_
  refine lv_iconst (v := 0) S.1 S.2.1 dX11_isFact_1 (by decide) ?_
  refine lv_aload_n S.1 S.2.1 dX11_isFact_2 rfl (lv_at hl 0 rfl) ?_
  refine gM_0_5 S K w w733 dX11_isFact_3 ?_
  refine lv_iconst (v := 0) S.1 S.2.1 dX11_isFact_6 (by decide) ?_
  refine aM_4 S K w gk_0_2 dX11_isFact_7 ?_
  refine lv_iconst (v := 1) S.1 S.2.1 dX11_isFact_8 (by decide) ?_
  refine lv_isub S.1 S.2.1 dX11_isFact_9 ?_
  refine z_callSr S K w hA (c_X11_in l D cs ad F A T a0 (0 : Int32) ((A 4 ((0 : Int32)).toNatClampNeg) - (1 : Int32)) (f_X11_in a0 (0 : Int32) ((A 4 ((0 : Int32)).toNatClampNeg) - (1 : Int32))) rfl) (cw_X11_72 S.2.2.2.2 ⟨Nat.le_of_ble_eq_true rfl, Nat.le_of_ble_eq_true rfl⟩) rfl hl.1 rfl (Nat.le_of_ble_eq_true rfl) ⟨Nat.zero_le _, Nat.zero_le _⟩ dX11_isFact_10 (fun b1 H locs w => ?_)
  exact z_retz S w hr hlk dX11_isFact_13 b1 (by rw [← h])
set_option maxHeartbeats 4000000 in
set_option maxRecDepth 100000 in
theorem c_X11_fact (l : Launch) (D : va_G) (cs : Nat → ClassId) (ad : Nat → Nat) (F : ZF) (A : ZA) (T : Int64) (a0 a1 : Int32) (q : Int32) (h : f_X11_fact a0 a1 F A T = some q) : zMi l D cs (MW cs ad) yX11_fact cX11_fact 3 (some .int) rm_X11_fact ([.ref (ad 0), .int a0, .int a1] : List Value) F A T ((q, F, A, T) : Int32 × ZS) True := by
  refine z_enteri (by decide) (Nat.le_of_ble_eq_true rfl) ?_
  intro p e s m below meth c A0 ls S K w hA hr hlk hl
  have S : CallFix p m c cX11_fact 3 s ([.ref (ad 0), .int a0, .int a1] : List Value).toArray zWs RX11 := S
  have hl : lv_has ls 3 [(0, .ref (ad 0)), (1, .int a0), (2, .int a1)] := hl
  unfold f_X11_fact at h
  refine lv_aload_n S.1 S.2.1 dX11_fact_0 rfl (lv_at hl 0 rfl) ?_
  refine lv_iload_n S.1 S.2.1 dX11_fact_1 rfl (lv_at hl 1 rfl) ?_
  refine z_callVr S K w hA (c_X11_isFact l D cs ad F A T a0 (f_X11_isFact a0 F A T) rfl) (cw_X11_159 S.2.2.2.2 ⟨Nat.le_of_ble_eq_true rfl, Nat.le_of_ble_eq_true rfl⟩) (z_recv K w 0 11 rfl rfl) rfl hl.1 rfl (Nat.le_of_ble_eq_true rfl) ⟨Nat.zero_le _, Nat.zero_le _⟩ dX11_fact_2 (fun b1 H locs w => ?_)
  refine lv_if_ne (tgt := 10) S.1 S.2.1 dX11_fact_5 (by decide) (fun c2 => ?_) (fun c2 => ?_)
  · have h := og_f c2 h
    refine lv_iload_n S.1 S.2.1 dX11_fact_10 rfl (lv_at hl 2 rfl) ?_
    refine lv_if_ne (tgt := 23) S.1 S.2.1 dX11_fact_11 (by decide) (fun c3 => ?_) (fun c3 => ?_)
    · have h := og_f c3 h
      refine lv_iload_n S.1 S.2.1 dX11_fact_23 rfl (lv_at hl 2 rfl) ?_
      refine lv_iconst (v := 1) S.1 S.2.1 dX11_fact_24 (by decide) ?_
      refine lv_icmp_ne (tgt := 37) S.1 S.2.1 dX11_fact_25 (by decide) (fun c4 => ?_) (fun c4 => ?_)
      · have h := og_f c4 h
        refine lv_iload_n S.1 S.2.1 dX11_fact_37 rfl (lv_at hl 2 rfl) ?_
        refine lv_iconst (v := 2) S.1 S.2.1 dX11_fact_38 (by decide) ?_
        refine lv_icmp_ne (tgt := 55) S.1 S.2.1 dX11_fact_39 (by decide) (fun c5 => ?_) (fun c5 => ?_)
        · have h := og_f c5 h
          refine lv_iconst (v := -1) S.1 S.2.1 dX11_fact_55 (by decide) ?_
          exact z_reti S w hr hlk dX11_fact_56 trivial (by rw [← Option.some.inj h])
        · have h := og_t c5 h
          refine lv_aload_n S.1 S.2.1 dX11_fact_42 rfl (lv_at hl 0 rfl) ?_
          refine gM_0_24 S K w w752 dX11_fact_43 ?_
          refine lv_iconst (v := 0) S.1 S.2.1 dX11_fact_46 (by decide) ?_
          refine aM_15 S K w gk_0_102 dX11_fact_47 ?_
          refine lv_iload_n S.1 S.2.1 dX11_fact_48 rfl (lv_at hl 1 rfl) ?_
          refine lv_ishr S.1 S.2.1 dX11_fact_49 ?_
          refine lv_iconst (v := 1) S.1 S.2.1 dX11_fact_50 (by decide) ?_
          refine lv_iand S.1 S.2.1 dX11_fact_51 ?_
          refine lv_goto (tgt := 56) S.1 S.2.1 dX11_fact_52 (by decide) ?_
          exact z_reti S w hr hlk dX11_fact_56 trivial (by rw [← Option.some.inj h])
      · have h := og_t c4 h
        refine lv_aload_n S.1 S.2.1 dX11_fact_28 rfl (lv_at hl 0 rfl) ?_
        refine gM_0_7 S K w w735 dX11_fact_29 ?_
        refine lv_iload_n S.1 S.2.1 dX11_fact_32 rfl (lv_at hl 1 rfl) ?_
        obtain ⟨g6, h⟩ := og_g h
        refine aM_6 S K w g6 dX11_fact_33 ?_
        refine lv_goto (tgt := 56) S.1 S.2.1 dX11_fact_34 (by decide) ?_
        exact z_reti S w hr hlk dX11_fact_56 trivial (by rw [← Option.some.inj h])
    · have h := og_t c3 h
      refine lv_aload_n S.1 S.2.1 dX11_fact_14 rfl (lv_at hl 0 rfl) ?_
      refine gM_0_6 S K w w734 dX11_fact_15 ?_
      refine lv_iload_n S.1 S.2.1 dX11_fact_18 rfl (lv_at hl 1 rfl) ?_
      obtain ⟨g7, h⟩ := og_g h
      refine aM_5 S K w g7 dX11_fact_19 ?_
      refine lv_goto (tgt := 56) S.1 S.2.1 dX11_fact_20 (by decide) ?_
      exact z_reti S w hr hlk dX11_fact_56 trivial (by rw [← Option.some.inj h])
  · have h := og_t c2 h
    refine lv_iconst (v := -1) S.1 S.2.1 dX11_fact_8 (by decide) ?_
    exact z_reti S w hr hlk dX11_fact_9 trivial (by rw [← Option.some.inj h])
set_option maxHeartbeats 4000000 in
set_option maxRecDepth 100000 in
theorem c_X11_isSuspect (l : Launch) (D : va_G) (cs : Nat → ClassId) (ad : Nat → Nat) (F : ZF) (A : ZA) (T : Int64) (a0 : Int32) (q : Int32) (h : f_X11_isSuspect a0 F A T = q) : zMi l D cs (MW cs ad) yX11_isSuspect cX11_isSuspect 2 (some .boolean) rm_X11_isSuspect ([.ref (ad 0), .int a0] : List Value) F A T ((q, F, A, T) : Int32 × ZS) (((q, F, A, T) : Int32 × ZS).1 &&& 1 = ((q, F, A, T) : Int32 × ZS).1) := by
  refine z_enteri (by decide) (Nat.le_of_ble_eq_true rfl) ?_
  intro p e s m below meth c A0 ls S K w hA hr hlk hl
  have S : CallFix p m c cX11_isSuspect 2 s ([.ref (ad 0), .int a0] : List Value).toArray zWs RX11 := S
  have hl : lv_has ls 2 [(0, .ref (ad 0)), (1, .int a0)] := hl
  unfold f_X11_isSuspect at h
  refine lv_iload_n S.1 S.2.1 dX11_isSuspect_0 rfl (lv_at hl 1 rfl) ?_
  refine lv_iconst (v := 0) S.1 S.2.1 dX11_isSuspect_1 (by decide) ?_
  refine lv_aload_n S.1 S.2.1 dX11_isSuspect_2 rfl (lv_at hl 0 rfl) ?_
  refine gM_0_3 S K w w731 dX11_isSuspect_3 ?_
  refine lv_iconst (v := 0) S.1 S.2.1 dX11_isSuspect_6 (by decide) ?_
  refine aM_2 S K w gk_0_2 dX11_isSuspect_7 ?_
  refine lv_iconst (v := 1) S.1 S.2.1 dX11_isSuspect_8 (by decide) ?_
  refine lv_isub S.1 S.2.1 dX11_isSuspect_9 ?_
  refine z_callSr S K w hA (c_X11_in l D cs ad F A T a0 (0 : Int32) ((A 2 ((0 : Int32)).toNatClampNeg) - (1 : Int32)) (f_X11_in a0 (0 : Int32) ((A 2 ((0 : Int32)).toNatClampNeg) - (1 : Int32))) rfl) (cw_X11_72 S.2.2.2.2 ⟨Nat.le_of_ble_eq_true rfl, Nat.le_of_ble_eq_true rfl⟩) rfl hl.1 rfl (Nat.le_of_ble_eq_true rfl) ⟨Nat.zero_le _, Nat.zero_le _⟩ dX11_isSuspect_10 (fun b1 H locs w => ?_)
  exact z_retz S w hr hlk dX11_isSuspect_13 b1 (by rw [← h])
set_option maxHeartbeats 4000000 in
set_option maxRecDepth 100000 in
theorem c_X11_hoursOf (l : Launch) (D : va_G) (cs : Nat → ClassId) (ad : Nat → Nat) (F : ZF) (A : ZA) (T : Int64) (a0 : Int32) (q : Int32) (h : f_X11_hoursOf a0 F A T = some q) : zMi l D cs (MW cs ad) yX11_hoursOf cX11_hoursOf 6 (some .int) rm_X11_hoursOf ([.ref (ad 0), .int a0] : List Value) F A T ((q, F, A, T) : Int32 × ZS) True := by
  refine z_enteri (by decide) (Nat.le_of_ble_eq_true rfl) ?_
  intro p e s m below meth c A0 ls S K w hA hr hlk hl
  have S : CallFix p m c cX11_hoursOf 6 s ([.ref (ad 0), .int a0] : List Value).toArray zWs RX11 := S
  have hl : lv_has ls 6 [(0, .ref (ad 0)), (1, .int a0)] := hl
  unfold f_X11_hoursOf at h
  have j9 : ∀ (n9 : Nat) (x1 x2 x3 : Int32), f_X11_hoursOf_9 F A T n9 x1 x2 x3 = some q → ∀ (H : Heap) (locs : List Loc) (ls : Array Slot), lv_has ls 6 [(0, .ref (ad 0)), (1, .int x1), (2, .int x2), (3, .int x3)] → ZW D A0 s.heap (MW cs ad F A T) H locs → W p l e rm_X11_hoursOf s m ([.ref (ad 0), .int a0] : List Value).toArray below meth c H locs 0 0 (zQi (MW cs ad) D A0 below ([.ref (ad 0), .int a0] : List Value) s ((q, F, A, T) : Int32 × ZS) True) (F0 m 9 ls []) := by
    intro n9
    induction n9 with
    | zero =>
      intro x1 x2 x3 h H locs ls hl w
      have h : (none : Option Int32) = some q := h
      cases h
    | succ n9 ih9 =>
      intro x1 x2 x3 h H locs ls hl w
      rw [f_X11_hoursOf_9_s] at h
      have j25 : ∀ (n25 : Nat) (x1 x2 x3 x4 x5 : Int32), f_X11_hoursOf_25 F A T (f_X11_hoursOf_9 F A T n9) n25 x1 x2 x3 x4 x5 = some q → ∀ (H : Heap) (locs : List Loc) (ls : Array Slot), lv_has ls 6 [(0, .ref (ad 0)), (1, .int x1), (2, .int x2), (3, .int x3), (4, .int x4), (5, .int x5)] → ZW D A0 s.heap (MW cs ad F A T) H locs → W p l e rm_X11_hoursOf s m ([.ref (ad 0), .int a0] : List Value).toArray below meth c H locs 0 0 (zQi (MW cs ad) D A0 below ([.ref (ad 0), .int a0] : List Value) s ((q, F, A, T) : Int32 × ZS) True) (F0 m 25 ls []) := by
        intro n25
        induction n25 with
        | zero =>
          intro x1 x2 x3 x4 x5 h H locs ls hl w
          have h : (none : Option Int32) = some q := h
          cases h
        | succ n25 ih25 =>
          intro x1 x2 x3 x4 x5 h H locs ls hl w
          rw [f_X11_hoursOf_25_s] at h
          have j112 : ∀ (x1 x3 y0 y1 : Int32), f_X11_hoursOf_112 F A T (f_X11_hoursOf_9 F A T n9) x1 x3 y0 y1 = some q → ∀ (H : Heap) (locs : List Loc) (ls : Array Slot), lv_has ls 6 [(0, .ref (ad 0)), (1, .int x1), (3, .int x3)] → ZW D A0 s.heap (MW cs ad F A T) H locs → W p l e rm_X11_hoursOf s m ([.ref (ad 0), .int a0] : List Value).toArray below meth c H locs 0 0 (zQi (MW cs ad) D A0 below ([.ref (ad 0), .int a0] : List Value) s ((q, F, A, T) : Int32 × ZS) True) (F0 m 112 ls [.int y0, .int y1]) := by
            intro x1 x3 y0 y1 h H locs ls hl w
            unfold f_X11_hoursOf_112 at h
            refine lv_iadd S.1 S.2.1 dX11_hoursOf_112 ?_
            refine lv_istore_n (lv' := [(2, .int (y1 + y0)), (0, .ref (ad 0)), (1, .int x1), (3, .int x3)]) S.1 S.2.1 dX11_hoursOf_113 rfl hl (by decide) rfl (fun ls hl => ?_)
            refine lv_iinc (v := (x3 + (1 : Int32))) (lv' := [(3, .int (x3 + (1 : Int32))), (2, .int (y1 + y0)), (0, .ref (ad 0)), (1, .int x1)]) S.1 S.2.1 dX11_hoursOf_114 hl (k := 3) rfl rfl (by decide) rfl (fun ls hl => ?_)
            refine lv_goto (tgt := 9) S.1 S.2.1 dX11_hoursOf_117 (by decide) ?_
            exact ih9 _ _ _ h _ _ _ (lv_sub hl [2, 3, 1, 0] rfl) w
          refine lv_iload S.1 S.2.1 dX11_hoursOf_25 (lv_at hl 5 rfl) ?_
          refine lv_aload_n S.1 S.2.1 dX11_hoursOf_27 rfl (lv_at hl 0 rfl) ?_
          refine gM_0_9 S K w w737 dX11_hoursOf_28 ?_
          refine lv_iconst (v := 0) S.1 S.2.1 dX11_hoursOf_31 (by decide) ?_
          refine aM_8 S K w gk_0_2 dX11_hoursOf_32 ?_
          refine lv_icmp_ge (tgt := 101) S.1 S.2.1 dX11_hoursOf_33 (by decide) (fun c2 => ?_) (fun c2 => ?_)
          · have h := og_t c2 h
            refine lv_iload_n S.1 S.2.1 dX11_hoursOf_101 rfl (lv_at hl 2 rfl) ?_
            refine lv_iload S.1 S.2.1 dX11_hoursOf_102 (lv_at hl 4 rfl) ?_
            refine lv_if_eq (tgt := 111) S.1 S.2.1 dX11_hoursOf_104 (by decide) (fun c3 => ?_) (fun c3 => ?_)
            · have h := og_t c3 h
              refine lv_iconst (v := 0) S.1 S.2.1 dX11_hoursOf_111 (by decide) ?_
              exact j112 _ _ _ _ h _ _ _ (lv_sub hl [0, 1, 3] rfl) w
            · have h := og_f c3 h
              refine lv_iconst (v := 1) S.1 S.2.1 dX11_hoursOf_107 (by decide) ?_
              refine lv_goto (tgt := 112) S.1 S.2.1 dX11_hoursOf_108 (by decide) ?_
              exact j112 _ _ _ _ h _ _ _ (lv_sub hl [0, 1, 3] rfl) w
          · have h := og_f c2 h
            refine lv_iload S.1 S.2.1 dX11_hoursOf_36 (lv_at hl 4 rfl) ?_
            refine lv_if_ne (tgt := 88) S.1 S.2.1 dX11_hoursOf_38 (by decide) (fun c4 => ?_) (fun c4 => ?_)
            · have h := og_f c4 h
              refine lv_iconst (v := 1) S.1 S.2.1 dX11_hoursOf_88 (by decide) ?_
              refine lv_goto (tgt := 93) S.1 S.2.1 dX11_hoursOf_89 (by decide) ?_
              refine lv_istore (lv' := [(4, .int (1 : Int32)), (0, .ref (ad 0)), (1, .int x1), (2, .int x2), (3, .int x3), (5, .int x5)]) S.1 S.2.1 dX11_hoursOf_93 hl (by decide) rfl (fun ls hl => ?_)
              refine lv_iinc (v := (x5 + (1 : Int32))) (lv' := [(5, .int (x5 + (1 : Int32))), (4, .int (1 : Int32)), (0, .ref (ad 0)), (1, .int x1), (2, .int x2), (3, .int x3)]) S.1 S.2.1 dX11_hoursOf_95 hl (k := 5) rfl rfl (by decide) rfl (fun ls hl => ?_)
              refine lv_goto (tgt := 25) S.1 S.2.1 dX11_hoursOf_98 (by decide) ?_
              exact ih25 _ _ _ _ _ h _ _ _ (lv_sub hl [2, 3, 4, 5, 1, 0] rfl) w
            · have h := og_t c4 h
              refine lv_aload_n S.1 S.2.1 dX11_hoursOf_41 rfl (lv_at hl 0 rfl) ?_
              refine gM_0_24 S K w w752 dX11_hoursOf_42 ?_
              refine lv_iconst (v := 1) S.1 S.2.1 dX11_hoursOf_45 (by decide) ?_
              refine aM_15 S K w gk_1_102 dX11_hoursOf_46 ?_
              refine lv_iload S.1 S.2.1 dX11_hoursOf_47 (lv_at hl 5 rfl) ?_
              refine lv_ishr S.1 S.2.1 dX11_hoursOf_49 ?_
              refine lv_iconst (v := 1) S.1 S.2.1 dX11_hoursOf_50 (by decide) ?_
              refine lv_iand S.1 S.2.1 dX11_hoursOf_51 ?_
              refine lv_iconst (v := 1) S.1 S.2.1 dX11_hoursOf_52 (by decide) ?_
              refine lv_icmp_ne (tgt := 92) S.1 S.2.1 dX11_hoursOf_53 (by decide) (fun c5 => ?_) (fun c5 => ?_)
              · have h := og_f c5 h
                refine lv_iconst (v := 0) S.1 S.2.1 dX11_hoursOf_92 (by decide) ?_
                refine lv_istore (lv' := [(4, .int (0 : Int32)), (0, .ref (ad 0)), (1, .int x1), (2, .int x2), (3, .int x3), (5, .int x5)]) S.1 S.2.1 dX11_hoursOf_93 hl (by decide) rfl (fun ls hl => ?_)
                refine lv_iinc (v := (x5 + (1 : Int32))) (lv' := [(5, .int (x5 + (1 : Int32))), (4, .int (0 : Int32)), (0, .ref (ad 0)), (1, .int x1), (2, .int x2), (3, .int x3)]) S.1 S.2.1 dX11_hoursOf_95 hl (k := 5) rfl rfl (by decide) rfl (fun ls hl => ?_)
                refine lv_goto (tgt := 25) S.1 S.2.1 dX11_hoursOf_98 (by decide) ?_
                exact ih25 _ _ _ _ _ h _ _ _ (lv_sub hl [2, 3, 4, 5, 1, 0] rfl) w
              · have h := og_t c5 h
                refine lv_aload_n S.1 S.2.1 dX11_hoursOf_56 rfl (lv_at hl 0 rfl) ?_
                refine gM_0_10 S K w w738 dX11_hoursOf_57 ?_
                refine lv_iload S.1 S.2.1 dX11_hoursOf_60 (lv_at hl 5 rfl) ?_
                obtain ⟨g6, h⟩ := og_g h
                refine aM_9 S K w g6 dX11_hoursOf_62 ?_
                refine lv_iload_n S.1 S.2.1 dX11_hoursOf_63 rfl (lv_at hl 1 rfl) ?_
                refine lv_icmp_ne (tgt := 92) S.1 S.2.1 dX11_hoursOf_64 (by decide) (fun c7 => ?_) (fun c7 => ?_)
                · have h := og_f c7 h
                  refine lv_iconst (v := 0) S.1 S.2.1 dX11_hoursOf_92 (by decide) ?_
                  refine lv_istore (lv' := [(4, .int (0 : Int32)), (0, .ref (ad 0)), (1, .int x1), (2, .int x2), (3, .int x3), (5, .int x5)]) S.1 S.2.1 dX11_hoursOf_93 hl (by decide) rfl (fun ls hl => ?_)
                  refine lv_iinc (v := (x5 + (1 : Int32))) (lv' := [(5, .int (x5 + (1 : Int32))), (4, .int (0 : Int32)), (0, .ref (ad 0)), (1, .int x1), (2, .int x2), (3, .int x3)]) S.1 S.2.1 dX11_hoursOf_95 hl (k := 5) rfl rfl (by decide) rfl (fun ls hl => ?_)
                  refine lv_goto (tgt := 25) S.1 S.2.1 dX11_hoursOf_98 (by decide) ?_
                  exact ih25 _ _ _ _ _ h _ _ _ (lv_sub hl [2, 3, 4, 5, 1, 0] rfl) w
                · have h := og_t c7 h
                  refine lv_iload_n S.1 S.2.1 dX11_hoursOf_67 rfl (lv_at hl 3 rfl) ?_
                  refine lv_aload_n S.1 S.2.1 dX11_hoursOf_68 rfl (lv_at hl 0 rfl) ?_
                  refine gM_0_12 S K w w740 dX11_hoursOf_69 ?_
                  refine lv_iload S.1 S.2.1 dX11_hoursOf_72 (lv_at hl 5 rfl) ?_
                  obtain ⟨g8, h⟩ := og_g h
                  refine aM_11 S K w g8 dX11_hoursOf_74 ?_
                  refine lv_aload_n S.1 S.2.1 dX11_hoursOf_75 rfl (lv_at hl 0 rfl) ?_
                  refine gM_0_13 S K w w741 dX11_hoursOf_76 ?_
                  refine lv_iload S.1 S.2.1 dX11_hoursOf_79 (lv_at hl 5 rfl) ?_
                  obtain ⟨g9, h⟩ := og_g h
                  refine aM_12 S K w g9 dX11_hoursOf_81 ?_
                  refine z_callSr S K w hA (c_X11_in l D cs ad F A T x3 (A 11 (x5).toNatClampNeg) (A 12 (x5).toNatClampNeg) (f_X11_in x3 (A 11 (x5).toNatClampNeg) (A 12 (x5).toNatClampNeg)) rfl) (cw_X11_72 S.2.2.2.2 ⟨Nat.le_of_ble_eq_true rfl, Nat.le_of_ble_eq_true rfl⟩) rfl hl.1 rfl (Nat.le_of_ble_eq_true rfl) ⟨Nat.zero_le _, Nat.zero_le _⟩ dX11_hoursOf_82 (fun b10 H locs w => ?_)
                  refine lv_if_eq (tgt := 92) S.1 S.2.1 dX11_hoursOf_85 (by decide) (fun c11 => ?_) (fun c11 => ?_)
                  · have h := og_t c11 h
                    refine lv_iconst (v := 0) S.1 S.2.1 dX11_hoursOf_92 (by decide) ?_
                    refine lv_istore (lv' := [(4, .int (0 : Int32)), (0, .ref (ad 0)), (1, .int x1), (2, .int x2), (3, .int x3), (5, .int x5)]) S.1 S.2.1 dX11_hoursOf_93 hl (by decide) rfl (fun ls hl => ?_)
                    refine lv_iinc (v := (x5 + (1 : Int32))) (lv' := [(5, .int (x5 + (1 : Int32))), (4, .int (0 : Int32)), (0, .ref (ad 0)), (1, .int x1), (2, .int x2), (3, .int x3)]) S.1 S.2.1 dX11_hoursOf_95 hl (k := 5) rfl rfl (by decide) rfl (fun ls hl => ?_)
                    refine lv_goto (tgt := 25) S.1 S.2.1 dX11_hoursOf_98 (by decide) ?_
                    exact ih25 _ _ _ _ _ h _ _ _ (lv_sub hl [2, 3, 4, 5, 1, 0] rfl) w
                  · have h := og_f c11 h
                    refine lv_iconst (v := 1) S.1 S.2.1 dX11_hoursOf_88 (by decide) ?_
                    refine lv_goto (tgt := 93) S.1 S.2.1 dX11_hoursOf_89 (by decide) ?_
                    refine lv_istore (lv' := [(4, .int (1 : Int32)), (0, .ref (ad 0)), (1, .int x1), (2, .int x2), (3, .int x3), (5, .int x5)]) S.1 S.2.1 dX11_hoursOf_93 hl (by decide) rfl (fun ls hl => ?_)
                    refine lv_iinc (v := (x5 + (1 : Int32))) (lv' := [(5, .int (x5 + (1 : Int32))), (4, .int (1 : Int32)), (0, .ref (ad 0)), (1, .int x1), (2, .int x2), (3, .int x3)]) S.1 S.2.1 dX11_hoursOf_95 hl (k := 5) rfl rfl (by decide) rfl (fun ls hl => ?_)
                    refine lv_goto (tgt := 25) S.1 S.2.1 dX11_hoursOf_98 (by decide) ?_
                    exact ih25 _ _ _ _ _ h _ _ _ (lv_sub hl [2, 3, 4, 5, 1, 0] rfl) w
      refine lv_iload_n S.1 S.2.1 dX11_hoursOf_9 rfl (lv_at hl 3 rfl) ?_
      refine lv_aload_n S.1 S.2.1 dX11_hoursOf_10 rfl (lv_at hl 0 rfl) ?_
      refine gM_0_15 S K w w743 dX11_hoursOf_11 ?_
      refine lv_iconst (v := 0) S.1 S.2.1 dX11_hoursOf_14 (by decide) ?_
      refine aM_14 S K w gk_0_2 dX11_hoursOf_15 ?_
      refine lv_icmp_gt (tgt := 120) S.1 S.2.1 dX11_hoursOf_16 (by decide) (fun c1 => ?_) (fun c1 => ?_)
      · have h := og_t c1 h
        refine lv_iload_n S.1 S.2.1 dX11_hoursOf_120 rfl (lv_at hl 2 rfl) ?_
        exact z_reti S w hr hlk dX11_hoursOf_121 trivial (by rw [← Option.some.inj h])
      · have h := og_f c1 h
        refine lv_iconst (v := 0) S.1 S.2.1 dX11_hoursOf_19 (by decide) ?_
        refine lv_istore (lv' := [(4, .int (0 : Int32)), (0, .ref (ad 0)), (1, .int x1), (2, .int x2), (3, .int x3)]) S.1 S.2.1 dX11_hoursOf_20 hl (by decide) rfl (fun ls hl => ?_)
        refine lv_iconst (v := 0) S.1 S.2.1 dX11_hoursOf_22 (by decide) ?_
        refine lv_istore (lv' := [(5, .int (0 : Int32)), (4, .int (0 : Int32)), (0, .ref (ad 0)), (1, .int x1), (2, .int x2), (3, .int x3)]) S.1 S.2.1 dX11_hoursOf_23 hl (by decide) rfl (fun ls hl => ?_)
        exact j25 1000 _ _ _ _ _ h _ _ _ (lv_sub hl [2, 3, 4, 5, 1, 0] rfl) w
  refine lv_iconst (v := 0) S.1 S.2.1 dX11_hoursOf_0 (by decide) ?_
  refine lv_istore_n (lv' := [(2, .int (0 : Int32)), (0, .ref (ad 0)), (1, .int a0)]) S.1 S.2.1 dX11_hoursOf_1 rfl hl (by decide) rfl (fun ls hl => ?_)
  refine lv_aload_n S.1 S.2.1 dX11_hoursOf_2 rfl (lv_at hl 1 rfl) ?_
  refine gM_0_14 S K w w742 dX11_hoursOf_3 ?_
  refine lv_iconst (v := 0) S.1 S.2.1 dX11_hoursOf_6 (by decide) ?_
  refine aM_13 S K w gk_0_2 dX11_hoursOf_7 ?_
  refine lv_istore_n (lv' := [(3, .int (A 13 ((0 : Int32)).toNatClampNeg)), (2, .int (0 : Int32)), (0, .ref (ad 0)), (1, .int a0)]) S.1 S.2.1 dX11_hoursOf_8 rfl hl (by decide) rfl (fun ls hl => ?_)
  exact j9 1000 _ _ _ h _ _ _ (lv_sub hl [2, 3, 1, 0] rfl) w
set_option maxHeartbeats 4000000 in
set_option maxRecDepth 100000 in
theorem c_X11_heldBy (l : Launch) (D : va_G) (cs : Nat → ClassId) (ad : Nat → Nat) (F : ZF) (A : ZA) (T : Int64) (a0 a1 : Int32) (q : Int32) (h : f_X11_heldBy a0 a1 F A T = some q) : zMi l D cs (MW cs ad) yX11_heldBy cX11_heldBy 5 (some .int) rm_X11_heldBy ([.ref (ad 0), .int a0, .int a1] : List Value) F A T ((q, F, A, T) : Int32 × ZS) True := by
  refine z_enteri (by decide) (Nat.le_of_ble_eq_true rfl) ?_
  intro p e s m below meth c A0 ls S K w hA hr hlk hl
  have S : CallFix p m c cX11_heldBy 5 s ([.ref (ad 0), .int a0, .int a1] : List Value).toArray zWs RX11 := S
  have hl : lv_has ls 5 [(0, .ref (ad 0)), (1, .int a0), (2, .int a1)] := hl
  unfold f_X11_heldBy at h
  have j10 : ∀ (n10 : Nat) (x1 x2 x3 x4 : Int32), f_X11_heldBy_10 F A T n10 x1 x2 x3 x4 = some q → ∀ (H : Heap) (locs : List Loc) (ls : Array Slot), lv_has ls 5 [(0, .ref (ad 0)), (1, .int x1), (2, .int x2), (3, .int x3), (4, .int x4)] → ZW D A0 s.heap (MW cs ad F A T) H locs → W p l e rm_X11_heldBy s m ([.ref (ad 0), .int a0, .int a1] : List Value).toArray below meth c H locs 0 0 (zQi (MW cs ad) D A0 below ([.ref (ad 0), .int a0, .int a1] : List Value) s ((q, F, A, T) : Int32 × ZS) True) (F0 m 10 ls []) := by
    intro n10
    induction n10 with
    | zero =>
      intro x1 x2 x3 x4 h H locs ls hl w
      have h : (none : Option Int32) = some q := h
      cases h
    | succ n10 ih10 =>
      intro x1 x2 x3 x4 h H locs ls hl w
      rw [f_X11_heldBy_10_s] at h
      have j76 : ∀ (x1 y0 : Int32), f_X11_heldBy_76 F A T x1 y0 = some q → ∀ (H : Heap) (locs : List Loc) (ls : Array Slot), lv_has ls 5 [(0, .ref (ad 0)), (1, .int x1)] → ZW D A0 s.heap (MW cs ad F A T) H locs → W p l e rm_X11_heldBy s m ([.ref (ad 0), .int a0, .int a1] : List Value).toArray below meth c H locs 0 0 (zQi (MW cs ad) D A0 below ([.ref (ad 0), .int a0, .int a1] : List Value) s ((q, F, A, T) : Int32 × ZS) True) (F0 m 76 ls [.int y0]) := by
        intro x1 y0 h H locs ls hl w
        unfold f_X11_heldBy_76 at h
        refine lv_istore_n (lv' := [(3, .int y0), (0, .ref (ad 0)), (1, .int x1)]) S.1 S.2.1 dX11_heldBy_76 rfl hl (by decide) rfl (fun ls hl => ?_)
        refine lv_iload_n S.1 S.2.1 dX11_heldBy_77 rfl (lv_at hl 0 rfl) ?_
        refine lv_aload_n S.1 S.2.1 dX11_heldBy_78 rfl (lv_at hl 1 rfl) ?_
        refine lv_iload_n S.1 S.2.1 dX11_heldBy_79 rfl (lv_at hl 2 rfl) ?_
        obtain ⟨q7, e8, h⟩ := og_b h
        refine z_callVr S K w hA (c_X11_hoursOf l D cs ad F A T x1 q7 e8) (cw_X11_137 S.2.2.2.2 ⟨Nat.le_of_ble_eq_true rfl, Nat.le_of_ble_eq_true rfl⟩) (z_recv K w 0 11 rfl rfl) rfl hl.1 rfl (Nat.le_of_ble_eq_true rfl) ⟨Nat.zero_le _, Nat.zero_le _⟩ dX11_heldBy_80 (fun b6 H locs w => ?_)
        refine lv_isub S.1 S.2.1 dX11_heldBy_83 ?_
        refine lv_istore_n (lv' := [(3, .int (y0 - q7)), (0, .ref (ad 0)), (1, .int x1)]) S.1 S.2.1 dX11_heldBy_84 rfl hl (by decide) rfl (fun ls hl => ?_)
        refine lv_iload_n S.1 S.2.1 dX11_heldBy_85 rfl (lv_at hl 0 rfl) ?_
        refine lv_if_ge (tgt := 93) S.1 S.2.1 dX11_heldBy_86 (by decide) (fun c9 => ?_) (fun c9 => ?_)
        · have h := og_t c9 h
          refine lv_iload_n S.1 S.2.1 dX11_heldBy_93 rfl (lv_at hl 0 rfl) ?_
          exact z_reti S w hr hlk dX11_heldBy_94 trivial (by rw [← Option.some.inj h])
        · have h := og_f c9 h
          refine lv_iconst (v := 0) S.1 S.2.1 dX11_heldBy_89 (by decide) ?_
          refine lv_goto (tgt := 94) S.1 S.2.1 dX11_heldBy_90 (by decide) ?_
          exact z_reti S w hr hlk dX11_heldBy_94 trivial (by rw [← Option.some.inj h])
      have j59 : ∀ (x1 x2 x4 y0 y1 : Int32), f_X11_heldBy_59 F A T (f_X11_heldBy_10 F A T n10) x1 x2 x4 y0 y1 = some q → ∀ (H : Heap) (locs : List Loc) (ls : Array Slot), lv_has ls 5 [(0, .ref (ad 0)), (1, .int x1), (2, .int x2), (4, .int x4)] → ZW D A0 s.heap (MW cs ad F A T) H locs → W p l e rm_X11_heldBy s m ([.ref (ad 0), .int a0, .int a1] : List Value).toArray below meth c H locs 0 0 (zQi (MW cs ad) D A0 below ([.ref (ad 0), .int a0, .int a1] : List Value) s ((q, F, A, T) : Int32 × ZS) True) (F0 m 59 ls [.int y0, .int y1]) := by
        intro x1 x2 x4 y0 y1 h H locs ls hl w
        unfold f_X11_heldBy_59 at h
        refine lv_iadd S.1 S.2.1 dX11_heldBy_59 ?_
        refine lv_istore_n (lv' := [(3, .int (y1 + y0)), (0, .ref (ad 0)), (1, .int x1), (2, .int x2), (4, .int x4)]) S.1 S.2.1 dX11_heldBy_60 rfl hl (by decide) rfl (fun ls hl => ?_)
        refine lv_iinc (v := (x4 + (1 : Int32))) (lv' := [(4, .int (x4 + (1 : Int32))), (3, .int (y1 + y0)), (0, .ref (ad 0)), (1, .int x1), (2, .int x2)]) S.1 S.2.1 dX11_heldBy_61 hl (k := 4) rfl rfl (by decide) rfl (fun ls hl => ?_)
        refine lv_goto (tgt := 10) S.1 S.2.1 dX11_heldBy_64 (by decide) ?_
        exact ih10 _ _ _ _ h _ _ _ (lv_sub hl [2, 3, 4, 1, 0] rfl) w
      refine lv_iload S.1 S.2.1 dX11_heldBy_10 (lv_at hl 4 rfl) ?_
      refine lv_aload_n S.1 S.2.1 dX11_heldBy_12 rfl (lv_at hl 0 rfl) ?_
      refine gM_0_5 S K w w733 dX11_heldBy_13 ?_
      refine lv_iconst (v := 0) S.1 S.2.1 dX11_heldBy_16 (by decide) ?_
      refine aM_4 S K w gk_0_2 dX11_heldBy_17 ?_
      refine lv_icmp_ge (tgt := 67) S.1 S.2.1 dX11_heldBy_18 (by decide) (fun c1 => ?_) (fun c1 => ?_)
      · have h := og_t c1 h
        refine lv_iload_n S.1 S.2.1 dX11_heldBy_67 rfl (lv_at hl 3 rfl) ?_
        refine lv_if_ge (tgt := 75) S.1 S.2.1 dX11_heldBy_68 (by decide) (fun c2 => ?_) (fun c2 => ?_)
        · have h := og_t c2 h
          refine lv_iload_n S.1 S.2.1 dX11_heldBy_75 rfl (lv_at hl 3 rfl) ?_
          exact j76 _ _ h _ _ _ (lv_sub hl [0, 1] rfl) w
        · have h := og_f c2 h
          refine lv_iconst (v := 0) S.1 S.2.1 dX11_heldBy_71 (by decide) ?_
          refine lv_goto (tgt := 76) S.1 S.2.1 dX11_heldBy_72 (by decide) ?_
          exact j76 _ _ h _ _ _ (lv_sub hl [0, 1] rfl) w
      · have h := og_f c1 h
        refine lv_iload_n S.1 S.2.1 dX11_heldBy_21 rfl (lv_at hl 3 rfl) ?_
        refine lv_iload_n S.1 S.2.1 dX11_heldBy_22 rfl (lv_at hl 2 rfl) ?_
        refine lv_iload S.1 S.2.1 dX11_heldBy_23 (lv_at hl 4 rfl) ?_
        refine lv_ishr S.1 S.2.1 dX11_heldBy_25 ?_
        refine lv_iconst (v := 1) S.1 S.2.1 dX11_heldBy_26 (by decide) ?_
        refine lv_iand S.1 S.2.1 dX11_heldBy_27 ?_
        refine lv_iconst (v := 1) S.1 S.2.1 dX11_heldBy_28 (by decide) ?_
        refine lv_icmp_ne (tgt := 58) S.1 S.2.1 dX11_heldBy_29 (by decide) (fun c3 => ?_) (fun c3 => ?_)
        · have h := og_f c3 h
          refine lv_iconst (v := 0) S.1 S.2.1 dX11_heldBy_58 (by decide) ?_
          exact j59 _ _ _ _ _ h _ _ _ (lv_sub hl [0, 1, 2, 4] rfl) w
        · have h := og_t c3 h
          refine lv_aload_n S.1 S.2.1 dX11_heldBy_32 rfl (lv_at hl 0 rfl) ?_
          refine gM_0_8 S K w w736 dX11_heldBy_33 ?_
          refine lv_bipush (v := 6) S.1 S.2.1 dX11_heldBy_36 (by decide) ?_
          refine lv_iload S.1 S.2.1 dX11_heldBy_38 (lv_at hl 4 rfl) ?_
          refine lv_imul S.1 S.2.1 dX11_heldBy_40 ?_
          refine lv_iload_n S.1 S.2.1 dX11_heldBy_41 rfl (lv_at hl 1 rfl) ?_
          refine lv_iadd S.1 S.2.1 dX11_heldBy_42 ?_
          obtain ⟨g4, h⟩ := og_g h
          refine aM_7 S K w g4 dX11_heldBy_43 ?_
          refine lv_aload_n S.1 S.2.1 dX11_heldBy_44 rfl (lv_at hl 0 rfl) ?_
          refine gM_0_7 S K w w735 dX11_heldBy_45 ?_
          refine lv_iload S.1 S.2.1 dX11_heldBy_48 (lv_at hl 4 rfl) ?_
          obtain ⟨g5, h⟩ := og_g h
          refine aM_6 S K w g5 dX11_heldBy_50 ?_
          refine lv_imul S.1 S.2.1 dX11_heldBy_51 ?_
          refine lv_bipush (v := 10) S.1 S.2.1 dX11_heldBy_52 (by decide) ?_
          refine lv_idiv S.1 S.2.1 dX11_heldBy_54 nz_10 ?_
          refine lv_goto (tgt := 59) S.1 S.2.1 dX11_heldBy_55 (by decide) ?_
          exact j59 _ _ _ _ _ h _ _ _ (lv_sub hl [0, 1, 2, 4] rfl) w
  refine lv_aload_n S.1 S.2.1 dX11_heldBy_0 rfl (lv_at hl 0 rfl) ?_
  refine gM_0_4 S K w w732 dX11_heldBy_1 ?_
  refine lv_iload_n S.1 S.2.1 dX11_heldBy_4 rfl (lv_at hl 1 rfl) ?_
  obtain ⟨g10, h⟩ := og_g h
  refine aM_3 S K w g10 dX11_heldBy_5 ?_
  refine lv_istore_n (lv' := [(3, .int (A 3 (a0).toNatClampNeg)), (0, .ref (ad 0)), (1, .int a0), (2, .int a1)]) S.1 S.2.1 dX11_heldBy_6 rfl hl (by decide) rfl (fun ls hl => ?_)
  refine lv_iconst (v := 0) S.1 S.2.1 dX11_heldBy_7 (by decide) ?_
  refine lv_istore (lv' := [(4, .int (0 : Int32)), (3, .int (A 3 (a0).toNatClampNeg)), (0, .ref (ad 0)), (1, .int a0), (2, .int a1)]) S.1 S.2.1 dX11_heldBy_8 hl (by decide) rfl (fun ls hl => ?_)
  exact j10 1000 _ _ _ _ h _ _ _ (lv_sub hl [2, 3, 4, 1, 0] rfl) w
set_option maxHeartbeats 4000000 in
set_option maxRecDepth 100000 in
theorem c_X11_hold (l : Launch) (D : va_G) (cs : Nat → ClassId) (ad : Nat → Nat) (F : ZF) (A : ZA) (T : Int64) (a0 : Int32) (q : ZS) (h : f_X11_hold a0 F A T = some q) : zMv l D cs (MW cs ad) yX11_hold cX11_hold 3 none rm_X11_hold ([.ref (ad 0), .int a0] : List Value) F A T q := by
  refine z_enterv (by decide) (Nat.le_of_ble_eq_true rfl) ?_
  intro p e s m below meth c A0 ls S K w hA hr hlk hl
  have S : CallFix p m c cX11_hold 3 s ([.ref (ad 0), .int a0] : List Value).toArray zWs RX11 := S
  have hl : lv_has ls 3 [(0, .ref (ad 0)), (1, .int a0)] := hl
  unfold f_X11_hold at h
  have j7 : ∀ (n7 : Nat) (x1 x2 : Int32) (F : ZF) (A : ZA) (T : Int64), f_X11_hold_7 n7 x1 x2 F A T = some q → ∀ (H : Heap) (locs : List Loc) (ls : Array Slot), lv_has ls 3 [(0, .ref (ad 0)), (1, .int x1), (2, .int x2)] → ZW D A0 s.heap (MW cs ad F A T) H locs → W p l e rm_X11_hold s m ([.ref (ad 0), .int a0] : List Value).toArray below meth c H locs 0 0 (zQv (MW cs ad) D A0 below ([.ref (ad 0), .int a0] : List Value) s q) (F0 m 7 ls []) := by
    intro n7
    induction n7 with
    | zero =>
      intro x1 x2 F A T h H locs ls hl w
      have h : (none : Option ZS) = some q := h
      cases h
    | succ n7 ih7 =>
      intro x1 x2 F A T h H locs ls hl w
      rw [f_X11_hold_7_s] at h
      refine lv_iload_n S.1 S.2.1 dX11_hold_7 rfl (lv_at hl 2 rfl) ?_
      refine lv_aload_n S.1 S.2.1 dX11_hold_8 rfl (lv_at hl 0 rfl) ?_
      refine gM_0_3 S K w w731 dX11_hold_9 ?_
      refine lv_iconst (v := 0) S.1 S.2.1 dX11_hold_12 (by decide) ?_
      refine aM_2 S K w gk_0_2 dX11_hold_13 ?_
      refine lv_icmp_ge (tgt := 50) S.1 S.2.1 dX11_hold_14 (by decide) (fun c1 => ?_) (fun c1 => ?_)
      · have h := og_t c1 h
        exact z_retv S w hr hlk dX11_hold_50 (Option.some.inj h).symm
      · have h := og_f c1 h
        refine lv_aload_n S.1 S.2.1 dX11_hold_17 rfl (lv_at hl 0 rfl) ?_
        refine gM_0_26 S K w w754 dX11_hold_18 ?_
        refine lv_iload_n S.1 S.2.1 dX11_hold_21 rfl (lv_at hl 2 rfl) ?_
        refine lv_aload_n S.1 S.2.1 dX11_hold_22 rfl (lv_at hl 0 rfl) ?_
        refine lv_iload_n S.1 S.2.1 dX11_hold_23 rfl (lv_at hl 2 rfl) ?_
        refine lv_iload_n S.1 S.2.1 dX11_hold_24 rfl (lv_at hl 1 rfl) ?_
        obtain ⟨q3, e4, h⟩ := og_b h
        refine z_callVr S K w hA (c_X11_heldBy l D cs ad F A T x2 x1 q3 e4) (cw_X11_144 S.2.2.2.2 ⟨Nat.le_of_ble_eq_true rfl, Nat.le_of_ble_eq_true rfl⟩) (z_recv K w 0 11 rfl rfl) rfl hl.1 rfl (Nat.le_of_ble_eq_true rfl) ⟨Nat.zero_le _, Nat.zero_le _⟩ dX11_hold_25 (fun b2 H locs w => ?_)
        obtain ⟨g5, h⟩ := og_g h
        refine sM_17 S K w g5 dX11_hold_28 (fun H locs w => ?_)
        refine lv_aload_n S.1 S.2.1 dX11_hold_29 rfl (lv_at hl 0 rfl) ?_
        refine lv_dup S.1 S.2.1 dX11_hold_30 rfl ?_
        refine gM_0_27 S K w w755 dX11_hold_31 ?_
        refine lv_aload_n S.1 S.2.1 dX11_hold_34 rfl (lv_at hl 0 rfl) ?_
        refine gM_0_26 S K w w754 dX11_hold_35 ?_
        refine lv_iload_n S.1 S.2.1 dX11_hold_38 rfl (lv_at hl 2 rfl) ?_
        obtain ⟨g6, h⟩ := og_g h
        refine aM_17 S K w g6 dX11_hold_39 ?_
        refine lv_iadd S.1 S.2.1 dX11_hold_40 ?_
        refine pM_0_27 S K w w755 dX11_hold_41 (fun H locs w => ?_)
        refine lv_iinc (v := (x2 + (1 : Int32))) (lv' := [(2, .int (x2 + (1 : Int32))), (0, .ref (ad 0)), (1, .int x1)]) S.1 S.2.1 dX11_hold_44 hl (k := 2) rfl rfl (by decide) rfl (fun ls hl => ?_)
        refine lv_goto (tgt := 7) S.1 S.2.1 dX11_hold_47 (by decide) ?_
        exact ih7 _ _ _ _ _ h _ _ _ (lv_sub hl [1, 2, 0] rfl) w
  refine lv_aload_n S.1 S.2.1 dX11_hold_0 rfl (lv_at hl 0 rfl) ?_
  refine lv_iconst (v := 0) S.1 S.2.1 dX11_hold_1 (by decide) ?_
  refine pM_0_27 S K w w755 dX11_hold_2 (fun H locs w => ?_)
  refine lv_iconst (v := 0) S.1 S.2.1 dX11_hold_5 (by decide) ?_
  refine lv_istore_n (lv' := [(2, .int (0 : Int32)), (0, .ref (ad 0)), (1, .int a0)]) S.1 S.2.1 dX11_hold_6 rfl hl (by decide) rfl (fun ls hl => ?_)
  exact j7 1000 _ _ _ _ _ h _ _ _ (lv_sub hl [1, 2, 0] rfl) w
set_option maxHeartbeats 4000000 in
set_option maxRecDepth 100000 in
theorem c_X11_serve (l : Launch) (D : va_G) (cs : Nat → ClassId) (ad : Nat → Nat) (F : ZF) (A : ZA) (T : Int64) (q : ZS) (h : f_X11_serve F A T = some q) : zMv l D cs (MW cs ad) yX11_serve cX11_serve 6 none rm_X11_serve ([.ref (ad 0)] : List Value) F A T q := by
  refine z_enterv (by decide) (Nat.le_of_ble_eq_true rfl) ?_
  intro p e s m below meth c A0 ls S K w hA hr hlk hl
  have S : CallFix p m c cX11_serve 6 s ([.ref (ad 0)] : List Value).toArray zWs RX11 := S
  have hl : lv_has ls 6 [(0, .ref (ad 0))] := hl
  unfold f_X11_serve at h
  have j20 : ∀ (n20 : Nat) (x1 x2 : Int32) (F : ZF) (A : ZA) (T : Int64), f_X11_serve_20 n20 x1 x2 F A T = some q → ∀ (H : Heap) (locs : List Loc) (ls : Array Slot), lv_has ls 6 [(0, .ref (ad 0)), (1, .int x1), (2, .int x2)] → ZW D A0 s.heap (MW cs ad F A T) H locs → W p l e rm_X11_serve s m ([.ref (ad 0)] : List Value).toArray below meth c H locs 0 0 (zQv (MW cs ad) D A0 below ([.ref (ad 0)] : List Value) s q) (F0 m 20 ls []) := by
    intro n20
    induction n20 with
    | zero =>
      intro x1 x2 F A T h H locs ls hl w
      have h : (none : Option ZS) = some q := h
      cases h
    | succ n20 ih20 =>
      intro x1 x2 F A T h H locs ls hl w
      rw [f_X11_serve_20_s] at h
      have j82 : ∀ (n82 : Nat) (x1 x2 : Int32) (F : ZF) (A : ZA) (T : Int64), f_X11_serve_82 n82 x1 x2 F A T = some q → ∀ (H : Heap) (locs : List Loc) (ls : Array Slot), lv_has ls 6 [(0, .ref (ad 0)), (1, .int x1), (2, .int x2)] → ZW D A0 s.heap (MW cs ad F A T) H locs → W p l e rm_X11_serve s m ([.ref (ad 0)] : List Value).toArray below meth c H locs 0 0 (zQv (MW cs ad) D A0 below ([.ref (ad 0)] : List Value) s q) (F0 m 82 ls []) := by
        intro n82
        induction n82 with
        | zero =>
          intro x1 x2 F A T h H locs ls hl w
          have h : (none : Option ZS) = some q := h
          cases h
        | succ n82 ih82 =>
          intro x1 x2 F A T h H locs ls hl w
          rw [f_X11_serve_82_s] at h
          have j92 : ∀ (n92 : Nat) (x1 x2 x3 x4 : Int32) (F : ZF) (A : ZA) (T : Int64), f_X11_serve_92 (f_X11_serve_82 n82) n92 x1 x2 x3 x4 F A T = some q → ∀ (H : Heap) (locs : List Loc) (ls : Array Slot), lv_has ls 6 [(0, .ref (ad 0)), (1, .int x1), (2, .int x2), (3, .int x3), (4, .int x4)] → ZW D A0 s.heap (MW cs ad F A T) H locs → W p l e rm_X11_serve s m ([.ref (ad 0)] : List Value).toArray below meth c H locs 0 0 (zQv (MW cs ad) D A0 below ([.ref (ad 0)] : List Value) s q) (F0 m 92 ls []) := by
            intro n92
            induction n92 with
            | zero =>
              intro x1 x2 x3 x4 F A T h H locs ls hl w
              have h : (none : Option ZS) = some q := h
              cases h
            | succ n92 ih92 =>
              intro x1 x2 x3 x4 F A T h H locs ls hl w
              rw [f_X11_serve_92_s] at h
              have j117 : ∀ (x1 x2 x3 x4 y0 : Int32) (F : ZF) (A : ZA) (T : Int64), f_X11_serve_117 (f_X11_serve_82 n82) (f_X11_serve_92 (f_X11_serve_82 n82) n92) x1 x2 x3 x4 y0 F A T = some q → ∀ (H : Heap) (locs : List Loc) (ls : Array Slot), lv_has ls 6 [(0, .ref (ad 0)), (1, .int x1), (2, .int x2), (3, .int x3), (4, .int x4)] → ZW D A0 s.heap (MW cs ad F A T) H locs → W p l e rm_X11_serve s m ([.ref (ad 0)] : List Value).toArray below meth c H locs 0 0 (zQv (MW cs ad) D A0 below ([.ref (ad 0)] : List Value) s q) (F0 m 117 ls [.int y0]) := by
                intro x1 x2 x3 x4 y0 F A T h H locs ls hl w
                unfold f_X11_serve_117 at h
                refine lv_istore (lv' := [(5, .int y0), (0, .ref (ad 0)), (1, .int x1), (2, .int x2), (3, .int x3), (4, .int x4)]) S.1 S.2.1 dX11_serve_117 hl (by decide) rfl (fun ls hl => ?_)
                refine lv_iload S.1 S.2.1 dX11_serve_119 (lv_at hl 0 rfl) ?_
                refine lv_if_eq (tgt := 173) S.1 S.2.1 dX11_serve_121 (by decide) (fun c10 => ?_) (fun c10 => ?_)
                · have h := og_t c10 h
                  refine lv_iinc (v := (x4 + (1 : Int32))) (lv' := [(4, .int (x4 + (1 : Int32))), (5, .int y0), (0, .ref (ad 0)), (1, .int x1), (2, .int x2), (3, .int x3)]) S.1 S.2.1 dX11_serve_173 hl (k := 5) rfl rfl (by decide) rfl (fun ls hl => ?_)
                  refine lv_goto (tgt := 92) S.1 S.2.1 dX11_serve_176 (by decide) ?_
                  exact ih92 _ _ _ _ _ _ _ h _ _ _ (lv_sub hl [2, 3, 4, 5, 0] rfl) w
                · have h := og_f c10 h
                  refine lv_iload_n S.1 S.2.1 dX11_serve_124 rfl (lv_at hl 4 rfl) ?_
                  refine lv_bipush (v := -9) S.1 S.2.1 dX11_serve_125 (by decide) ?_
                  refine lv_icmp_eq (tgt := 170) S.1 S.2.1 dX11_serve_127 (by decide) (fun c11 => ?_) (fun c11 => ?_)
                  · have h := og_t c11 h
                    refine lv_iload S.1 S.2.1 dX11_serve_170 (lv_at hl 5 rfl) ?_
                    refine lv_istore_n (lv' := [(3, .int x4), (5, .int y0), (0, .ref (ad 0)), (1, .int x1), (2, .int x2), (4, .int x4)]) S.1 S.2.1 dX11_serve_172 rfl hl (by decide) rfl (fun ls hl => ?_)
                    refine lv_iinc (v := (x4 + (1 : Int32))) (lv' := [(4, .int (x4 + (1 : Int32))), (3, .int x4), (5, .int y0), (0, .ref (ad 0)), (1, .int x1), (2, .int x2)]) S.1 S.2.1 dX11_serve_173 hl (k := 5) rfl rfl (by decide) rfl (fun ls hl => ?_)
                    refine lv_goto (tgt := 92) S.1 S.2.1 dX11_serve_176 (by decide) ?_
                    exact ih92 _ _ _ _ _ _ _ h _ _ _ (lv_sub hl [3, 4, 5, 1, 0] rfl) w
                  · have h := og_f c11 h
                    refine lv_aload_n S.1 S.2.1 dX11_serve_130 rfl (lv_at hl 1 rfl) ?_
                    refine gM_0_24 S K w w752 dX11_serve_131 ?_
                    refine lv_iconst (v := 2) S.1 S.2.1 dX11_serve_134 (by decide) ?_
                    refine aM_15 S K w gk_2_102 dX11_serve_135 ?_
                    refine lv_aload_n S.1 S.2.1 dX11_serve_136 rfl (lv_at hl 1 rfl) ?_
                    refine gM_0_26 S K w w754 dX11_serve_137 ?_
                    refine lv_iload S.1 S.2.1 dX11_serve_140 (lv_at hl 5 rfl) ?_
                    obtain ⟨g12, h⟩ := og_g h
                    refine aM_17 S K w g12 dX11_serve_142 ?_
                    refine lv_imul S.1 S.2.1 dX11_serve_143 ?_
                    refine lv_aload_n S.1 S.2.1 dX11_serve_144 rfl (lv_at hl 1 rfl) ?_
                    refine gM_0_27 S K w w755 dX11_serve_145 ?_
                    obtain ⟨g13, h⟩ := og_d h
                    refine lv_irem S.1 S.2.1 dX11_serve_148 g13 ?_
                    refine lv_aload_n S.1 S.2.1 dX11_serve_149 rfl (lv_at hl 1 rfl) ?_
                    refine gM_0_24 S K w w752 dX11_serve_150 ?_
                    refine lv_iconst (v := 2) S.1 S.2.1 dX11_serve_153 (by decide) ?_
                    refine aM_15 S K w gk_2_102 dX11_serve_154 ?_
                    refine lv_aload_n S.1 S.2.1 dX11_serve_155 rfl (lv_at hl 1 rfl) ?_
                    refine gM_0_26 S K w w754 dX11_serve_156 ?_
                    refine lv_iload_n S.1 S.2.1 dX11_serve_159 rfl (lv_at hl 4 rfl) ?_
                    obtain ⟨g14, h⟩ := og_g h
                    refine aM_17 S K w g14 dX11_serve_160 ?_
                    refine lv_imul S.1 S.2.1 dX11_serve_161 ?_
                    refine lv_aload_n S.1 S.2.1 dX11_serve_162 rfl (lv_at hl 1 rfl) ?_
                    refine gM_0_27 S K w w755 dX11_serve_163 ?_
                    obtain ⟨g15, h⟩ := og_d h
                    refine lv_irem S.1 S.2.1 dX11_serve_166 g15 ?_
                    refine lv_icmp_le (tgt := 173) S.1 S.2.1 dX11_serve_167 (by decide) (fun c16 => ?_) (fun c16 => ?_)
                    · have h := og_t c16 h
                      refine lv_iinc (v := (x4 + (1 : Int32))) (lv' := [(4, .int (x4 + (1 : Int32))), (5, .int y0), (0, .ref (ad 0)), (1, .int x1), (2, .int x2), (3, .int x3)]) S.1 S.2.1 dX11_serve_173 hl (k := 5) rfl rfl (by decide) rfl (fun ls hl => ?_)
                      refine lv_goto (tgt := 92) S.1 S.2.1 dX11_serve_176 (by decide) ?_
                      exact ih92 _ _ _ _ _ _ _ h _ _ _ (lv_sub hl [2, 3, 4, 5, 0] rfl) w
                    · have h := og_f c16 h
                      refine lv_iload S.1 S.2.1 dX11_serve_170 (lv_at hl 5 rfl) ?_
                      refine lv_istore_n (lv' := [(3, .int x4), (5, .int y0), (0, .ref (ad 0)), (1, .int x1), (2, .int x2), (4, .int x4)]) S.1 S.2.1 dX11_serve_172 rfl hl (by decide) rfl (fun ls hl => ?_)
                      refine lv_iinc (v := (x4 + (1 : Int32))) (lv' := [(4, .int (x4 + (1 : Int32))), (3, .int x4), (5, .int y0), (0, .ref (ad 0)), (1, .int x1), (2, .int x2)]) S.1 S.2.1 dX11_serve_173 hl (k := 5) rfl rfl (by decide) rfl (fun ls hl => ?_)
                      refine lv_goto (tgt := 92) S.1 S.2.1 dX11_serve_176 (by decide) ?_
                      exact ih92 _ _ _ _ _ _ _ h _ _ _ (lv_sub hl [3, 4, 5, 1, 0] rfl) w
              refine lv_iload S.1 S.2.1 dX11_serve_92 (lv_at hl 4 rfl) ?_
              refine lv_aload_n S.1 S.2.1 dX11_serve_94 rfl (lv_at hl 0 rfl) ?_
              refine gM_0_3 S K w w731 dX11_serve_95 ?_
              refine lv_iconst (v := 0) S.1 S.2.1 dX11_serve_98 (by decide) ?_
              refine aM_2 S K w gk_0_2 dX11_serve_99 ?_
              refine lv_icmp_ge (tgt := 179) S.1 S.2.1 dX11_serve_100 (by decide) (fun c6 => ?_) (fun c6 => ?_)
              · have h := og_t c6 h
                refine lv_aload_n S.1 S.2.1 dX11_serve_179 rfl (lv_at hl 0 rfl) ?_
                refine gM_0_28 S K w w756 dX11_serve_180 ?_
                refine lv_iload_n S.1 S.2.1 dX11_serve_183 rfl (lv_at hl 3 rfl) ?_
                refine lv_dup2_11 S.1 S.2.1 dX11_serve_184 rfl rfl ?_
                obtain ⟨g7, h⟩ := og_g h
                refine aM_18 S K w g7 dX11_serve_185 ?_
                refine lv_iconst (v := 1) S.1 S.2.1 dX11_serve_186 (by decide) ?_
                refine lv_iadd S.1 S.2.1 dX11_serve_187 ?_
                obtain ⟨g8, h⟩ := og_g h
                refine sM_18 S K w g8 dX11_serve_188 (fun H locs w => ?_)
                refine lv_iload_n S.1 S.2.1 dX11_serve_189 rfl (lv_at hl 2 rfl) ?_
                refine lv_iconst (v := 1) S.1 S.2.1 dX11_serve_190 (by decide) ?_
                refine lv_iload_n S.1 S.2.1 dX11_serve_191 rfl (lv_at hl 3 rfl) ?_
                refine lv_ishl S.1 S.2.1 dX11_serve_192 ?_
                refine lv_ior S.1 S.2.1 dX11_serve_193 ?_
                refine lv_istore_n (lv' := [(2, .int (x2 ||| ((1 : Int32) <<< (x3 &&& 31)))), (0, .ref (ad 0)), (1, .int x1), (3, .int x3), (4, .int x4)]) S.1 S.2.1 dX11_serve_194 rfl hl (by decide) rfl (fun ls hl => ?_)
                refine lv_iinc (v := (x1 + (-1 : Int32))) (lv' := [(1, .int (x1 + (-1 : Int32))), (2, .int (x2 ||| ((1 : Int32) <<< (x3 &&& 31)))), (0, .ref (ad 0)), (3, .int x3), (4, .int x4)]) S.1 S.2.1 dX11_serve_195 hl (k := 2) rfl rfl (by decide) rfl (fun ls hl => ?_)
                refine lv_goto (tgt := 82) S.1 S.2.1 dX11_serve_198 (by decide) ?_
                exact ih82 _ _ _ _ _ h _ _ _ (lv_sub hl [2, 0, 1] rfl) w
              · have h := og_f c6 h
                refine lv_iload_n S.1 S.2.1 dX11_serve_103 rfl (lv_at hl 2 rfl) ?_
                refine lv_iload S.1 S.2.1 dX11_serve_104 (lv_at hl 4 rfl) ?_
                refine lv_ishr S.1 S.2.1 dX11_serve_106 ?_
                refine lv_iconst (v := 1) S.1 S.2.1 dX11_serve_107 (by decide) ?_
                refine lv_iand S.1 S.2.1 dX11_serve_108 ?_
                refine lv_if_ne (tgt := 116) S.1 S.2.1 dX11_serve_109 (by decide) (fun c9 => ?_) (fun c9 => ?_)
                · have h := og_f c9 h
                  refine lv_iconst (v := 0) S.1 S.2.1 dX11_serve_116 (by decide) ?_
                  exact j117 _ _ _ _ _ _ _ _ h _ _ _ (lv_sub hl [0, 1, 2, 3, 4] rfl) w
                · have h := og_t c9 h
                  refine lv_iconst (v := 1) S.1 S.2.1 dX11_serve_112 (by decide) ?_
                  refine lv_goto (tgt := 117) S.1 S.2.1 dX11_serve_113 (by decide) ?_
                  exact j117 _ _ _ _ _ _ _ _ h _ _ _ (lv_sub hl [0, 1, 2, 3, 4] rfl) w
          refine lv_iload_n S.1 S.2.1 dX11_serve_82 rfl (lv_at hl 1 rfl) ?_
          refine lv_if_le (tgt := 201) S.1 S.2.1 dX11_serve_83 (by decide) (fun c5 => ?_) (fun c5 => ?_)
          · have h := og_t c5 h
            exact z_retv S w hr hlk dX11_serve_201 (Option.some.inj h).symm
          · have h := og_f c5 h
            refine lv_bipush (v := -9) S.1 S.2.1 dX11_serve_86 (by decide) ?_
            refine lv_istore_n (lv' := [(3, .int (-9 : Int32)), (0, .ref (ad 0)), (1, .int x1), (2, .int x2)]) S.1 S.2.1 dX11_serve_88 rfl hl (by decide) rfl (fun ls hl => ?_)
            refine lv_iconst (v := 0) S.1 S.2.1 dX11_serve_89 (by decide) ?_
            refine lv_istore (lv' := [(4, .int (0 : Int32)), (3, .int (-9 : Int32)), (0, .ref (ad 0)), (1, .int x1), (2, .int x2)]) S.1 S.2.1 dX11_serve_90 hl (by decide) rfl (fun ls hl => ?_)
            exact j92 1000 _ _ _ _ _ _ _ h _ _ _ (lv_sub hl [2, 3, 4, 1, 0] rfl) w
      have j64 : ∀ (x1 x2 y0 y1 : Int32) (F : ZF) (A : ZA) (T : Int64), f_X11_serve_64 (f_X11_serve_20 n20) x1 x2 y0 y1 F A T = some q → ∀ (H : Heap) (locs : List Loc) (ls : Array Slot), lv_has ls 6 [(0, .ref (ad 0)), (1, .int x1), (2, .int x2)] → ZW D A0 s.heap (MW cs ad F A T) H locs → W p l e rm_X11_serve s m ([.ref (ad 0)] : List Value).toArray below meth c H locs 0 0 (zQv (MW cs ad) D A0 below ([.ref (ad 0)] : List Value) s q) (F0 m 64 ls [.int y0, .int y1, .ref (ad 18)]) := by
        intro x1 x2 y0 y1 F A T h H locs ls hl w
        unfold f_X11_serve_64 at h
        obtain ⟨g17, h⟩ := og_g h
        refine sM_18 S K w g17 dX11_serve_64 (fun H locs w => ?_)
        refine lv_iload_n S.1 S.2.1 dX11_serve_65 rfl (lv_at hl 1 rfl) ?_
        refine lv_aload_n S.1 S.2.1 dX11_serve_66 rfl (lv_at hl 0 rfl) ?_
        refine gM_0_28 S K w w756 dX11_serve_67 ?_
        refine lv_iload_n S.1 S.2.1 dX11_serve_70 rfl (lv_at hl 2 rfl) ?_
        obtain ⟨g18, h⟩ := og_g h
        refine aM_18 S K w g18 dX11_serve_71 ?_
        refine lv_isub S.1 S.2.1 dX11_serve_72 ?_
        refine lv_istore_n (lv' := [(1, .int (x1 - ((zst A 18 (y1).toNatClampNeg y0) 18 (x2).toNatClampNeg))), (0, .ref (ad 0)), (2, .int x2)]) S.1 S.2.1 dX11_serve_73 rfl hl (by decide) rfl (fun ls hl => ?_)
        refine lv_iinc (v := (x2 + (1 : Int32))) (lv' := [(2, .int (x2 + (1 : Int32))), (1, .int (x1 - ((zst A 18 (y1).toNatClampNeg y0) 18 (x2).toNatClampNeg))), (0, .ref (ad 0))]) S.1 S.2.1 dX11_serve_74 hl (k := 2) rfl rfl (by decide) rfl (fun ls hl => ?_)
        refine lv_goto (tgt := 20) S.1 S.2.1 dX11_serve_77 (by decide) ?_
        exact ih20 _ _ _ _ _ h _ _ _ (lv_sub hl [2, 1, 0] rfl) w
      refine lv_iload_n S.1 S.2.1 dX11_serve_20 rfl (lv_at hl 2 rfl) ?_
      refine lv_aload_n S.1 S.2.1 dX11_serve_21 rfl (lv_at hl 0 rfl) ?_
      refine gM_0_3 S K w w731 dX11_serve_22 ?_
      refine lv_iconst (v := 0) S.1 S.2.1 dX11_serve_25 (by decide) ?_
      refine aM_2 S K w gk_0_2 dX11_serve_26 ?_
      refine lv_icmp_ge (tgt := 80) S.1 S.2.1 dX11_serve_27 (by decide) (fun c1 => ?_) (fun c1 => ?_)
      · have h := og_t c1 h
        refine lv_iconst (v := 0) S.1 S.2.1 dX11_serve_80 (by decide) ?_
        refine lv_istore_n (lv' := [(2, .int (0 : Int32)), (0, .ref (ad 0)), (1, .int x1)]) S.1 S.2.1 dX11_serve_81 rfl hl (by decide) rfl (fun ls hl => ?_)
        exact j82 1000 _ _ _ _ _ h _ _ _ (lv_sub hl [1, 2, 0] rfl) w
      · have h := og_f c1 h
        refine lv_aload_n S.1 S.2.1 dX11_serve_30 rfl (lv_at hl 0 rfl) ?_
        refine gM_0_28 S K w w756 dX11_serve_31 ?_
        refine lv_iload_n S.1 S.2.1 dX11_serve_34 rfl (lv_at hl 2 rfl) ?_
        refine lv_aload_n S.1 S.2.1 dX11_serve_35 rfl (lv_at hl 0 rfl) ?_
        refine gM_0_27 S K w w755 dX11_serve_36 ?_
        refine lv_if_ne (tgt := 46) S.1 S.2.1 dX11_serve_39 (by decide) (fun c2 => ?_) (fun c2 => ?_)
        · have h := og_f c2 h
          refine lv_aload_n S.1 S.2.1 dX11_serve_46 rfl (lv_at hl 0 rfl) ?_
          refine gM_0_24 S K w w752 dX11_serve_47 ?_
          refine lv_iconst (v := 2) S.1 S.2.1 dX11_serve_50 (by decide) ?_
          refine aM_15 S K w gk_2_102 dX11_serve_51 ?_
          refine lv_aload_n S.1 S.2.1 dX11_serve_52 rfl (lv_at hl 0 rfl) ?_
          refine gM_0_26 S K w w754 dX11_serve_53 ?_
          refine lv_iload_n S.1 S.2.1 dX11_serve_56 rfl (lv_at hl 2 rfl) ?_
          obtain ⟨g3, h⟩ := og_g h
          refine aM_17 S K w g3 dX11_serve_57 ?_
          refine lv_imul S.1 S.2.1 dX11_serve_58 ?_
          refine lv_aload_n S.1 S.2.1 dX11_serve_59 rfl (lv_at hl 0 rfl) ?_
          refine gM_0_27 S K w w755 dX11_serve_60 ?_
          obtain ⟨g4, h⟩ := og_d h
          refine lv_idiv S.1 S.2.1 dX11_serve_63 g4 ?_
          exact j64 _ _ _ _ _ _ _ h _ _ _ (lv_sub hl [0, 1, 2] rfl) w
        · have h := og_t c2 h
          refine lv_iconst (v := 0) S.1 S.2.1 dX11_serve_42 (by decide) ?_
          refine lv_goto (tgt := 64) S.1 S.2.1 dX11_serve_43 (by decide) ?_
          exact j64 _ _ _ _ _ _ _ h _ _ _ (lv_sub hl [0, 1, 2] rfl) w
  refine lv_aload_n S.1 S.2.1 dX11_serve_0 rfl (lv_at hl 0 rfl) ?_
  refine gM_0_27 S K w w755 dX11_serve_1 ?_
  refine lv_if_ne (tgt := 11) S.1 S.2.1 dX11_serve_4 (by decide) (fun c19 => ?_) (fun c19 => ?_)
  · have h := og_f c19 h
    refine lv_aload_n S.1 S.2.1 dX11_serve_11 rfl (lv_at hl 0 rfl) ?_
    refine gM_0_24 S K w w752 dX11_serve_12 ?_
    refine lv_iconst (v := 2) S.1 S.2.1 dX11_serve_15 (by decide) ?_
    refine aM_15 S K w gk_2_102 dX11_serve_16 ?_
    refine lv_istore_n (lv' := [(1, .int (A 15 ((2 : Int32)).toNatClampNeg)), (0, .ref (ad 0))]) S.1 S.2.1 dX11_serve_17 rfl hl (by decide) rfl (fun ls hl => ?_)
    refine lv_iconst (v := 0) S.1 S.2.1 dX11_serve_18 (by decide) ?_
    refine lv_istore_n (lv' := [(2, .int (0 : Int32)), (1, .int (A 15 ((2 : Int32)).toNatClampNeg)), (0, .ref (ad 0))]) S.1 S.2.1 dX11_serve_19 rfl hl (by decide) rfl (fun ls hl => ?_)
    exact j20 1000 _ _ _ _ _ h _ _ _ (lv_sub hl [2, 1, 0] rfl) w
  · have h := og_t c19 h
    refine lv_iconst (v := 0) S.1 S.2.1 dX11_serve_7 (by decide) ?_
    refine lv_goto (tgt := 17) S.1 S.2.1 dX11_serve_8 (by decide) ?_
    refine lv_istore_n (lv' := [(1, .int (0 : Int32)), (0, .ref (ad 0))]) S.1 S.2.1 dX11_serve_17 rfl hl (by decide) rfl (fun ls hl => ?_)
    refine lv_iconst (v := 0) S.1 S.2.1 dX11_serve_18 (by decide) ?_
    refine lv_istore_n (lv' := [(2, .int (0 : Int32)), (1, .int (0 : Int32)), (0, .ref (ad 0))]) S.1 S.2.1 dX11_serve_19 rfl hl (by decide) rfl (fun ls hl => ?_)
    exact j20 1000 _ _ _ _ _ h _ _ _ (lv_sub hl [2, 1, 0] rfl) w
set_option maxHeartbeats 4000000 in
set_option maxRecDepth 100000 in
theorem c_X11_asNow (l : Launch) (D : va_G) (cs : Nat → ClassId) (ad : Nat → Nat) (F : ZF) (A : ZA) (T : Int64) (q : ZS) (h : f_X11_asNow F A T = some q) : zMv l D cs (MW cs ad) yX11_asNow cX11_asNow 1 none rm_X11_asNow ([.ref (ad 0)] : List Value) F A T q := by
  refine z_enterv (by decide) (Nat.le_of_ble_eq_true rfl) ?_
  intro p e s m below meth c A0 ls S K w hA hr hlk hl
  have S : CallFix p m c cX11_asNow 1 s ([.ref (ad 0)] : List Value).toArray zWs RX11 := S
  have hl : lv_has ls 1 [(0, .ref (ad 0))] := hl
  unfold f_X11_asNow at h
  refine lv_aload_n S.1 S.2.1 dX11_asNow_0 rfl (lv_at hl 0 rfl) ?_
  refine lv_aload_n S.1 S.2.1 dX11_asNow_1 rfl (lv_at hl 0 rfl) ?_
  refine gM_0_24 S K w w752 dX11_asNow_2 ?_
  refine lv_iconst (v := 0) S.1 S.2.1 dX11_asNow_5 (by decide) ?_
  refine aM_15 S K w gk_0_102 dX11_asNow_6 ?_
  obtain ⟨q1, e2, h⟩ := og_b h
  refine z_callVv S K w hA (c_X11_hold l D cs ad F A T (A 15 ((0 : Int32)).toNatClampNeg) q1 e2) (cw_X11_147 S.2.2.2.2 ⟨Nat.le_of_ble_eq_true rfl, Nat.le_of_ble_eq_true rfl⟩) (z_recv K w 0 11 rfl rfl) rfl hl.1 rfl (Nat.le_of_ble_eq_true rfl) ⟨Nat.zero_le _, Nat.zero_le _⟩ dX11_asNow_7 (fun H locs w => ?_)
  refine lv_aload_n S.1 S.2.1 dX11_asNow_10 rfl (lv_at hl 0 rfl) ?_
  obtain ⟨q3, e4, h⟩ := og_b h
  refine z_callVv S K w hA (c_X11_serve l D cs ad q1.1 q1.2.1 q1.2.2 q3 e4) (cw_X11_150 S.2.2.2.2 ⟨Nat.le_of_ble_eq_true rfl, Nat.le_of_ble_eq_true rfl⟩) (z_recv K w 0 11 rfl rfl) rfl hl.1 rfl (Nat.le_of_ble_eq_true rfl) ⟨Nat.zero_le _, Nat.zero_le _⟩ dX11_asNow_11 (fun H locs w => ?_)
  exact z_retv S w hr hlk dX11_asNow_14 (Option.some.inj h).symm
set_option maxHeartbeats 4000000 in
set_option maxRecDepth 100000 in
theorem c_X11_suspect (l : Launch) (D : va_G) (cs : Nat → ClassId) (ad : Nat → Nat) (F : ZF) (A : ZA) (T : Int64) (a0 a1 : Int32) (q : (Int32 × ZS)) (h : f_X11_suspect a0 a1 F A T = some q) : zMi l D cs (MW cs ad) yX11_suspect cX11_suspect 3 (some .int) rm_X11_suspect ([.ref (ad 0), .int a0, .int a1] : List Value) F A T q True := by
  refine z_enteri (by decide) (Nat.le_of_ble_eq_true rfl) ?_
  intro p e s m below meth c A0 ls S K w hA hr hlk hl
  have S : CallFix p m c cX11_suspect 3 s ([.ref (ad 0), .int a0, .int a1] : List Value).toArray zWs RX11 := S
  have hl : lv_has ls 3 [(0, .ref (ad 0)), (1, .int a0), (2, .int a1)] := hl
  unfold f_X11_suspect at h
  refine lv_aload_n S.1 S.2.1 dX11_suspect_0 rfl (lv_at hl 0 rfl) ?_
  refine lv_iload_n S.1 S.2.1 dX11_suspect_1 rfl (lv_at hl 1 rfl) ?_
  refine z_callVr S K w hA (c_X11_isSuspect l D cs ad F A T a0 (f_X11_isSuspect a0 F A T) rfl) (cw_X11_153 S.2.2.2.2 ⟨Nat.le_of_ble_eq_true rfl, Nat.le_of_ble_eq_true rfl⟩) (z_recv K w 0 11 rfl rfl) rfl hl.1 rfl (Nat.le_of_ble_eq_true rfl) ⟨Nat.zero_le _, Nat.zero_le _⟩ dX11_suspect_2 (fun b1 H locs w => ?_)
  refine lv_if_ne (tgt := 10) S.1 S.2.1 dX11_suspect_5 (by decide) (fun c2 => ?_) (fun c2 => ?_)
  · have h := og_f c2 h
    refine lv_aload_n S.1 S.2.1 dX11_suspect_10 rfl (lv_at hl 0 rfl) ?_
    obtain ⟨q3, e4, h⟩ := og_b h
    refine z_callVv S K w hA (c_X11_asNow l D cs ad F A T q3 e4) (cw_X11_156 S.2.2.2.2 ⟨Nat.le_of_ble_eq_true rfl, Nat.le_of_ble_eq_true rfl⟩) (z_recv K w 0 11 rfl rfl) rfl hl.1 rfl (Nat.le_of_ble_eq_true rfl) ⟨Nat.zero_le _, Nat.zero_le _⟩ dX11_suspect_11 (fun H locs w => ?_)
    refine lv_iload_n S.1 S.2.1 dX11_suspect_14 rfl (lv_at hl 2 rfl) ?_
    by_cases c5 : a1 = (0 : Int32)
    · have h := og_t c5 h
      refine lv_tableIn (tgt := 44) S.1 S.2.1 dX11_suspect_15 (by rw [c5]; decide) (by rw [c5]; decide) (off := 29) (by rw [c5]; decide) (by decide) ?_
      refine lv_aload_n S.1 S.2.1 dX11_suspect_44 rfl (lv_at hl 0 rfl) ?_
      refine gM_0_4 S K w w732 dX11_suspect_45 ?_
      refine lv_iload_n S.1 S.2.1 dX11_suspect_48 rfl (lv_at hl 1 rfl) ?_
      obtain ⟨g6, h⟩ := og_g h
      refine aM_3 S K w g6 dX11_suspect_49 ?_
      exact z_reti S w hr hlk dX11_suspect_50 trivial (Option.some.inj h).symm
    · have h := og_f c5 h
      by_cases c7 : a1 = (1 : Int32)
      · have h := og_t c7 h
        refine lv_tableIn (tgt := 51) S.1 S.2.1 dX11_suspect_15 (by rw [c7]; decide) (by rw [c7]; decide) (off := 36) (by rw [c7]; decide) (by decide) ?_
        refine lv_aload_n S.1 S.2.1 dX11_suspect_51 rfl (lv_at hl 0 rfl) ?_
        refine gM_0_26 S K w w754 dX11_suspect_52 ?_
        refine lv_iload_n S.1 S.2.1 dX11_suspect_55 rfl (lv_at hl 1 rfl) ?_
        obtain ⟨g8, h⟩ := og_g h
        refine aM_17 S K w g8 dX11_suspect_56 ?_
        exact z_reti S w hr hlk dX11_suspect_57 trivial (Option.some.inj h).symm
      · have h := og_f c7 h
        by_cases c9 : a1 = (2 : Int32)
        · have h := og_t c9 h
          refine lv_tableIn (tgt := 58) S.1 S.2.1 dX11_suspect_15 (by rw [c9]; decide) (by rw [c9]; decide) (off := 43) (by rw [c9]; decide) (by decide) ?_
          refine lv_aload_n S.1 S.2.1 dX11_suspect_58 rfl (lv_at hl 0 rfl) ?_
          refine gM_0_28 S K w w756 dX11_suspect_59 ?_
          refine lv_iload_n S.1 S.2.1 dX11_suspect_62 rfl (lv_at hl 1 rfl) ?_
          obtain ⟨g10, h⟩ := og_g h
          refine aM_18 S K w g10 dX11_suspect_63 ?_
          exact z_reti S w hr hlk dX11_suspect_64 trivial (Option.some.inj h).symm
        · have h := og_f c9 h
          by_cases c11 : a1 = (3 : Int32)
          · have h := og_t c11 h
            refine lv_tableIn (tgt := 65) S.1 S.2.1 dX11_suspect_15 (by rw [c11]; decide) (by rw [c11]; decide) (off := 50) (by rw [c11]; decide) (by decide) ?_
            refine lv_aload_n S.1 S.2.1 dX11_suspect_65 rfl (lv_at hl 0 rfl) ?_
            refine lv_iload_n S.1 S.2.1 dX11_suspect_66 rfl (lv_at hl 1 rfl) ?_
            obtain ⟨q13, e14, h⟩ := og_b h
            refine z_callVr S K w hA (c_X11_hoursOf l D cs ad q3.1 q3.2.1 q3.2.2 a0 q13 e14) (cw_X11_137 S.2.2.2.2 ⟨Nat.le_of_ble_eq_true rfl, Nat.le_of_ble_eq_true rfl⟩) (z_recv K w 0 11 rfl rfl) rfl hl.1 rfl (Nat.le_of_ble_eq_true rfl) ⟨Nat.zero_le _, Nat.zero_le _⟩ dX11_suspect_67 (fun b12 H locs w => ?_)
            exact z_reti S w hr hlk dX11_suspect_70 trivial (Option.some.inj h).symm
          · have h := og_f c11 h
            refine lv_tableOut (tgt := 71) S.1 S.2.1 dX11_suspect_15 (by have := lv_neT (k := (0 : Int32)) (a := 0) c5 (by decide); have := lv_neT (k := (1 : Int32)) (a := 1) c7 (by decide); have := lv_neT (k := (2 : Int32)) (a := 2) c9 (by decide); have := lv_neT (k := (3 : Int32)) (a := 3) c11 (by decide); omega) (by decide) ?_
            refine lv_iconst (v := -1) S.1 S.2.1 dX11_suspect_71 (by decide) ?_
            exact z_reti S w hr hlk dX11_suspect_72 trivial (Option.some.inj h).symm
  · have h := og_t c2 h
    refine lv_iconst (v := -1) S.1 S.2.1 dX11_suspect_8 (by decide) ?_
    exact z_reti S w hr hlk dX11_suspect_9 trivial (Option.some.inj h).symm
set_option maxHeartbeats 4000000 in
set_option maxRecDepth 100000 in
theorem c_X10_clear (l : Launch) (D : va_G) (cs : Nat → ClassId) (ad : Nat → Nat) (F : ZF) (A : ZA) (T : Int64) (q : (Int32 × ZS)) (h : f_X10_clear F A T = some q) : zMi l D cs (XWc cs ad 10 11) yX10_clear cX10_clear 2 (some .int) rm_X10_clear ([.ref (ad 0)] : List Value) F A T q True := by
  refine z_enteri (by decide) (Nat.le_of_ble_eq_true rfl) ?_
  intro p e s m below meth c A0 ls S K w hA hr hlk hl
  have S : CallFix p m c cX10_clear 2 s ([.ref (ad 0)] : List Value).toArray zWs RX10 := S
  have hl : lv_has ls 2 [(0, .ref (ad 0))] := hl
  unfold f_X10_clear at h
  refine lv_aload_n S.1 S.2.1 dX10_clear_0 rfl (lv_at hl 0 rfl) ?_
  refine gX_0_0 S K w w311 dX10_clear_1 ?_
  refine gX_1_1 S K w w87 dX10_clear_4 ?_
  refine lv_istore_n (lv' := [(1, .int (F 1)), (0, .ref (ad 0))]) S.1 S.2.1 dX10_clear_7 rfl hl (by decide) rfl (fun ls hl => ?_)
  refine lv_aload_n S.1 S.2.1 dX10_clear_8 rfl (lv_at hl 1 rfl) ?_
  refine gX_0_0 S K w w311 dX10_clear_9 ?_
  refine lv_iconst (v := 0) S.1 S.2.1 dX10_clear_12 (by decide) ?_
  refine pX_1_1 S K w w87 dX10_clear_13 (fun H locs w => ?_)
  refine lv_iload_n S.1 S.2.1 dX10_clear_16 rfl (lv_at hl 0 rfl) ?_
  exact z_reti S w hr hlk dX10_clear_17 trivial (Option.some.inj h).symm
set_option maxHeartbeats 4000000 in
set_option maxRecDepth 100000 in
theorem c_X10_within (l : Launch) (D : va_G) (cs : Nat → ClassId) (ad : Nat → Nat) (F : ZF) (A : ZA) (T : Int64) (a0 a1 a2 : Int32) (q : Int32) (h : f_X10_within a0 a1 a2 = q) : zMi l D cs (XWc cs ad 10 11) yX10_within cX10_within 3 (some .boolean) rm_X10_within ([.int a0, .int a1, .int a2] : List Value) F A T ((q, F, A, T) : Int32 × ZS) (((q, F, A, T) : Int32 × ZS).1 &&& 1 = ((q, F, A, T) : Int32 × ZS).1) := by
  refine z_enteri (by decide) (Nat.le_of_ble_eq_true rfl) ?_
  intro p e s m below meth c A0 ls S K w hA hr hlk hl
  have S : CallFix p m c cX10_within 3 s ([.int a0, .int a1, .int a2] : List Value).toArray zWs RX10 := S
  have hl : lv_has ls 3 [(0, .int a0), (1, .int a1), (2, .int a2)] := hl
  unfold f_X10_within at h
  refine lv_iload_n S.1 S.2.1 dX10_within_0 rfl (lv_at hl 0 rfl) ?_
  refine lv_iload_n S.1 S.2.1 dX10_within_1 rfl (lv_at hl 1 rfl) ?_
  refine lv_icmp_lt (tgt := 14) S.1 S.2.1 dX10_within_2 (by decide) (fun c1 => ?_) (fun c1 => ?_)
  · have h := og_t c1 h
    refine lv_iconst (v := 0) S.1 S.2.1 dX10_within_14 (by decide) ?_
    exact z_retz S w hr hlk dX10_within_15 (by decide) (by rw [← h])
  · have h := og_f c1 h
    refine lv_iload_n S.1 S.2.1 dX10_within_5 rfl (lv_at hl 0 rfl) ?_
    refine lv_iload_n S.1 S.2.1 dX10_within_6 rfl (lv_at hl 2 rfl) ?_
    refine lv_icmp_gt (tgt := 14) S.1 S.2.1 dX10_within_7 (by decide) (fun c2 => ?_) (fun c2 => ?_)
    · have h := og_t c2 h
      refine lv_iconst (v := 0) S.1 S.2.1 dX10_within_14 (by decide) ?_
      exact z_retz S w hr hlk dX10_within_15 (by decide) (by rw [← h])
    · have h := og_f c2 h
      refine lv_iconst (v := 1) S.1 S.2.1 dX10_within_10 (by decide) ?_
      refine lv_goto (tgt := 15) S.1 S.2.1 dX10_within_11 (by decide) ?_
      exact z_retz S w hr hlk dX10_within_15 (by decide) (by rw [← h])
set_option maxHeartbeats 4000000 in
set_option maxRecDepth 100000 in
theorem c_X10_isFact (l : Launch) (D : va_G) (cs : Nat → ClassId) (ad : Nat → Nat) (F : ZF) (A : ZA) (T : Int64) (a0 : Int32) (q : Int32) (h : f_X10_isFact a0 F A T = q) : zMi l D cs (XWc cs ad 10 11) yX10_isFact cX10_isFact 2 (some .boolean) rm_X10_isFact ([.ref (ad 0), .int a0] : List Value) F A T ((q, F, A, T) : Int32 × ZS) (((q, F, A, T) : Int32 × ZS).1 &&& 1 = ((q, F, A, T) : Int32 × ZS).1) := by
  refine z_enteri (by decide) (Nat.le_of_ble_eq_true rfl) ?_
  intro p e s m below meth c A0 ls S K w hA hr hlk hl
  have S : CallFix p m c cX10_isFact 2 s ([.ref (ad 0), .int a0] : List Value).toArray zWs RX10 := S
  have hl : lv_has ls 2 [(0, .ref (ad 0)), (1, .int a0)] := hl
  unfold f_X10_isFact at h
  refine lv_iload_n S.1 S.2.1 dX10_isFact_0 rfl (lv_at hl 1 rfl) ?_
  refine lv_iconst (v := 0) S.1 S.2.1 dX10_isFact_1 (by decide) ?_
  refine lv_aload_n S.1 S.2.1 dX10_isFact_2 rfl (lv_at hl 0 rfl) ?_
  refine gX_0_11 S K w w330 dX10_isFact_3 ?_
  refine gX_10_1 S K w w231 dX10_isFact_6 ?_
  refine lv_iconst (v := 1) S.1 S.2.1 dX10_isFact_9 (by decide) ?_
  refine lv_isub S.1 S.2.1 dX10_isFact_10 ?_
  refine z_callSr S K w hA (c_X10_within l D cs ad F A T a0 (0 : Int32) ((F 23) - (1 : Int32)) (f_X10_within a0 (0 : Int32) ((F 23) - (1 : Int32))) rfl) (cw_X10_90 S.2.2.2.2 ⟨Nat.le_of_ble_eq_true rfl, Nat.le_of_ble_eq_true rfl⟩) rfl hl.1 rfl (Nat.le_of_ble_eq_true rfl) ⟨Nat.zero_le _, Nat.zero_le _⟩ dX10_isFact_11 (fun b1 H locs w => ?_)
  exact z_retz S w hr hlk dX10_isFact_14 b1 (by rw [← h])
set_option maxHeartbeats 4000000 in
set_option maxRecDepth 100000 in
theorem c_X10_bit (l : Launch) (D : va_G) (cs : Nat → ClassId) (ad : Nat → Nat) (F : ZF) (A : ZA) (T : Int64) (a0 a1 : Int32) (q : Int32) (h : f_X10_bit a0 a1 = q) : zMi l D cs (XWc cs ad 10 11) yX10_bit cX10_bit 2 (some .int) rm_X10_bit ([.int a0, .int a1] : List Value) F A T ((q, F, A, T) : Int32 × ZS) True := by
  refine z_enteri (by decide) (Nat.le_of_ble_eq_true rfl) ?_
  intro p e s m below meth c A0 ls S K w hA hr hlk hl
  have S : CallFix p m c cX10_bit 2 s ([.int a0, .int a1] : List Value).toArray zWs RX10 := S
  have hl : lv_has ls 2 [(0, .int a0), (1, .int a1)] := hl
  unfold f_X10_bit at h
  refine lv_iload_n S.1 S.2.1 dX10_bit_0 rfl (lv_at hl 0 rfl) ?_
  refine lv_iload_n S.1 S.2.1 dX10_bit_1 rfl (lv_at hl 1 rfl) ?_
  refine lv_ishr S.1 S.2.1 dX10_bit_2 ?_
  refine lv_iconst (v := 1) S.1 S.2.1 dX10_bit_3 (by decide) ?_
  refine lv_iand S.1 S.2.1 dX10_bit_4 ?_
  exact z_reti S w hr hlk dX10_bit_5 trivial (by rw [← h])
set_option maxHeartbeats 4000000 in
set_option maxRecDepth 100000 in
theorem c_X10_fact (l : Launch) (D : va_G) (cs : Nat → ClassId) (ad : Nat → Nat) (F : ZF) (A : ZA) (T : Int64) (a0 a1 : Int32) (q : Int32) (h : f_X10_fact a0 a1 F A T = some q) : zMi l D cs (XWc cs ad 10 11) yX10_fact cX10_fact 3 (some .int) rm_X10_fact ([.ref (ad 0), .int a0, .int a1] : List Value) F A T ((q, F, A, T) : Int32 × ZS) True := by
  refine z_enteri (by decide) (Nat.le_of_ble_eq_true rfl) ?_
  intro p e s m below meth c A0 ls S K w hA hr hlk hl
  have S : CallFix p m c cX10_fact 3 s ([.ref (ad 0), .int a0, .int a1] : List Value).toArray zWs RX10 := S
  have hl : lv_has ls 3 [(0, .ref (ad 0)), (1, .int a0), (2, .int a1)] := hl
  unfold f_X10_fact at h
  refine lv_aload_n S.1 S.2.1 dX10_fact_0 rfl (lv_at hl 0 rfl) ?_
  refine lv_iload_n S.1 S.2.1 dX10_fact_1 rfl (lv_at hl 1 rfl) ?_
  refine z_callVr S K w hA (c_X10_isFact l D cs ad F A T a0 (f_X10_isFact a0 F A T) rfl) (cw_X10_126 S.2.2.2.2 ⟨Nat.le_of_ble_eq_true rfl, Nat.le_of_ble_eq_true rfl⟩) (z_recv K w 0 10 rfl rfl) rfl hl.1 rfl (Nat.le_of_ble_eq_true rfl) ⟨Nat.zero_le _, Nat.zero_le _⟩ dX10_fact_2 (fun b1 H locs w => ?_)
  refine lv_if_eq (tgt := 17) S.1 S.2.1 dX10_fact_5 (by decide) (fun c2 => ?_) (fun c2 => ?_)
  · have h := og_t c2 h
    refine lv_iconst (v := -1) S.1 S.2.1 dX10_fact_17 (by decide) ?_
    exact z_reti S w hr hlk dX10_fact_18 trivial (by rw [← Option.some.inj h])
  · have h := og_f c2 h
    refine lv_iload_n S.1 S.2.1 dX10_fact_8 rfl (lv_at hl 2 rfl) ?_
    refine lv_iconst (v := 0) S.1 S.2.1 dX10_fact_9 (by decide) ?_
    refine lv_iconst (v := 2) S.1 S.2.1 dX10_fact_10 (by decide) ?_
    refine z_callSr S K w hA (c_X10_within l D cs ad F A T a1 (0 : Int32) (2 : Int32) (f_X10_within a1 (0 : Int32) (2 : Int32)) rfl) (cw_X10_90 S.2.2.2.2 ⟨Nat.le_of_ble_eq_true rfl, Nat.le_of_ble_eq_true rfl⟩) rfl hl.1 rfl (Nat.le_of_ble_eq_true rfl) ⟨Nat.zero_le _, Nat.zero_le _⟩ dX10_fact_11 (fun b3 H locs w => ?_)
    refine lv_if_ne (tgt := 19) S.1 S.2.1 dX10_fact_14 (by decide) (fun c4 => ?_) (fun c4 => ?_)
    · have h := og_f c4 h
      refine lv_iload_n S.1 S.2.1 dX10_fact_19 rfl (lv_at hl 2 rfl) ?_
      by_cases c5 : a1 = (0 : Int32)
      · have h := og_t c5 h
        refine lv_lookup (tgt := 48) S.1 S.2.1 dX10_fact_20 (by decide) (off := 28) (by rw [c5]; decide) (by decide) ?_
        refine lv_aload_n S.1 S.2.1 dX10_fact_48 rfl (lv_at hl 0 rfl) ?_
        refine gX_0_11 S K w w330 dX10_fact_49 ?_
        refine gX_10_7 S K w w253 dX10_fact_52 ?_
        refine lv_iload_n S.1 S.2.1 dX10_fact_55 rfl (lv_at hl 1 rfl) ?_
        obtain ⟨g6, h⟩ := og_g h
        refine aX_30 S K w g6 dX10_fact_56 ?_
        exact z_reti S w hr hlk dX10_fact_57 trivial (by rw [← Option.some.inj h])
      · have h := og_f c5 h
        by_cases c7 : a1 = (1 : Int32)
        · have h := og_t c7 h
          refine lv_lookup (tgt := 58) S.1 S.2.1 dX10_fact_20 (by decide) (off := 38) (by rw [c7]; decide) (by decide) ?_
          refine lv_aload_n S.1 S.2.1 dX10_fact_58 rfl (lv_at hl 0 rfl) ?_
          refine gX_0_11 S K w w330 dX10_fact_59 ?_
          refine gX_10_8 S K w w255 dX10_fact_62 ?_
          refine lv_iload_n S.1 S.2.1 dX10_fact_65 rfl (lv_at hl 1 rfl) ?_
          obtain ⟨g8, h⟩ := og_g h
          refine aX_31 S K w g8 dX10_fact_66 ?_
          exact z_reti S w hr hlk dX10_fact_67 trivial (by rw [← Option.some.inj h])
        · have h := og_f c7 h
          refine lv_lookup (tgt := 68) S.1 S.2.1 dX10_fact_20 (by decide) (off := 48) (by show Op.lookupswitch.offset [(0, 28), (1, 38)] 48 _ = 48; rw [lv_osw (k := (0 : Int32)) c5 (by decide), lv_osw (k := (1 : Int32)) c7 (by decide)]; rfl) (by decide) ?_
          refine lv_aload_n S.1 S.2.1 dX10_fact_68 rfl (lv_at hl 0 rfl) ?_
          refine gX_0_2 S K w w314 dX10_fact_69 ?_
          refine gX_3_0 S K w w154 dX10_fact_72 ?_
          refine lv_iload_n S.1 S.2.1 dX10_fact_75 rfl (lv_at hl 1 rfl) ?_
          refine z_callSr S K w hA (c_X10_bit l D cs ad F A T (F 10) a0 (f_X10_bit (F 10) a0) rfl) (cw_X10_138 S.2.2.2.2 ⟨Nat.le_of_ble_eq_true rfl, Nat.le_of_ble_eq_true rfl⟩) rfl hl.1 rfl (Nat.le_of_ble_eq_true rfl) ⟨Nat.zero_le _, Nat.zero_le _⟩ dX10_fact_76 (fun b9 H locs w => ?_)
          exact z_reti S w hr hlk dX10_fact_79 trivial (by rw [← Option.some.inj h])
    · have h := og_t c4 h
      refine lv_iconst (v := -1) S.1 S.2.1 dX10_fact_17 (by decide) ?_
      exact z_reti S w hr hlk dX10_fact_18 trivial (by rw [← Option.some.inj h])
set_option maxHeartbeats 4000000 in
set_option maxRecDepth 100000 in
theorem c_X10_isAlibi (l : Launch) (D : va_G) (cs : Nat → ClassId) (ad : Nat → Nat) (F : ZF) (A : ZA) (T : Int64) (a0 : Int32) (q : Int32) (h : f_X10_isAlibi a0 F A T = q) : zMi l D cs (XWc cs ad 10 11) yX10_isAlibi cX10_isAlibi 2 (some .boolean) rm_X10_isAlibi ([.ref (ad 0), .int a0] : List Value) F A T ((q, F, A, T) : Int32 × ZS) (((q, F, A, T) : Int32 × ZS).1 &&& 1 = ((q, F, A, T) : Int32 × ZS).1) := by
  refine z_enteri (by decide) (Nat.le_of_ble_eq_true rfl) ?_
  intro p e s m below meth c A0 ls S K w hA hr hlk hl
  have S : CallFix p m c cX10_isAlibi 2 s ([.ref (ad 0), .int a0] : List Value).toArray zWs RX10 := S
  have hl : lv_has ls 2 [(0, .ref (ad 0)), (1, .int a0)] := hl
  unfold f_X10_isAlibi at h
  refine lv_iload_n S.1 S.2.1 dX10_isAlibi_0 rfl (lv_at hl 1 rfl) ?_
  refine lv_iconst (v := 0) S.1 S.2.1 dX10_isAlibi_1 (by decide) ?_
  refine lv_aload_n S.1 S.2.1 dX10_isAlibi_2 rfl (lv_at hl 0 rfl) ?_
  refine gX_0_11 S K w w330 dX10_isAlibi_3 ?_
  refine gX_10_2 S K w w236 dX10_isAlibi_6 ?_
  refine lv_iconst (v := 1) S.1 S.2.1 dX10_isAlibi_9 (by decide) ?_
  refine lv_isub S.1 S.2.1 dX10_isAlibi_10 ?_
  refine z_callSr S K w hA (c_X10_within l D cs ad F A T a0 (0 : Int32) ((F 24) - (1 : Int32)) (f_X10_within a0 (0 : Int32) ((F 24) - (1 : Int32))) rfl) (cw_X10_90 S.2.2.2.2 ⟨Nat.le_of_ble_eq_true rfl, Nat.le_of_ble_eq_true rfl⟩) rfl hl.1 rfl (Nat.le_of_ble_eq_true rfl) ⟨Nat.zero_le _, Nat.zero_le _⟩ dX10_isAlibi_11 (fun b1 H locs w => ?_)
  exact z_retz S w hr hlk dX10_isAlibi_14 b1 (by rw [← h])
set_option maxHeartbeats 4000000 in
set_option maxRecDepth 100000 in
theorem c_X10_alibi (l : Launch) (D : va_G) (cs : Nat → ClassId) (ad : Nat → Nat) (F : ZF) (A : ZA) (T : Int64) (a0 a1 : Int32) (q : Int32) (h : f_X10_alibi a0 a1 F A T = some q) : zMi l D cs (XWc cs ad 10 11) yX10_alibi cX10_alibi 3 (some .int) rm_X10_alibi ([.ref (ad 0), .int a0, .int a1] : List Value) F A T ((q, F, A, T) : Int32 × ZS) True := by
  refine z_enteri (by decide) (Nat.le_of_ble_eq_true rfl) ?_
  intro p e s m below meth c A0 ls S K w hA hr hlk hl
  have S : CallFix p m c cX10_alibi 3 s ([.ref (ad 0), .int a0, .int a1] : List Value).toArray zWs RX10 := S
  have hl : lv_has ls 3 [(0, .ref (ad 0)), (1, .int a0), (2, .int a1)] := hl
  unfold f_X10_alibi at h
  refine lv_aload_n S.1 S.2.1 dX10_alibi_0 rfl (lv_at hl 0 rfl) ?_
  refine lv_iload_n S.1 S.2.1 dX10_alibi_1 rfl (lv_at hl 1 rfl) ?_
  refine z_callVr S K w hA (c_X10_isAlibi l D cs ad F A T a0 (f_X10_isAlibi a0 F A T) rfl) (cw_X10_146 S.2.2.2.2 ⟨Nat.le_of_ble_eq_true rfl, Nat.le_of_ble_eq_true rfl⟩) (z_recv K w 0 10 rfl rfl) rfl hl.1 rfl (Nat.le_of_ble_eq_true rfl) ⟨Nat.zero_le _, Nat.zero_le _⟩ dX10_alibi_2 (fun b1 H locs w => ?_)
  refine lv_if_eq (tgt := 17) S.1 S.2.1 dX10_alibi_5 (by decide) (fun c2 => ?_) (fun c2 => ?_)
  · have h := og_t c2 h
    refine lv_iconst (v := -1) S.1 S.2.1 dX10_alibi_17 (by decide) ?_
    exact z_reti S w hr hlk dX10_alibi_18 trivial (by rw [← Option.some.inj h])
  · have h := og_f c2 h
    refine lv_iload_n S.1 S.2.1 dX10_alibi_8 rfl (lv_at hl 2 rfl) ?_
    refine lv_iconst (v := 0) S.1 S.2.1 dX10_alibi_9 (by decide) ?_
    refine lv_iconst (v := 4) S.1 S.2.1 dX10_alibi_10 (by decide) ?_
    refine z_callSr S K w hA (c_X10_within l D cs ad F A T a1 (0 : Int32) (4 : Int32) (f_X10_within a1 (0 : Int32) (4 : Int32)) rfl) (cw_X10_90 S.2.2.2.2 ⟨Nat.le_of_ble_eq_true rfl, Nat.le_of_ble_eq_true rfl⟩) rfl hl.1 rfl (Nat.le_of_ble_eq_true rfl) ⟨Nat.zero_le _, Nat.zero_le _⟩ dX10_alibi_11 (fun b3 H locs w => ?_)
    refine lv_if_ne (tgt := 19) S.1 S.2.1 dX10_alibi_14 (by decide) (fun c4 => ?_) (fun c4 => ?_)
    · have h := og_f c4 h
      refine lv_iload_n S.1 S.2.1 dX10_alibi_19 rfl (lv_at hl 2 rfl) ?_
      by_cases c5 : a1 = (0 : Int32)
      · have h := og_t c5 h
        refine lv_tableIn (tgt := 52) S.1 S.2.1 dX10_alibi_20 (by rw [c5]; decide) (by rw [c5]; decide) (off := 32) (by rw [c5]; decide) (by decide) ?_
        refine lv_aload_n S.1 S.2.1 dX10_alibi_52 rfl (lv_at hl 0 rfl) ?_
        refine gX_0_11 S K w w330 dX10_alibi_53 ?_
        refine gX_10_11 S K w w263 dX10_alibi_56 ?_
        refine lv_iload_n S.1 S.2.1 dX10_alibi_59 rfl (lv_at hl 1 rfl) ?_
        obtain ⟨g6, h⟩ := og_g h
        refine aX_34 S K w g6 dX10_alibi_60 ?_
        exact z_reti S w hr hlk dX10_alibi_61 trivial (by rw [← Option.some.inj h])
      · have h := og_f c5 h
        by_cases c7 : a1 = (1 : Int32)
        · have h := og_t c7 h
          refine lv_tableIn (tgt := 62) S.1 S.2.1 dX10_alibi_20 (by rw [c7]; decide) (by rw [c7]; decide) (off := 42) (by rw [c7]; decide) (by decide) ?_
          refine lv_aload_n S.1 S.2.1 dX10_alibi_62 rfl (lv_at hl 0 rfl) ?_
          refine gX_0_11 S K w w330 dX10_alibi_63 ?_
          refine gX_10_12 S K w w265 dX10_alibi_66 ?_
          refine lv_iload_n S.1 S.2.1 dX10_alibi_69 rfl (lv_at hl 1 rfl) ?_
          obtain ⟨g8, h⟩ := og_g h
          refine aX_35 S K w g8 dX10_alibi_70 ?_
          exact z_reti S w hr hlk dX10_alibi_71 trivial (by rw [← Option.some.inj h])
        · have h := og_f c7 h
          by_cases c9 : a1 = (2 : Int32)
          · have h := og_t c9 h
            refine lv_tableIn (tgt := 72) S.1 S.2.1 dX10_alibi_20 (by rw [c9]; decide) (by rw [c9]; decide) (off := 52) (by rw [c9]; decide) (by decide) ?_
            refine lv_aload_n S.1 S.2.1 dX10_alibi_72 rfl (lv_at hl 0 rfl) ?_
            refine gX_0_11 S K w w330 dX10_alibi_73 ?_
            refine gX_10_13 S K w w268 dX10_alibi_76 ?_
            refine lv_iload_n S.1 S.2.1 dX10_alibi_79 rfl (lv_at hl 1 rfl) ?_
            obtain ⟨g10, h⟩ := og_g h
            refine aX_36 S K w g10 dX10_alibi_80 ?_
            exact z_reti S w hr hlk dX10_alibi_81 trivial (by rw [← Option.some.inj h])
          · have h := og_f c9 h
            by_cases c11 : a1 = (3 : Int32)
            · have h := og_t c11 h
              refine lv_tableIn (tgt := 82) S.1 S.2.1 dX10_alibi_20 (by rw [c11]; decide) (by rw [c11]; decide) (off := 62) (by rw [c11]; decide) (by decide) ?_
              refine lv_aload_n S.1 S.2.1 dX10_alibi_82 rfl (lv_at hl 0 rfl) ?_
              refine gX_0_11 S K w w330 dX10_alibi_83 ?_
              refine gX_10_14 S K w w271 dX10_alibi_86 ?_
              refine lv_iload_n S.1 S.2.1 dX10_alibi_89 rfl (lv_at hl 1 rfl) ?_
              obtain ⟨g12, h⟩ := og_g h
              refine aX_37 S K w g12 dX10_alibi_90 ?_
              exact z_reti S w hr hlk dX10_alibi_91 trivial (by rw [← Option.some.inj h])
            · have h := og_f c11 h
              refine lv_tableOut (tgt := 92) S.1 S.2.1 dX10_alibi_20 (by have := lv_neT (k := (0 : Int32)) (a := 0) c5 (by decide); have := lv_neT (k := (1 : Int32)) (a := 1) c7 (by decide); have := lv_neT (k := (2 : Int32)) (a := 2) c9 (by decide); have := lv_neT (k := (3 : Int32)) (a := 3) c11 (by decide); omega) (by decide) ?_
              refine lv_aload_n S.1 S.2.1 dX10_alibi_92 rfl (lv_at hl 0 rfl) ?_
              refine gX_0_2 S K w w314 dX10_alibi_93 ?_
              refine gX_3_1 S K w w156 dX10_alibi_96 ?_
              refine lv_iload_n S.1 S.2.1 dX10_alibi_99 rfl (lv_at hl 1 rfl) ?_
              refine z_callSr S K w hA (c_X10_bit l D cs ad F A T (F 11) a0 (f_X10_bit (F 11) a0) rfl) (cw_X10_138 S.2.2.2.2 ⟨Nat.le_of_ble_eq_true rfl, Nat.le_of_ble_eq_true rfl⟩) rfl hl.1 rfl (Nat.le_of_ble_eq_true rfl) ⟨Nat.zero_le _, Nat.zero_le _⟩ dX10_alibi_100 (fun b13 H locs w => ?_)
              exact z_reti S w hr hlk dX10_alibi_103 trivial (by rw [← Option.some.inj h])
    · have h := og_t c4 h
      refine lv_iconst (v := -1) S.1 S.2.1 dX10_alibi_17 (by decide) ?_
      exact z_reti S w hr hlk dX10_alibi_18 trivial (by rw [← Option.some.inj h])
set_option maxHeartbeats 4000000 in
set_option maxRecDepth 100000 in
theorem c_X6_stepBack (l : Launch) (D : va_G) (cs : Nat → ClassId) (ad : Nat → Nat) (F : ZF) (A : ZA) (T : Int64) (q : ZS) (h : f_X6_stepBack F A T = some q) : zMv l D cs (XWc cs ad 10 11) yX6_stepBack cX6_stepBack 1 none rm_X6_stepBack ([.ref (ad 3)] : List Value) F A T q := by
  refine z_enterv (by decide) (Nat.le_of_ble_eq_true rfl) ?_
  intro p e s m below meth c A0 ls S K w hA hr hlk hl
  have S : CallFix p m c cX6_stepBack 1 s ([.ref (ad 3)] : List Value).toArray zWs RX6 := S
  have hl : lv_has ls 1 [(0, .ref (ad 3))] := hl
  unfold f_X6_stepBack at h
  refine lv_aload_n S.1 S.2.1 dX6_stepBack_0 rfl (lv_at hl 0 rfl) ?_
  refine lv_dup S.1 S.2.1 dX6_stepBack_1 rfl ?_
  refine gX_3_3 S K w w159 dX6_stepBack_2 ?_
  refine lv_iconst (v := 1) S.1 S.2.1 dX6_stepBack_5 (by decide) ?_
  refine lv_isub S.1 S.2.1 dX6_stepBack_6 ?_
  refine pX_3_3 S K w w159 dX6_stepBack_7 (fun H locs w => ?_)
  refine lv_aload_n S.1 S.2.1 dX6_stepBack_10 rfl (lv_at hl 0 rfl) ?_
  refine lv_aload_n S.1 S.2.1 dX6_stepBack_11 rfl (lv_at hl 0 rfl) ?_
  refine gX_3_4 S K w w161 dX6_stepBack_12 ?_
  refine lv_aload_n S.1 S.2.1 dX6_stepBack_15 rfl (lv_at hl 0 rfl) ?_
  refine gX_3_3 S K w w159 dX6_stepBack_16 ?_
  obtain ⟨g1, h⟩ := og_g h
  refine aX_18 S K w g1 dX6_stepBack_19 ?_
  refine lv_sipush (v := 255) S.1 S.2.1 dX6_stepBack_20 (by decide) ?_
  refine lv_iand S.1 S.2.1 dX6_stepBack_23 ?_
  refine pX_3_0 S K w w152 dX6_stepBack_24 (fun H locs w => ?_)
  refine lv_aload_n S.1 S.2.1 dX6_stepBack_27 rfl (lv_at hl 0 rfl) ?_
  refine lv_aload_n S.1 S.2.1 dX6_stepBack_28 rfl (lv_at hl 0 rfl) ?_
  refine gX_3_4 S K w w161 dX6_stepBack_29 ?_
  refine lv_aload_n S.1 S.2.1 dX6_stepBack_32 rfl (lv_at hl 0 rfl) ?_
  refine gX_3_3 S K w w159 dX6_stepBack_33 ?_
  obtain ⟨g2, h⟩ := og_g h
  refine aX_18 S K w g2 dX6_stepBack_36 ?_
  refine lv_bipush (v := 8) S.1 S.2.1 dX6_stepBack_37 (by decide) ?_
  refine lv_ishr S.1 S.2.1 dX6_stepBack_39 ?_
  refine lv_sipush (v := 255) S.1 S.2.1 dX6_stepBack_40 (by decide) ?_
  refine lv_iand S.1 S.2.1 dX6_stepBack_43 ?_
  refine pX_3_1 S K w w155 dX6_stepBack_44 (fun H locs w => ?_)
  refine lv_aload_n S.1 S.2.1 dX6_stepBack_47 rfl (lv_at hl 0 rfl) ?_
  refine lv_aload_n S.1 S.2.1 dX6_stepBack_48 rfl (lv_at hl 0 rfl) ?_
  refine gX_3_4 S K w w161 dX6_stepBack_49 ?_
  refine lv_aload_n S.1 S.2.1 dX6_stepBack_52 rfl (lv_at hl 0 rfl) ?_
  refine gX_3_3 S K w w159 dX6_stepBack_53 ?_
  obtain ⟨g3, h⟩ := og_g h
  refine aX_18 S K w g3 dX6_stepBack_56 ?_
  refine lv_bipush (v := 16) S.1 S.2.1 dX6_stepBack_57 (by decide) ?_
  refine lv_ishr S.1 S.2.1 dX6_stepBack_59 ?_
  refine pX_3_2 S K w w157 dX6_stepBack_60 (fun H locs w => ?_)
  exact z_retv S w hr hlk dX6_stepBack_63 (Option.some.inj h).symm
set_option maxHeartbeats 4000000 in
set_option maxRecDepth 100000 in
theorem c_X10_undo (l : Launch) (D : va_G) (cs : Nat → ClassId) (ad : Nat → Nat) (F : ZF) (A : ZA) (T : Int64) (q : (Int32 × ZS)) (h : f_X10_undo F A T = some q) : zMi l D cs (XWc cs ad 10 11) yX10_undo cX10_undo 1 (some .int) rm_X10_undo ([.ref (ad 0)] : List Value) F A T q True := by
  refine z_enteri (by decide) (Nat.le_of_ble_eq_true rfl) ?_
  intro p e s m below meth c A0 ls S K w hA hr hlk hl
  have S : CallFix p m c cX10_undo 1 s ([.ref (ad 0)] : List Value).toArray zWs RX10 := S
  have hl : lv_has ls 1 [(0, .ref (ad 0))] := hl
  unfold f_X10_undo at h
  refine lv_aload_n S.1 S.2.1 dX10_undo_0 rfl (lv_at hl 0 rfl) ?_
  refine gX_0_2 S K w w314 dX10_undo_1 ?_
  refine gX_3_3 S K w w160 dX10_undo_4 ?_
  refine lv_if_ne (tgt := 13) S.1 S.2.1 dX10_undo_7 (by decide) (fun c1 => ?_) (fun c1 => ?_)
  · have h := og_f c1 h
    refine lv_aload_n S.1 S.2.1 dX10_undo_13 rfl (lv_at hl 0 rfl) ?_
    refine gX_0_2 S K w w314 dX10_undo_14 ?_
    obtain ⟨q2, e3, h⟩ := og_b h
    refine z_callVv S K w hA (c_X6_stepBack l D cs ad F A T q2 e3) (cw_X10_175 S.2.2.2.2 ⟨Nat.le_of_ble_eq_true rfl, Nat.le_of_ble_eq_true rfl⟩) (z_recv K w 3 6 rfl rfl) rfl hl.1 rfl (Nat.le_of_ble_eq_true rfl) ⟨Nat.zero_le _, Nat.zero_le _⟩ dX10_undo_17 (fun H locs w => ?_)
    refine lv_aload_n S.1 S.2.1 dX10_undo_20 rfl (lv_at hl 0 rfl) ?_
    refine gX_0_2 S K w w314 dX10_undo_21 ?_
    refine gX_3_3 S K w w160 dX10_undo_24 ?_
    exact z_reti S w hr hlk dX10_undo_27 trivial (Option.some.inj h).symm
  · have h := og_t c1 h
    refine lv_bipush (v := -2) S.1 S.2.1 dX10_undo_10 (by decide) ?_
    exact z_reti S w hr hlk dX10_undo_12 trivial (Option.some.inj h).symm
end
section
theorem zz_trivial : True := trivial
end
