section
-- ===== PART A: goes FIRST, ahead of the names: the tables' words, and 'selects' of the private methods out of them =====
/-- a private method of a class that the tables say can be made, by its rows of tables_1 -/
def lw_okq (q : MethodName × Nat) : Prop := (q.1.cls ≠ "java/lang/invoke/MethodHandle" ∧ q.1.cls ≠ "java/lang/invoke/VarHandle") ∧ Cond.instantiable q.1.cls q.2 ∈ tables_1 ∧ Cond.privateMethod q.1 ∈ tables_1 ∧ Cond.instanceMethod q.1 ∈ tables_1
theorem lw_p0 : lw_okq (⟨"KnownWeight$LandText", "skipBlanks", "()V"⟩, 6) := ⟨⟨by decide +kernel, by decide +kernel⟩, List.mem_of_getElem? (i := 24) (by decide +kernel), List.mem_of_getElem? (i := 320) (by decide +kernel), List.mem_of_getElem? (i := 321) (by decide +kernel)⟩
theorem lw_p1 : lw_okq (⟨"KnownWeight$LandText", "letterHere", "()I"⟩, 6) := ⟨⟨by decide +kernel, by decide +kernel⟩, List.mem_of_getElem? (i := 24) (by decide +kernel), List.mem_of_getElem? (i := 324) (by decide +kernel), List.mem_of_getElem? (i := 325) (by decide +kernel)⟩
theorem lw_p2 : lw_okq (⟨"KnownWeight$LandText", "readClause", "(LKnownWeight$Land;)V"⟩, 6) := ⟨⟨by decide +kernel, by decide +kernel⟩, List.mem_of_getElem? (i := 24) (by decide +kernel), List.mem_of_getElem? (i := 328) (by decide +kernel), List.mem_of_getElem? (i := 329) (by decide +kernel)⟩
theorem lw_p3 : lw_okq (⟨"KnownWeight$LandText", "faultOfWord", "(LKnownWeight$Land;I)I"⟩, 6) := ⟨⟨by decide +kernel, by decide +kernel⟩, List.mem_of_getElem? (i := 24) (by decide +kernel), List.mem_of_getElem? (i := 332) (by decide +kernel), List.mem_of_getElem? (i := 333) (by decide +kernel)⟩
theorem lw_p4 : lw_okq (⟨"KnownWeight$LandText", "blame", "(II)V"⟩, 6) := ⟨⟨by decide +kernel, by decide +kernel⟩, List.mem_of_getElem? (i := 24) (by decide +kernel), List.mem_of_getElem? (i := 336) (by decide +kernel), List.mem_of_getElem? (i := 337) (by decide +kernel)⟩
theorem lw_p5 : lw_okq (⟨"KnownWeight$LandText", "readPeople", "(LKnownWeight$Land;)V"⟩, 6) := ⟨⟨by decide +kernel, by decide +kernel⟩, List.mem_of_getElem? (i := 24) (by decide +kernel), List.mem_of_getElem? (i := 340) (by decide +kernel), List.mem_of_getElem? (i := 341) (by decide +kernel)⟩
theorem lw_p6 : lw_okq (⟨"KnownWeight$LandText", "readNumber", "(II)I"⟩, 6) := ⟨⟨by decide +kernel, by decide +kernel⟩, List.mem_of_getElem? (i := 24) (by decide +kernel), List.mem_of_getElem? (i := 344) (by decide +kernel), List.mem_of_getElem? (i := 345) (by decide +kernel)⟩
theorem lw_p7 : lw_okq (⟨"KnownWeight$LandText", "isFigureHere", "()Z"⟩, 6) := ⟨⟨by decide +kernel, by decide +kernel⟩, List.mem_of_getElem? (i := 24) (by decide +kernel), List.mem_of_getElem? (i := 348) (by decide +kernel), List.mem_of_getElem? (i := 349) (by decide +kernel)⟩
theorem lw_p8 : lw_okq (⟨"KnownWeight$LandText", "readFact", "(LKnownWeight$Land;)V"⟩, 6) := ⟨⟨by decide +kernel, by decide +kernel⟩, List.mem_of_getElem? (i := 24) (by decide +kernel), List.mem_of_getElem? (i := 352) (by decide +kernel), List.mem_of_getElem? (i := 353) (by decide +kernel)⟩
theorem lw_p9 : lw_okq (⟨"KnownWeight$LandText", "readPerson", "(LKnownWeight$Land;)I"⟩, 6) := ⟨⟨by decide +kernel, by decide +kernel⟩, List.mem_of_getElem? (i := 24) (by decide +kernel), List.mem_of_getElem? (i := 356) (by decide +kernel), List.mem_of_getElem? (i := 357) (by decide +kernel)⟩
theorem lw_p10 : lw_okq (⟨"KnownWeight$LandText", "readKnowers", "(LKnownWeight$Land;)V"⟩, 6) := ⟨⟨by decide +kernel, by decide +kernel⟩, List.mem_of_getElem? (i := 24) (by decide +kernel), List.mem_of_getElem? (i := 364) (by decide +kernel), List.mem_of_getElem? (i := 365) (by decide +kernel)⟩
theorem lw_p11 : lw_okq (⟨"KnownWeight$LandText", "readFriendship", "(LKnownWeight$Land;)V"⟩, 6) := ⟨⟨by decide +kernel, by decide +kernel⟩, List.mem_of_getElem? (i := 24) (by decide +kernel), List.mem_of_getElem? (i := 372) (by decide +kernel), List.mem_of_getElem? (i := 373) (by decide +kernel)⟩
theorem lw_p12 : lw_okq (⟨"KnownWeight$LandText", "readQuiet", "(LKnownWeight$Land;)V"⟩, 6) := ⟨⟨by decide +kernel, by decide +kernel⟩, List.mem_of_getElem? (i := 24) (by decide +kernel), List.mem_of_getElem? (i := 380) (by decide +kernel), List.mem_of_getElem? (i := 381) (by decide +kernel)⟩
theorem lw_p13 : lw_okq (⟨"KnownWeight$LandText", "readBridge", "(LKnownWeight$Land;)V"⟩, 6) := ⟨⟨by decide +kernel, by decide +kernel⟩, List.mem_of_getElem? (i := 24) (by decide +kernel), List.mem_of_getElem? (i := 388) (by decide +kernel), List.mem_of_getElem? (i := 389) (by decide +kernel)⟩
theorem lw_p14 : lw_okq (⟨"KnownWeight$LandText", "readMemory", "(LKnownWeight$Land;)V"⟩, 6) := ⟨⟨by decide +kernel, by decide +kernel⟩, List.mem_of_getElem? (i := 24) (by decide +kernel), List.mem_of_getElem? (i := 392) (by decide +kernel), List.mem_of_getElem? (i := 393) (by decide +kernel)⟩
theorem lw_p15 : lw_okq (⟨"KnownWeight$LandText", "readEnd", "()V"⟩, 6) := ⟨⟨by decide +kernel, by decide +kernel⟩, List.mem_of_getElem? (i := 24) (by decide +kernel), List.mem_of_getElem? (i := 396) (by decide +kernel), List.mem_of_getElem? (i := 397) (by decide +kernel)⟩
def lw_privs_1 : List (MethodName × Nat) := [(⟨"KnownWeight$LandText", "skipBlanks", "()V"⟩, 6), (⟨"KnownWeight$LandText", "letterHere", "()I"⟩, 6), (⟨"KnownWeight$LandText", "readClause", "(LKnownWeight$Land;)V"⟩, 6), (⟨"KnownWeight$LandText", "faultOfWord", "(LKnownWeight$Land;I)I"⟩, 6), (⟨"KnownWeight$LandText", "blame", "(II)V"⟩, 6), (⟨"KnownWeight$LandText", "readPeople", "(LKnownWeight$Land;)V"⟩, 6), (⟨"KnownWeight$LandText", "readNumber", "(II)I"⟩, 6), (⟨"KnownWeight$LandText", "isFigureHere", "()Z"⟩, 6), (⟨"KnownWeight$LandText", "readFact", "(LKnownWeight$Land;)V"⟩, 6), (⟨"KnownWeight$LandText", "readPerson", "(LKnownWeight$Land;)I"⟩, 6), (⟨"KnownWeight$LandText", "readKnowers", "(LKnownWeight$Land;)V"⟩, 6), (⟨"KnownWeight$LandText", "readFriendship", "(LKnownWeight$Land;)V"⟩, 6), (⟨"KnownWeight$LandText", "readQuiet", "(LKnownWeight$Land;)V"⟩, 6), (⟨"KnownWeight$LandText", "readBridge", "(LKnownWeight$Land;)V"⟩, 6), (⟨"KnownWeight$LandText", "readMemory", "(LKnownWeight$Land;)V"⟩, 6), (⟨"KnownWeight$LandText", "readEnd", "()V"⟩, 6)]
theorem lw_r1 : ∀ q ∈ lw_privs_1, lw_okq q := List.forall_mem_cons.mpr ⟨lw_p0, List.forall_mem_cons.mpr ⟨lw_p1, List.forall_mem_cons.mpr ⟨lw_p2, List.forall_mem_cons.mpr ⟨lw_p3, List.forall_mem_cons.mpr ⟨lw_p4, List.forall_mem_cons.mpr ⟨lw_p5, List.forall_mem_cons.mpr ⟨lw_p6, List.forall_mem_cons.mpr ⟨lw_p7, List.forall_mem_cons.mpr ⟨lw_p8, List.forall_mem_cons.mpr ⟨lw_p9, List.forall_mem_cons.mpr ⟨lw_p10, List.forall_mem_cons.mpr ⟨lw_p11, List.forall_mem_cons.mpr ⟨lw_p12, List.forall_mem_cons.mpr ⟨lw_p13, List.forall_mem_cons.mpr ⟨lw_p14, List.forall_mem_cons.mpr ⟨lw_p15, fun _ h => absurd h List.not_mem_nil⟩⟩⟩⟩⟩⟩⟩⟩⟩⟩⟩⟩⟩⟩⟩⟩
theorem lw_p16 : lw_okq (⟨"KnownWeight", "refusalOfHours", "(I)I"⟩, 12) := ⟨⟨by decide +kernel, by decide +kernel⟩, List.mem_of_getElem? (i := 16) (by decide +kernel), List.mem_of_getElem? (i := 507) (by decide +kernel), List.mem_of_getElem? (i := 508) (by decide +kernel)⟩
theorem lw_p17 : lw_okq (⟨"KnownWeight$Heads", "forgetOld", "(LKnownWeight$Land;)V"⟩, 5) := ⟨⟨by decide +kernel, by decide +kernel⟩, List.mem_of_getElem? (i := 148) (by decide +kernel), List.mem_of_getElem? (i := 517) (by decide +kernel), List.mem_of_getElem? (i := 518) (by decide +kernel)⟩
theorem lw_p18 : lw_okq (⟨"KnownWeight$Heads", "tellOn", "(LKnownWeight$Land;)V"⟩, 5) := ⟨⟨by decide +kernel, by decide +kernel⟩, List.mem_of_getElem? (i := 148) (by decide +kernel), List.mem_of_getElem? (i := 524) (by decide +kernel), List.mem_of_getElem? (i := 525) (by decide +kernel)⟩
theorem lw_p19 : lw_okq (⟨"KnownWeight$Heads", "chat", "(LKnownWeight$Land;I)V"⟩, 5) := ⟨⟨by decide +kernel, by decide +kernel⟩, List.mem_of_getElem? (i := 148) (by decide +kernel), List.mem_of_getElem? (i := 529) (by decide +kernel), List.mem_of_getElem? (i := 530) (by decide +kernel)⟩
theorem lw_p20 : lw_okq (⟨"KnownWeight$Heads", "drawOf", "(I)I"⟩, 5) := ⟨⟨by decide +kernel, by decide +kernel⟩, List.mem_of_getElem? (i := 148) (by decide +kernel), List.mem_of_getElem? (i := 542) (by decide +kernel), List.mem_of_getElem? (i := 543) (by decide +kernel)⟩
theorem lw_p21 : lw_okq (⟨"KnownWeight$Ferry", "fewestOf", "(I)I"⟩, 3) := ⟨⟨by decide +kernel, by decide +kernel⟩, List.mem_of_getElem? (i := 191) (by decide +kernel), List.mem_of_getElem? (i := 596) (by decide +kernel), List.mem_of_getElem? (i := 597) (by decide +kernel)⟩
theorem lw_p22 : lw_okq (⟨"KnownWeight$Ferry", "firstGroup", "(I)I"⟩, 3) := ⟨⟨by decide +kernel, by decide +kernel⟩, List.mem_of_getElem? (i := 191) (by decide +kernel), List.mem_of_getElem? (i := 604) (by decide +kernel), List.mem_of_getElem? (i := 605) (by decide +kernel)⟩
theorem lw_p23 : lw_okq (⟨"KnownWeight$Ways", "addFact", "(II)V"⟩, 3) := ⟨⟨by decide +kernel, by decide +kernel⟩, List.mem_of_getElem? (i := 208) (by decide +kernel), List.mem_of_getElem? (i := 621) (by decide +kernel), List.mem_of_getElem? (i := 622) (by decide +kernel)⟩
theorem lw_p24 : lw_okq (⟨"KnownWeight", "fewestToBreak", "(II)I"⟩, 12) := ⟨⟨by decide +kernel, by decide +kernel⟩, List.mem_of_getElem? (i := 16) (by decide +kernel), List.mem_of_getElem? (i := 655) (by decide +kernel), List.mem_of_getElem? (i := 656) (by decide +kernel)⟩
theorem lw_p25 : lw_okq (⟨"KnownWeight", "factsToForget", "(II)I"⟩, 12) := ⟨⟨by decide +kernel, by decide +kernel⟩, List.mem_of_getElem? (i := 16) (by decide +kernel), List.mem_of_getElem? (i := 668) (by decide +kernel), List.mem_of_getElem? (i := 669) (by decide +kernel)⟩
theorem lw_p26 : lw_okq (⟨"KnownWeight$Chances", "headForgets", "(II)V"⟩, 4) := ⟨⟨by decide +kernel, by decide +kernel⟩, List.mem_of_getElem? (i := 224) (by decide +kernel), List.mem_of_getElem? (i := 696) (by decide +kernel), List.mem_of_getElem? (i := 697) (by decide +kernel)⟩
theorem lw_p27 : lw_okq (⟨"KnownWeight$Chances", "move", "(III)V"⟩, 4) := ⟨⟨by decide +kernel, by decide +kernel⟩, List.mem_of_getElem? (i := 224) (by decide +kernel), List.mem_of_getElem? (i := 700) (by decide +kernel), List.mem_of_getElem? (i := 701) (by decide +kernel)⟩
theorem lw_p28 : lw_okq (⟨"KnownWeightModel", "begin", "()V"⟩, 38) := ⟨⟨by decide +kernel, by decide +kernel⟩, List.mem_of_getElem? (i := 747) (by decide +kernel), List.mem_of_getElem? (i := 753) (by decide +kernel), List.mem_of_getElem? (i := 754) (by decide +kernel)⟩
theorem lw_p29 : lw_okq (⟨"KnownWeightModel", "isRead", "()Z"⟩, 38) := ⟨⟨by decide +kernel, by decide +kernel⟩, List.mem_of_getElem? (i := 747) (by decide +kernel), List.mem_of_getElem? (i := 887) (by decide +kernel), List.mem_of_getElem? (i := 888) (by decide +kernel)⟩
theorem lw_p30 : lw_okq (⟨"KnownWeightModel", "nextToken", "()V"⟩, 38) := ⟨⟨by decide +kernel, by decide +kernel⟩, List.mem_of_getElem? (i := 747) (by decide +kernel), List.mem_of_getElem? (i := 891) (by decide +kernel), List.mem_of_getElem? (i := 892) (by decide +kernel)⟩
theorem lw_p31 : lw_okq (⟨"KnownWeightModel", "isPeopleLine", "()Z"⟩, 38) := ⟨⟨by decide +kernel, by decide +kernel⟩, List.mem_of_getElem? (i := 747) (by decide +kernel), List.mem_of_getElem? (i := 895) (by decide +kernel), List.mem_of_getElem? (i := 896) (by decide +kernel)⟩
def lw_privs_2 : List (MethodName × Nat) := [(⟨"KnownWeight", "refusalOfHours", "(I)I"⟩, 12), (⟨"KnownWeight$Heads", "forgetOld", "(LKnownWeight$Land;)V"⟩, 5), (⟨"KnownWeight$Heads", "tellOn", "(LKnownWeight$Land;)V"⟩, 5), (⟨"KnownWeight$Heads", "chat", "(LKnownWeight$Land;I)V"⟩, 5), (⟨"KnownWeight$Heads", "drawOf", "(I)I"⟩, 5), (⟨"KnownWeight$Ferry", "fewestOf", "(I)I"⟩, 3), (⟨"KnownWeight$Ferry", "firstGroup", "(I)I"⟩, 3), (⟨"KnownWeight$Ways", "addFact", "(II)V"⟩, 3), (⟨"KnownWeight", "fewestToBreak", "(II)I"⟩, 12), (⟨"KnownWeight", "factsToForget", "(II)I"⟩, 12), (⟨"KnownWeight$Chances", "headForgets", "(II)V"⟩, 4), (⟨"KnownWeight$Chances", "move", "(III)V"⟩, 4), (⟨"KnownWeightModel", "begin", "()V"⟩, 38), (⟨"KnownWeightModel", "isRead", "()Z"⟩, 38), (⟨"KnownWeightModel", "nextToken", "()V"⟩, 38), (⟨"KnownWeightModel", "isPeopleLine", "()Z"⟩, 38)]
theorem lw_r2 : ∀ q ∈ lw_privs_2, lw_okq q := List.forall_mem_cons.mpr ⟨lw_p16, List.forall_mem_cons.mpr ⟨lw_p17, List.forall_mem_cons.mpr ⟨lw_p18, List.forall_mem_cons.mpr ⟨lw_p19, List.forall_mem_cons.mpr ⟨lw_p20, List.forall_mem_cons.mpr ⟨lw_p21, List.forall_mem_cons.mpr ⟨lw_p22, List.forall_mem_cons.mpr ⟨lw_p23, List.forall_mem_cons.mpr ⟨lw_p24, List.forall_mem_cons.mpr ⟨lw_p25, List.forall_mem_cons.mpr ⟨lw_p26, List.forall_mem_cons.mpr ⟨lw_p27, List.forall_mem_cons.mpr ⟨lw_p28, List.forall_mem_cons.mpr ⟨lw_p29, List.forall_mem_cons.mpr ⟨lw_p30, List.forall_mem_cons.mpr ⟨lw_p31, fun _ h => absurd h List.not_mem_nil⟩⟩⟩⟩⟩⟩⟩⟩⟩⟩⟩⟩⟩⟩⟩⟩
theorem lw_p32 : lw_okq (⟨"KnownWeightModel", "fails", "(I)Z"⟩, 38) := ⟨⟨by decide +kernel, by decide +kernel⟩, List.mem_of_getElem? (i := 747) (by decide +kernel), List.mem_of_getElem? (i := 899) (by decide +kernel), List.mem_of_getElem? (i := 900) (by decide +kernel)⟩
theorem lw_p33 : lw_okq (⟨"KnownWeightModel", "isNumber", "(II)Z"⟩, 38) := ⟨⟨by decide +kernel, by decide +kernel⟩, List.mem_of_getElem? (i := 747) (by decide +kernel), List.mem_of_getElem? (i := 903) (by decide +kernel), List.mem_of_getElem? (i := 904) (by decide +kernel)⟩
theorem lw_p34 : lw_okq (⟨"KnownWeightModel", "isEnd", "()Z"⟩, 38) := ⟨⟨by decide +kernel, by decide +kernel⟩, List.mem_of_getElem? (i := 747) (by decide +kernel), List.mem_of_getElem? (i := 907) (by decide +kernel), List.mem_of_getElem? (i := 908) (by decide +kernel)⟩
theorem lw_p35 : lw_okq (⟨"KnownWeightModel", "isFactLine", "()Z"⟩, 38) := ⟨⟨by decide +kernel, by decide +kernel⟩, List.mem_of_getElem? (i := 747) (by decide +kernel), List.mem_of_getElem? (i := 911) (by decide +kernel), List.mem_of_getElem? (i := 912) (by decide +kernel)⟩
theorem lw_p36 : lw_okq (⟨"KnownWeightModel", "isKnownLine", "()Z"⟩, 38) := ⟨⟨by decide +kernel, by decide +kernel⟩, List.mem_of_getElem? (i := 747) (by decide +kernel), List.mem_of_getElem? (i := 915) (by decide +kernel), List.mem_of_getElem? (i := 916) (by decide +kernel)⟩
theorem lw_p37 : lw_okq (⟨"KnownWeightModel", "isPairLine", "()Z"⟩, 38) := ⟨⟨by decide +kernel, by decide +kernel⟩, List.mem_of_getElem? (i := 747) (by decide +kernel), List.mem_of_getElem? (i := 919) (by decide +kernel), List.mem_of_getElem? (i := 920) (by decide +kernel)⟩
theorem lw_p38 : lw_okq (⟨"KnownWeightModel", "isQuietLine", "()Z"⟩, 38) := ⟨⟨by decide +kernel, by decide +kernel⟩, List.mem_of_getElem? (i := 747) (by decide +kernel), List.mem_of_getElem? (i := 923) (by decide +kernel), List.mem_of_getElem? (i := 924) (by decide +kernel)⟩
theorem lw_p39 : lw_okq (⟨"KnownWeightModel", "isBridgeLine", "()Z"⟩, 38) := ⟨⟨by decide +kernel, by decide +kernel⟩, List.mem_of_getElem? (i := 747) (by decide +kernel), List.mem_of_getElem? (i := 930) (by decide +kernel), List.mem_of_getElem? (i := 931) (by decide +kernel)⟩
theorem lw_p40 : lw_okq (⟨"KnownWeightModel", "isHoursLine", "()Z"⟩, 38) := ⟨⟨by decide +kernel, by decide +kernel⟩, List.mem_of_getElem? (i := 747) (by decide +kernel), List.mem_of_getElem? (i := 934) (by decide +kernel), List.mem_of_getElem? (i := 935) (by decide +kernel)⟩
theorem lw_p41 : lw_okq (⟨"KnownWeightModel", "headsOf", "([II)I"⟩, 38) := ⟨⟨by decide +kernel, by decide +kernel⟩, List.mem_of_getElem? (i := 747) (by decide +kernel), List.mem_of_getElem? (i := 946) (by decide +kernel), List.mem_of_getElem? (i := 947) (by decide +kernel)⟩
theorem lw_p42 : lw_okq (⟨"KnownWeightModel", "personOf", "(I)I"⟩, 38) := ⟨⟨by decide +kernel, by decide +kernel⟩, List.mem_of_getElem? (i := 747) (by decide +kernel), List.mem_of_getElem? (i := 950) (by decide +kernel), List.mem_of_getElem? (i := 951) (by decide +kernel)⟩
theorem lw_p43 : lw_okq (⟨"KnownWeightModel", "isFact", "(I)Z"⟩, 38) := ⟨⟨by decide +kernel, by decide +kernel⟩, List.mem_of_getElem? (i := 747) (by decide +kernel), List.mem_of_getElem? (i := 961) (by decide +kernel), List.mem_of_getElem? (i := 962) (by decide +kernel)⟩
theorem lw_p44 : lw_okq (⟨"KnownWeightModel", "knowersOf", "([II)I"⟩, 38) := ⟨⟨by decide +kernel, by decide +kernel⟩, List.mem_of_getElem? (i := 747) (by decide +kernel), List.mem_of_getElem? (i := 966) (by decide +kernel), List.mem_of_getElem? (i := 967) (by decide +kernel)⟩
theorem lw_p45 : lw_okq (⟨"KnownWeightModel", "isOne", "(I)Z"⟩, 38) := ⟨⟨by decide +kernel, by decide +kernel⟩, List.mem_of_getElem? (i := 747) (by decide +kernel), List.mem_of_getElem? (i := 974) (by decide +kernel), List.mem_of_getElem? (i := 975) (by decide +kernel)⟩
theorem lw_p46 : lw_okq (⟨"KnownWeightModel", "friendsOf", "(I)I"⟩, 38) := ⟨⟨by decide +kernel, by decide +kernel⟩, List.mem_of_getElem? (i := 747) (by decide +kernel), List.mem_of_getElem? (i := 978) (by decide +kernel), List.mem_of_getElem? (i := 979) (by decide +kernel)⟩
theorem lw_p47 : lw_okq (⟨"KnownWeightModel", "weightOf", "([II)I"⟩, 38) := ⟨⟨by decide +kernel, by decide +kernel⟩, List.mem_of_getElem? (i := 747) (by decide +kernel), List.mem_of_getElem? (i := 990) (by decide +kernel), List.mem_of_getElem? (i := 991) (by decide +kernel)⟩
def lw_privs_3 : List (MethodName × Nat) := [(⟨"KnownWeightModel", "fails", "(I)Z"⟩, 38), (⟨"KnownWeightModel", "isNumber", "(II)Z"⟩, 38), (⟨"KnownWeightModel", "isEnd", "()Z"⟩, 38), (⟨"KnownWeightModel", "isFactLine", "()Z"⟩, 38), (⟨"KnownWeightModel", "isKnownLine", "()Z"⟩, 38), (⟨"KnownWeightModel", "isPairLine", "()Z"⟩, 38), (⟨"KnownWeightModel", "isQuietLine", "()Z"⟩, 38), (⟨"KnownWeightModel", "isBridgeLine", "()Z"⟩, 38), (⟨"KnownWeightModel", "isHoursLine", "()Z"⟩, 38), (⟨"KnownWeightModel", "headsOf", "([II)I"⟩, 38), (⟨"KnownWeightModel", "personOf", "(I)I"⟩, 38), (⟨"KnownWeightModel", "isFact", "(I)Z"⟩, 38), (⟨"KnownWeightModel", "knowersOf", "([II)I"⟩, 38), (⟨"KnownWeightModel", "isOne", "(I)Z"⟩, 38), (⟨"KnownWeightModel", "friendsOf", "(I)I"⟩, 38), (⟨"KnownWeightModel", "weightOf", "([II)I"⟩, 38)]
theorem lw_r3 : ∀ q ∈ lw_privs_3, lw_okq q := List.forall_mem_cons.mpr ⟨lw_p32, List.forall_mem_cons.mpr ⟨lw_p33, List.forall_mem_cons.mpr ⟨lw_p34, List.forall_mem_cons.mpr ⟨lw_p35, List.forall_mem_cons.mpr ⟨lw_p36, List.forall_mem_cons.mpr ⟨lw_p37, List.forall_mem_cons.mpr ⟨lw_p38, List.forall_mem_cons.mpr ⟨lw_p39, List.forall_mem_cons.mpr ⟨lw_p40, List.forall_mem_cons.mpr ⟨lw_p41, List.forall_mem_cons.mpr ⟨lw_p42, List.forall_mem_cons.mpr ⟨lw_p43, List.forall_mem_cons.mpr ⟨lw_p44, List.forall_mem_cons.mpr ⟨lw_p45, List.forall_mem_cons.mpr ⟨lw_p46, List.forall_mem_cons.mpr ⟨lw_p47, fun _ h => absurd h List.not_mem_nil⟩⟩⟩⟩⟩⟩⟩⟩⟩⟩⟩⟩⟩⟩⟩⟩
theorem lw_p48 : lw_okq (⟨"KnownWeightModel", "gramsOf", "(I)I"⟩, 38) := ⟨⟨by decide +kernel, by decide +kernel⟩, List.mem_of_getElem? (i := 747) (by decide +kernel), List.mem_of_getElem? (i := 994) (by decide +kernel), List.mem_of_getElem? (i := 995) (by decide +kernel)⟩
theorem lw_p49 : lw_okq (⟨"KnownWeightModel", "isLie", "(I)Z"⟩, 38) := ⟨⟨by decide +kernel, by decide +kernel⟩, List.mem_of_getElem? (i := 747) (by decide +kernel), List.mem_of_getElem? (i := 998) (by decide +kernel), List.mem_of_getElem? (i := 999) (by decide +kernel)⟩
theorem lw_p50 : lw_okq (⟨"KnownWeightModel", "isBridge", "(I)Z"⟩, 38) := ⟨⟨by decide +kernel, by decide +kernel⟩, List.mem_of_getElem? (i := 747) (by decide +kernel), List.mem_of_getElem? (i := 1006) (by decide +kernel), List.mem_of_getElem? (i := 1007) (by decide +kernel)⟩
theorem lw_p51 : lw_okq (⟨"KnownWeightModel", "barred", "(I)I"⟩, 38) := ⟨⟨by decide +kernel, by decide +kernel⟩, List.mem_of_getElem? (i := 747) (by decide +kernel), List.mem_of_getElem? (i := 1023) (by decide +kernel), List.mem_of_getElem? (i := 1024) (by decide +kernel)⟩
theorem lw_p52 : lw_okq (⟨"KnownWeightModel", "pass", "()V"⟩, 38) := ⟨⟨by decide +kernel, by decide +kernel⟩, List.mem_of_getElem? (i := 747) (by decide +kernel), List.mem_of_getElem? (i := 1031) (by decide +kernel), List.mem_of_getElem? (i := 1032) (by decide +kernel)⟩
theorem lw_p53 : lw_okq (⟨"KnownWeightModel", "tells", "(I)V"⟩, 38) := ⟨⟨by decide +kernel, by decide +kernel⟩, List.mem_of_getElem? (i := 747) (by decide +kernel), List.mem_of_getElem? (i := 1035) (by decide +kernel), List.mem_of_getElem? (i := 1036) (by decide +kernel)⟩
theorem lw_p54 : lw_okq (⟨"KnownWeightModel", "draw", "(I)I"⟩, 38) := ⟨⟨by decide +kernel, by decide +kernel⟩, List.mem_of_getElem? (i := 747) (by decide +kernel), List.mem_of_getElem? (i := 1043) (by decide +kernel), List.mem_of_getElem? (i := 1044) (by decide +kernel)⟩
theorem lw_p55 : lw_okq (⟨"KnownWeightModel", "isSet", "(I)Z"⟩, 38) := ⟨⟨by decide +kernel, by decide +kernel⟩, List.mem_of_getElem? (i := 747) (by decide +kernel), List.mem_of_getElem? (i := 1063) (by decide +kernel), List.mem_of_getElem? (i := 1064) (by decide +kernel)⟩
theorem lw_p56 : lw_okq (⟨"KnownWeightModel", "togetherOf", "(I)I"⟩, 38) := ⟨⟨by decide +kernel, by decide +kernel⟩, List.mem_of_getElem? (i := 747) (by decide +kernel), List.mem_of_getElem? (i := 1071) (by decide +kernel), List.mem_of_getElem? (i := 1072) (by decide +kernel)⟩
theorem lw_p57 : lw_okq (⟨"KnownWeightModel", "layWays", "(III)V"⟩, 38) := ⟨⟨by decide +kernel, by decide +kernel⟩, List.mem_of_getElem? (i := 747) (by decide +kernel), List.mem_of_getElem? (i := 1079) (by decide +kernel), List.mem_of_getElem? (i := 1080) (by decide +kernel)⟩
theorem lw_p58 : lw_okq (⟨"KnownWeightModel", "waysTo", "(I)J"⟩, 38) := ⟨⟨by decide +kernel, by decide +kernel⟩, List.mem_of_getElem? (i := 747) (by decide +kernel), List.mem_of_getElem? (i := 1083) (by decide +kernel), List.mem_of_getElem? (i := 1084) (by decide +kernel)⟩
theorem lw_p59 : lw_okq (⟨"KnownWeightModel", "canCome", "(III)Z"⟩, 38) := ⟨⟨by decide +kernel, by decide +kernel⟩, List.mem_of_getElem? (i := 747) (by decide +kernel), List.mem_of_getElem? (i := 1098) (by decide +kernel), List.mem_of_getElem? (i := 1099) (by decide +kernel)⟩
theorem lw_p60 : lw_okq (⟨"KnownWeightModel", "forgotten", "(III)I"⟩, 38) := ⟨⟨by decide +kernel, by decide +kernel⟩, List.mem_of_getElem? (i := 747) (by decide +kernel), List.mem_of_getElem? (i := 1106) (by decide +kernel), List.mem_of_getElem? (i := 1107) (by decide +kernel)⟩
def lw_privs_4 : List (MethodName × Nat) := [(⟨"KnownWeightModel", "gramsOf", "(I)I"⟩, 38), (⟨"KnownWeightModel", "isLie", "(I)Z"⟩, 38), (⟨"KnownWeightModel", "isBridge", "(I)Z"⟩, 38), (⟨"KnownWeightModel", "barred", "(I)I"⟩, 38), (⟨"KnownWeightModel", "pass", "()V"⟩, 38), (⟨"KnownWeightModel", "tells", "(I)V"⟩, 38), (⟨"KnownWeightModel", "draw", "(I)I"⟩, 38), (⟨"KnownWeightModel", "isSet", "(I)Z"⟩, 38), (⟨"KnownWeightModel", "togetherOf", "(I)I"⟩, 38), (⟨"KnownWeightModel", "layWays", "(III)V"⟩, 38), (⟨"KnownWeightModel", "waysTo", "(I)J"⟩, 38), (⟨"KnownWeightModel", "canCome", "(III)Z"⟩, 38), (⟨"KnownWeightModel", "forgotten", "(III)I"⟩, 38)]
theorem lw_r4 : ∀ q ∈ lw_privs_4, lw_okq q := List.forall_mem_cons.mpr ⟨lw_p48, List.forall_mem_cons.mpr ⟨lw_p49, List.forall_mem_cons.mpr ⟨lw_p50, List.forall_mem_cons.mpr ⟨lw_p51, List.forall_mem_cons.mpr ⟨lw_p52, List.forall_mem_cons.mpr ⟨lw_p53, List.forall_mem_cons.mpr ⟨lw_p54, List.forall_mem_cons.mpr ⟨lw_p55, List.forall_mem_cons.mpr ⟨lw_p56, List.forall_mem_cons.mpr ⟨lw_p57, List.forall_mem_cons.mpr ⟨lw_p58, List.forall_mem_cons.mpr ⟨lw_p59, List.forall_mem_cons.mpr ⟨lw_p60, fun _ h => absurd h List.not_mem_nil⟩⟩⟩⟩⟩⟩⟩⟩⟩⟩⟩⟩⟩
def lw_privs : List (MethodName × Nat) := lw_privs_1 ++ (lw_privs_2 ++ (lw_privs_3 ++ (lw_privs_4)))
def lw_tbl : List Cond := k2_sels lw_privs ++ tables_1
theorem lw_privs_ok : ∀ q ∈ lw_privs, lw_okq q := by
  show ∀ q ∈ lw_privs_1 ++ (lw_privs_2 ++ (lw_privs_3 ++ (lw_privs_4))), lw_okq q
  exact List.forall_mem_append.mpr ⟨lw_r1, List.forall_mem_append.mpr ⟨lw_r2, List.forall_mem_append.mpr ⟨lw_r3, lw_r4⟩⟩⟩
end
section
def RX0 : String := "KnownWeight$Chances"
def TX0 : u_T := fun k => match k with
  | 0 => ("KnownWeight$Chances", "row", "[I", true)
  | 1 => ("KnownWeight$Chances", "lowest", "I", false)
  | 2 => ("KnownWeight$Chances", "from", "I", false)
  | _ => ("KnownWeight$Chances", "to", "I", false)
def tyX0 : Nat → FieldType := fun k => match k with
  | 0 => .array .int
  | 1 => .int
  | 2 => .int
  | _ => .int
abbrev wsX00 : List Cond := u_ws RX0 TX0 4
theorem nmX0 : ∀ a, a < 4 → ∀ b, b < 4 → a ≠ b → (TX0 a).2.1 ≠ (TX0 b).2.1 := by decide +kernel
theorem tyX0_ok : ∀ k, k < 4 → parseFieldDescriptor (TX0 k).2.2.1 = some (tyX0 k) := by decide +kernel
abbrev cX0_init : ByteArray := prog_2_method_1_code
def yX0_init : MethodName := ⟨RX0, "<init>", "()V"⟩
abbrev cX0_spread : ByteArray := prog_2_method_2_code
def yX0_spread : MethodName := ⟨RX0, "spread", "(LKnownWeight$Land;LKnownWeight$Heads;II)V"⟩
abbrev cX0_headForgets : ByteArray := prog_2_method_3_code
def yX0_headForgets : MethodName := ⟨RX0, "headForgets", "(II)V"⟩
abbrev cX0_move : ByteArray := prog_2_method_4_code
def yX0_move : MethodName := ⟨RX0, "move", "(III)V"⟩
abbrev cX0_upTo : ByteArray := prog_2_method_5_code
def yX0_upTo : MethodName := ⟨RX0, "upTo", "(I)I"⟩
def RX1 : String := "KnownWeight$Ferry"
def TX1 : u_T := fun k => match k with
  | 0 => ("KnownWeight$Ferry", "fewest", "[I", true)
  | 1 => ("KnownWeight$Ferry", "loads", "[I", true)
  | _ => ("KnownWeight$Ferry", "bears", "I", false)
def tyX1 : Nat → FieldType := fun k => match k with
  | 0 => .array .int
  | 1 => .array .int
  | _ => .int
abbrev wsX10 : List Cond := u_ws RX1 TX1 3
theorem nmX1 : ∀ a, a < 3 → ∀ b, b < 3 → a ≠ b → (TX1 a).2.1 ≠ (TX1 b).2.1 := by decide +kernel
theorem tyX1_ok : ∀ k, k < 3 → parseFieldDescriptor (TX1 k).2.2.1 = some (tyX1 k) := by decide +kernel
abbrev cX1_init : ByteArray := prog_3_method_1_code
def yX1_init : MethodName := ⟨RX1, "<init>", "()V"⟩
abbrev cX1_plan : ByteArray := prog_3_method_2_code
def yX1_plan : MethodName := ⟨RX1, "plan", "(LKnownWeight$Land;LKnownWeight$Heads;II)V"⟩
abbrev cX1_fewestOf : ByteArray := prog_3_method_3_code
def yX1_fewestOf : MethodName := ⟨RX1, "fewestOf", "(I)I"⟩
abbrev cX1_group : ByteArray := prog_3_method_4_code
def yX1_group : MethodName := ⟨RX1, "group", "(II)I"⟩
abbrev cX1_firstGroup : ByteArray := prog_3_method_5_code
def yX1_firstGroup : MethodName := ⟨RX1, "firstGroup", "(I)I"⟩
def RX2 : String := "KnownWeight$Heads"
def TX2 : u_T := fun k => match k with
  | 0 => ("KnownWeight$Heads", "hours", "I", false)
  | 1 => ("KnownWeight$Heads", "drawn", "I", false)
  | 2 => ("KnownWeight$Heads", "knowers", "[I", true)
  | 3 => ("KnownWeight$Heads", "hearers", "[I", true)
  | _ => ("KnownWeight$Heads", "heard", "[I", true)
def tyX2 : Nat → FieldType := fun k => match k with
  | 0 => .int
  | 1 => .int
  | 2 => .array .int
  | 3 => .array .int
  | _ => .array .int
abbrev wsX20 : List Cond := u_ws RX2 TX2 5
theorem nmX2 : ∀ a, a < 5 → ∀ b, b < 5 → a ≠ b → (TX2 a).2.1 ≠ (TX2 b).2.1 := by decide +kernel
theorem tyX2_ok : ∀ k, k < 5 → parseFieldDescriptor (TX2 k).2.2.1 = some (tyX2 k) := by decide +kernel
abbrev cX2_init : ByteArray := prog_4_method_1_code
def yX2_init : MethodName := ⟨RX2, "<init>", "()V"⟩
abbrev cX2_begin : ByteArray := prog_4_method_2_code
def yX2_begin : MethodName := ⟨RX2, "begin", "(LKnownWeight$Land;)V"⟩
abbrev cX2_copyFrom : ByteArray := prog_4_method_3_code
def yX2_copyFrom : MethodName := ⟨RX2, "copyFrom", "(LKnownWeight$Heads;)V"⟩
abbrev cX2_knows : ByteArray := prog_4_method_4_code
def yX2_knows : MethodName := ⟨RX2, "knows", "(II)Z"⟩
abbrev cX2_heardAt : ByteArray := prog_4_method_5_code
def yX2_heardAt : MethodName := ⟨RX2, "heardAt", "(II)I"⟩
abbrev cX2_learn : ByteArray := prog_4_method_6_code
def yX2_learn : MethodName := ⟨RX2, "learn", "(II)V"⟩
abbrev cX2_lose : ByteArray := prog_4_method_7_code
def yX2_lose : MethodName := ⟨RX2, "lose", "(II)V"⟩
abbrev cX2_factsIn : ByteArray := prog_4_method_8_code
def yX2_factsIn : MethodName := ⟨RX2, "factsIn", "(I)I"⟩
abbrev cX2_headsOf : ByteArray := prog_4_method_9_code
def yX2_headsOf : MethodName := ⟨RX2, "headsOf", "(LKnownWeight$Land;I)I"⟩
abbrev cX2_allHeads : ByteArray := prog_4_method_10_code
def yX2_allHeads : MethodName := ⟨RX2, "allHeads", "(LKnownWeight$Land;)I"⟩
abbrev cX2_gramsOf : ByteArray := prog_4_method_11_code
def yX2_gramsOf : MethodName := ⟨RX2, "gramsOf", "(LKnownWeight$Land;I)I"⟩
abbrev cX2_load : ByteArray := prog_4_method_12_code
def yX2_load : MethodName := ⟨RX2, "load", "(LKnownWeight$Land;I)I"⟩
abbrev cX2_loadOfAll : ByteArray := prog_4_method_13_code
def yX2_loadOfAll : MethodName := ⟨RX2, "loadOfAll", "(LKnownWeight$Land;I)I"⟩
abbrev cX2_passHour : ByteArray := prog_4_method_14_code
def yX2_passHour : MethodName := ⟨RX2, "passHour", "(LKnownWeight$Land;)V"⟩
abbrev cX2_forgetOld : ByteArray := prog_4_method_15_code
def yX2_forgetOld : MethodName := ⟨RX2, "forgetOld", "(LKnownWeight$Land;)V"⟩
abbrev cX2_tellOn : ByteArray := prog_4_method_16_code
def yX2_tellOn : MethodName := ⟨RX2, "tellOn", "(LKnownWeight$Land;)V"⟩
abbrev cX2_chat : ByteArray := prog_4_method_17_code
def yX2_chat : MethodName := ⟨RX2, "chat", "(LKnownWeight$Land;I)V"⟩
abbrev cX2_changeByDraws : ByteArray := prog_4_method_18_code
def yX2_changeByDraws : MethodName := ⟨RX2, "changeByDraws", "(LKnownWeight$Land;)V"⟩
abbrev cX2_drawOf : ByteArray := prog_4_method_19_code
def yX2_drawOf : MethodName := ⟨RX2, "drawOf", "(I)I"⟩
def RX3 : String := "KnownWeight$Land"
def TX3 : u_T := fun k => match k with
  | 0 => ("KnownWeight$Land", "people", "I", false)
  | 1 => ("KnownWeight$Land", "facts", "I", false)
  | 2 => ("KnownWeight$Land", "friendships", "I", false)
  | 3 => ("KnownWeight$Land", "bridges", "I", false)
  | 4 => ("KnownWeight$Land", "memory", "I", false)
  | 5 => ("KnownWeight$Land", "quiet", "I", false)
  | 6 => ("KnownWeight$Land", "lieFacts", "I", false)
  | 7 => ("KnownWeight$Land", "factsWithKnowers", "I", false)
  | 8 => ("KnownWeight$Land", "owner", "[I", true)
  | 9 => ("KnownWeight$Land", "grams", "[I", true)
  | 10 => ("KnownWeight$Land", "firstKnowers", "[I", true)
  | 11 => ("KnownWeight$Land", "factsOf", "[I", true)
  | 12 => ("KnownWeight$Land", "friends", "[I", true)
  | 13 => ("KnownWeight$Land", "oneFriend", "[I", true)
  | 14 => ("KnownWeight$Land", "otherFriend", "[I", true)
  | _ => ("KnownWeight$Land", "bears", "[I", true)
def tyX3 : Nat → FieldType := fun k => match k with
  | 0 => .int
  | 1 => .int
  | 2 => .int
  | 3 => .int
  | 4 => .int
  | 5 => .int
  | 6 => .int
  | 7 => .int
  | 8 => .array .int
  | 9 => .array .int
  | 10 => .array .int
  | 11 => .array .int
  | 12 => .array .int
  | 13 => .array .int
  | 14 => .array .int
  | _ => .array .int
abbrev wsX30 : List Cond := u_ws RX3 TX3 16
theorem nmX3 : ∀ a, a < 16 → ∀ b, b < 16 → a ≠ b → (TX3 a).2.1 ≠ (TX3 b).2.1 := by decide +kernel
theorem tyX3_ok : ∀ k, k < 16 → parseFieldDescriptor (TX3 k).2.2.1 = some (tyX3 k) := by decide +kernel
abbrev cX3_init : ByteArray := prog_5_method_1_code
def yX3_init : MethodName := ⟨RX3, "<init>", "()V"⟩
abbrev cX3_clear : ByteArray := prog_5_method_2_code
def yX3_clear : MethodName := ⟨RX3, "clear", "()V"⟩
abbrev cX3_hasPerson : ByteArray := prog_5_method_3_code
def yX3_hasPerson : MethodName := ⟨RX3, "hasPerson", "(I)Z"⟩
abbrev cX3_hasPeople : ByteArray := prog_5_method_4_code
def yX3_hasPeople : MethodName := ⟨RX3, "hasPeople", "(I)Z"⟩
abbrev cX3_hasFact : ByteArray := prog_5_method_5_code
def yX3_hasFact : MethodName := ⟨RX3, "hasFact", "(I)Z"⟩
abbrev cX3_hasFactOrNone : ByteArray := prog_5_method_6_code
def yX3_hasFactOrNone : MethodName := ⟨RX3, "hasFactOrNone", "(I)Z"⟩
abbrev cX3_hasBridge : ByteArray := prog_5_method_7_code
def yX3_hasBridge : MethodName := ⟨RX3, "hasBridge", "(I)Z"⟩
abbrev cX3_everybody : ByteArray := prog_5_method_8_code
def yX3_everybody : MethodName := ⟨RX3, "everybody", "()I"⟩
abbrev cX3_isLie : ByteArray := prog_5_method_9_code
def yX3_isLie : MethodName := ⟨RX3, "isLie", "(I)Z"⟩
abbrev cX3_isQuiet : ByteArray := prog_5_method_10_code
def yX3_isQuiet : MethodName := ⟨RX3, "isQuiet", "(I)Z"⟩
abbrev cX3_pull : ByteArray := prog_5_method_11_code
def yX3_pull : MethodName := ⟨RX3, "pull", "(I)I"⟩
abbrev cX3_addFact : ByteArray := prog_5_method_12_code
def yX3_addFact : MethodName := ⟨RX3, "addFact", "(III)V"⟩
abbrev cX3_addFriendship : ByteArray := prog_5_method_13_code
def yX3_addFriendship : MethodName := ⟨RX3, "addFriendship", "(II)V"⟩
abbrev cX3_waysOut : ByteArray := prog_5_method_14_code
def yX3_waysOut : MethodName := ⟨RX3, "waysOut", "(I)I"⟩
def RX4 : String := "KnownWeight$LandText"
def TX4 : u_T := fun k => match k with
  | 0 => ("KnownWeight$LandText", "letters", "[I", true)
  | 1 => ("KnownWeight$LandText", "length", "I", false)
  | 2 => ("KnownWeight$LandText", "faultPlace", "I", false)
  | 3 => ("KnownWeight$LandText", "faultKind", "I", false)
  | 4 => ("KnownWeight$LandText", "place", "I", false)
  | _ => ("KnownWeight$LandText", "numberPlace", "I", false)
def tyX4 : Nat → FieldType := fun k => match k with
  | 0 => .array .int
  | 1 => .int
  | 2 => .int
  | 3 => .int
  | 4 => .int
  | _ => .int
abbrev wsX40 : List Cond := u_ws RX4 TX4 6
theorem nmX4 : ∀ a, a < 6 → ∀ b, b < 6 → a ≠ b → (TX4 a).2.1 ≠ (TX4 b).2.1 := by decide +kernel
theorem tyX4_ok : ∀ k, k < 6 → parseFieldDescriptor (TX4 k).2.2.1 = some (tyX4 k) := by decide +kernel
abbrev cX4_init : ByteArray := prog_6_method_1_code
def yX4_init : MethodName := ⟨RX4, "<init>", "()V"⟩
abbrev cX4_add : ByteArray := prog_6_method_2_code
def yX4_add : MethodName := ⟨RX4, "add", "(I)I"⟩
abbrev cX4_readInto : ByteArray := prog_6_method_3_code
def yX4_readInto : MethodName := ⟨RX4, "readInto", "(LKnownWeight$Land;)I"⟩
abbrev cX4_blame : ByteArray := prog_6_method_4_code
def yX4_blame : MethodName := ⟨RX4, "blame", "(II)V"⟩
abbrev cX4_letterHere : ByteArray := prog_6_method_5_code
def yX4_letterHere : MethodName := ⟨RX4, "letterHere", "()I"⟩
abbrev cX4_isFigureHere : ByteArray := prog_6_method_6_code
def yX4_isFigureHere : MethodName := ⟨RX4, "isFigureHere", "()Z"⟩
abbrev cX4_skipBlanks : ByteArray := prog_6_method_7_code
def yX4_skipBlanks : MethodName := ⟨RX4, "skipBlanks", "()V"⟩
abbrev cX4_readClause : ByteArray := prog_6_method_8_code
def yX4_readClause : MethodName := ⟨RX4, "readClause", "(LKnownWeight$Land;)V"⟩
abbrev cX4_faultOfWord : ByteArray := prog_6_method_9_code
def yX4_faultOfWord : MethodName := ⟨RX4, "faultOfWord", "(LKnownWeight$Land;I)I"⟩
abbrev cX4_readEnd : ByteArray := prog_6_method_10_code
def yX4_readEnd : MethodName := ⟨RX4, "readEnd", "()V"⟩
abbrev cX4_readNumber : ByteArray := prog_6_method_11_code
def yX4_readNumber : MethodName := ⟨RX4, "readNumber", "(II)I"⟩
abbrev cX4_readPerson : ByteArray := prog_6_method_12_code
def yX4_readPerson : MethodName := ⟨RX4, "readPerson", "(LKnownWeight$Land;)I"⟩
abbrev cX4_readPeople : ByteArray := prog_6_method_13_code
def yX4_readPeople : MethodName := ⟨RX4, "readPeople", "(LKnownWeight$Land;)V"⟩
abbrev cX4_readFact : ByteArray := prog_6_method_14_code
def yX4_readFact : MethodName := ⟨RX4, "readFact", "(LKnownWeight$Land;)V"⟩
abbrev cX4_readKnowers : ByteArray := prog_6_method_15_code
def yX4_readKnowers : MethodName := ⟨RX4, "readKnowers", "(LKnownWeight$Land;)V"⟩
abbrev cX4_readFriendship : ByteArray := prog_6_method_16_code
def yX4_readFriendship : MethodName := ⟨RX4, "readFriendship", "(LKnownWeight$Land;)V"⟩
abbrev cX4_readQuiet : ByteArray := prog_6_method_17_code
def yX4_readQuiet : MethodName := ⟨RX4, "readQuiet", "(LKnownWeight$Land;)V"⟩
abbrev cX4_readBridge : ByteArray := prog_6_method_18_code
def yX4_readBridge : MethodName := ⟨RX4, "readBridge", "(LKnownWeight$Land;)V"⟩
abbrev cX4_readMemory : ByteArray := prog_6_method_19_code
def yX4_readMemory : MethodName := ⟨RX4, "readMemory", "(LKnownWeight$Land;)V"⟩
def RX5 : String := "KnownWeight$Pact"
def TX5 : u_T := fun k => match k with
  | 0 => ("KnownWeight$Pact", "leastOfOne", "[I", true)
  | _ => ("KnownWeight$Pact", "leastOfOther", "[I", true)
def tyX5 : Nat → FieldType := fun k => match k with
  | 0 => .array .int
  | _ => .array .int
abbrev wsX50 : List Cond := u_ws RX5 TX5 2
theorem nmX5 : ∀ a, a < 2 → ∀ b, b < 2 → a ≠ b → (TX5 a).2.1 ≠ (TX5 b).2.1 := by decide +kernel
theorem tyX5_ok : ∀ k, k < 2 → parseFieldDescriptor (TX5 k).2.2.1 = some (tyX5 k) := by decide +kernel
abbrev cX5_init : ByteArray := prog_7_method_1_code
def yX5_init : MethodName := ⟨RX5, "<init>", "()V"⟩
abbrev cX5_agree : ByteArray := prog_7_method_2_code
def yX5_agree : MethodName := ⟨RX5, "agree", "(LKnownWeight$Land;II)I"⟩
abbrev cX5_findParts : ByteArray := prog_7_method_3_code
def yX5_findParts : MethodName := ⟨RX5, "findParts", "(LKnownWeight$Land;I[I)V"⟩
abbrev cX5_gramsAHead : ByteArray := prog_7_method_4_code
def yX5_gramsAHead : MethodName := ⟨RX5, "gramsAHead", "(LKnownWeight$Land;I)I"⟩
def RX6 : String := "KnownWeight$Scales"
def TX6 : u_T := fun k => match k with
  | 0 => ("KnownWeight$Scales", "count", "I", false)
  | 1 => ("KnownWeight$Scales", "whom", "[I", true)
  | _ => ("KnownWeight$Scales", "grams", "[I", true)
def tyX6 : Nat → FieldType := fun k => match k with
  | 0 => .int
  | 1 => .array .int
  | _ => .array .int
abbrev wsX60 : List Cond := u_ws RX6 TX6 3
theorem nmX6 : ∀ a, a < 3 → ∀ b, b < 3 → a ≠ b → (TX6 a).2.1 ≠ (TX6 b).2.1 := by decide +kernel
theorem tyX6_ok : ∀ k, k < 3 → parseFieldDescriptor (TX6 k).2.2.1 = some (tyX6 k) := by decide +kernel
abbrev cX6_init : ByteArray := prog_8_method_1_code
def yX6_init : MethodName := ⟨RX6, "<init>", "()V"⟩
abbrev cX6_add : ByteArray := prog_8_method_2_code
def yX6_add : MethodName := ⟨RX6, "add", "(II)I"⟩
abbrev cX6_firstWrong : ByteArray := prog_8_method_3_code
def yX6_firstWrong : MethodName := ⟨RX6, "firstWrong", "(LKnownWeight$Land;LKnownWeight$Heads;)I"⟩
def RX7 : String := "KnownWeight$Ways"
def TX7 : u_T := fun k => match k with
  | 0 => ("KnownWeight$Ways", "row", "[I", true)
  | 1 => ("KnownWeight$Ways", "lowest", "I", false)
  | _ => ("KnownWeight$Ways", "top", "I", false)
def tyX7 : Nat → FieldType := fun k => match k with
  | 0 => .array .int
  | 1 => .int
  | _ => .int
abbrev wsX70 : List Cond := u_ws RX7 TX7 3
theorem nmX7 : ∀ a, a < 3 → ∀ b, b < 3 → a ≠ b → (TX7 a).2.1 ≠ (TX7 b).2.1 := by decide +kernel
theorem tyX7_ok : ∀ k, k < 3 → parseFieldDescriptor (TX7 k).2.2.1 = some (tyX7 k) := by decide +kernel
abbrev cX7_init : ByteArray := prog_9_method_1_code
def yX7_init : MethodName := ⟨RX7, "<init>", "()V"⟩
abbrev cX7_spread : ByteArray := prog_9_method_2_code
def yX7_spread : MethodName := ⟨RX7, "spread", "(LKnownWeight$Land;I)V"⟩
abbrev cX7_addFact : ByteArray := prog_9_method_3_code
def yX7_addFact : MethodName := ⟨RX7, "addFact", "(II)V"⟩
abbrev cX7_countAt : ByteArray := prog_9_method_4_code
def yX7_countAt : MethodName := ⟨RX7, "countAt", "(I)I"⟩
abbrev cX7_fewestHeads : ByteArray := prog_9_method_5_code
def yX7_fewestHeads : MethodName := ⟨RX7, "fewestHeads", "(LKnownWeight$Land;II)I"⟩
abbrev cX7_mostHeads : ByteArray := prog_9_method_6_code
def yX7_mostHeads : MethodName := ⟨RX7, "mostHeads", "(LKnownWeight$Land;II)I"⟩
def RX8 : String := "KnownWeight"
def TX8 : u_T := fun k => match k with
  | 0 => ("KnownWeight", "text", "LKnownWeight$LandText;", true)
  | 1 => ("KnownWeight", "here", "LKnownWeight$Land;", false)
  | 2 => ("KnownWeight", "draft", "LKnownWeight$Land;", false)
  | 3 => ("KnownWeight", "now", "LKnownWeight$Heads;", true)
  | 4 => ("KnownWeight", "tried", "LKnownWeight$Heads;", true)
  | 5 => ("KnownWeight", "images", "[LKnownWeight$Heads;", true)
  | 6 => ("KnownWeight", "kept", "I", false)
  | 7 => ("KnownWeight", "scales", "LKnownWeight$Scales;", true)
  | 8 => ("KnownWeight", "ferry", "LKnownWeight$Ferry;", true)
  | 9 => ("KnownWeight", "ways", "LKnownWeight$Ways;", true)
  | 10 => ("KnownWeight", "chances", "LKnownWeight$Chances;", true)
  | _ => ("KnownWeight", "pact", "LKnownWeight$Pact;", true)
def tyX8 : Nat → FieldType := fun k => match k with
  | 0 => .object "KnownWeight$LandText"
  | 1 => .object "KnownWeight$Land"
  | 2 => .object "KnownWeight$Land"
  | 3 => .object "KnownWeight$Heads"
  | 4 => .object "KnownWeight$Heads"
  | 5 => .array (.object "KnownWeight$Heads")
  | 6 => .int
  | 7 => .object "KnownWeight$Scales"
  | 8 => .object "KnownWeight$Ferry"
  | 9 => .object "KnownWeight$Ways"
  | 10 => .object "KnownWeight$Chances"
  | _ => .object "KnownWeight$Pact"
abbrev wsX80 : List Cond := u_ws RX8 TX8 12
theorem nmX8 : ∀ a, a < 12 → ∀ b, b < 12 → a ≠ b → (TX8 a).2.1 ≠ (TX8 b).2.1 := by decide +kernel
theorem tyX8_ok : ∀ k, k < 12 → parseFieldDescriptor (TX8 k).2.2.1 = some (tyX8 k) := by decide +kernel
abbrev cX8_init : ByteArray := prog_1_method_1_code
def yX8_init : MethodName := ⟨RX8, "<init>", "()V"⟩
abbrev cX8_feed : ByteArray := prog_1_method_2_code
def yX8_feed : MethodName := ⟨RX8, "feed", "(I)I"⟩
abbrev cX8_land : ByteArray := prog_1_method_3_code
def yX8_land : MethodName := ⟨RX8, "land", "()I"⟩
abbrev cX8_fault : ByteArray := prog_1_method_4_code
def yX8_fault : MethodName := ⟨RX8, "fault", "()I"⟩
abbrev cX8_told : ByteArray := prog_1_method_5_code
def yX8_told : MethodName := ⟨RX8, "told", "(I)I"⟩
abbrev cX8_fact : ByteArray := prog_1_method_6_code
def yX8_fact : MethodName := ⟨RX8, "fact", "(II)I"⟩
abbrev cX8_person : ByteArray := prog_1_method_7_code
def yX8_person : MethodName := ⟨RX8, "person", "(II)I"⟩
abbrev cX8_since : ByteArray := prog_1_method_8_code
def yX8_since : MethodName := ⟨RX8, "since", "(II)I"⟩
abbrev cX8_weight : ByteArray := prog_1_method_9_code
def yX8_weight : MethodName := ⟨RX8, "weight", "(I)I"⟩
abbrev cX8_bridge : ByteArray := prog_1_method_10_code
def yX8_bridge : MethodName := ⟨RX8, "bridge", "(I)I"⟩
abbrev cX8_tell : ByteArray := prog_1_method_11_code
def yX8_tell : MethodName := ⟨RX8, "tell", "(II)I"⟩
abbrev cX8_forget : ByteArray := prog_1_method_12_code
def yX8_forget : MethodName := ⟨RX8, "forget", "(II)I"⟩
abbrev cX8_hour : ByteArray := prog_1_method_13_code
def yX8_hour : MethodName := ⟨RX8, "hour", "(I)I"⟩
abbrev cX8_drift : ByteArray := prog_1_method_14_code
def yX8_drift : MethodName := ⟨RX8, "drift", "(I)I"⟩
abbrev cX8_refusalOfHours : ByteArray := prog_1_method_15_code
def yX8_refusalOfHours : MethodName := ⟨RX8, "refusalOfHours", "(I)I"⟩
abbrev cX8_heavy : ByteArray := prog_1_method_16_code
def yX8_heavy : MethodName := ⟨RX8, "heavy", "(II)I"⟩
abbrev cX8_when : ByteArray := prog_1_method_17_code
def yX8_when : MethodName := ⟨RX8, "when", "(II)I"⟩
abbrev cX8_least : ByteArray := prog_1_method_18_code
def yX8_least : MethodName := ⟨RX8, "least", "(III)I"⟩
abbrev cX8_timesToForget : ByteArray := prog_1_method_19_code
def yX8_timesToForget : MethodName := ⟨RX8, "timesToForget", "(III)I"⟩
abbrev cX8_trips : ByteArray := prog_1_method_20_code
def yX8_trips : MethodName := ⟨RX8, "trips", "(III)I"⟩
abbrev cX8_counted : ByteArray := prog_1_method_21_code
def yX8_counted : MethodName := ⟨RX8, "counted", "(IIII)I"⟩
abbrev cX8_lies : ByteArray := prog_1_method_22_code
def yX8_lies : MethodName := ⟨RX8, "lies", "(III)I"⟩
abbrev cX8_canWeigh : ByteArray := prog_1_method_23_code
def yX8_canWeigh : MethodName := ⟨RX8, "canWeigh", "(I)Z"⟩
abbrev cX8_apart : ByteArray := prog_1_method_24_code
def yX8_apart : MethodName := ⟨RX8, "apart", "(III)I"⟩
abbrev cX8_fewestToBreak : ByteArray := prog_1_method_25_code
def yX8_fewestToBreak : MethodName := ⟨RX8, "fewestToBreak", "(II)I"⟩
abbrev cX8_treaty : ByteArray := prog_1_method_26_code
def yX8_treaty : MethodName := ⟨RX8, "treaty", "(III)I"⟩
abbrev cX8_factsToForget : ByteArray := prog_1_method_27_code
def yX8_factsToForget : MethodName := ⟨RX8, "factsToForget", "(II)I"⟩
abbrev cX8_odds : ByteArray := prog_1_method_28_code
def yX8_odds : MethodName := ⟨RX8, "odds", "(III)I"⟩
abbrev cX8_write : ByteArray := prog_1_method_29_code
def yX8_write : MethodName := ⟨RX8, "write", "(II)I"⟩
abbrev cX8_tear : ByteArray := prog_1_method_30_code
def yX8_tear : MethodName := ⟨RX8, "tear", "()I"⟩
abbrev cX8_judge : ByteArray := prog_1_method_31_code
def yX8_judge : MethodName := ⟨RX8, "judge", "()I"⟩
abbrev cX8_seed : ByteArray := prog_1_method_32_code
def yX8_seed : MethodName := ⟨RX8, "seed", "(I)I"⟩
abbrev cX8_keep : ByteArray := prog_1_method_33_code
def yX8_keep : MethodName := ⟨RX8, "keep", "(I)I"⟩
abbrev cX8_goBack : ByteArray := prog_1_method_34_code
def yX8_goBack : MethodName := ⟨RX8, "goBack", "(I)I"⟩
def RX9 : String := "KnownWeightModel"
def TX9 : u_T := fun k => match k with
  | 0 => ("KnownWeightModel", "letters", "I", false)
  | 1 => ("KnownWeightModel", "text", "[I", true)
  | 2 => ("KnownWeightModel", "position", "I", false)
  | 3 => ("KnownWeightModel", "tokenAt", "I", false)
  | 4 => ("KnownWeightModel", "token", "I", false)
  | 5 => ("KnownWeightModel", "number", "I", false)
  | 6 => ("KnownWeightModel", "faultAt", "I", false)
  | 7 => ("KnownWeightModel", "faultIs", "I", false)
  | 8 => ("KnownWeightModel", "readMany", "I", false)
  | 9 => ("KnownWeightModel", "readFacts", "I", false)
  | 10 => ("KnownWeightModel", "readFact", "[I", true)
  | 11 => ("KnownWeightModel", "readPairs", "I", false)
  | 12 => ("KnownWeightModel", "readPair", "[I", true)
  | 13 => ("KnownWeightModel", "readQuiet", "I", false)
  | 14 => ("KnownWeightModel", "readBridges", "I", false)
  | 15 => ("KnownWeightModel", "readBridge", "[I", true)
  | 16 => ("KnownWeightModel", "readHours", "I", false)
  | 17 => ("KnownWeightModel", "many", "I", false)
  | 18 => ("KnownWeightModel", "facts", "I", false)
  | 19 => ("KnownWeightModel", "fact", "[I", true)
  | 20 => ("KnownWeightModel", "pairs", "I", false)
  | 21 => ("KnownWeightModel", "pair", "[I", true)
  | 22 => ("KnownWeightModel", "quiet", "I", false)
  | 23 => ("KnownWeightModel", "bridges", "I", false)
  | 24 => ("KnownWeightModel", "bridge", "[I", true)
  | 25 => ("KnownWeightModel", "forgets", "I", false)
  | 26 => ("KnownWeightModel", "now", "[I", true)
  | 27 => ("KnownWeightModel", "tried", "[I", true)
  | 28 => ("KnownWeightModel", "was", "[I", true)
  | 29 => ("KnownWeightModel", "image", "[I", true)
  | 30 => ("KnownWeightModel", "isKept", "[Z", true)
  | 31 => ("KnownWeightModel", "lines", "I", false)
  | 32 => ("KnownWeightModel", "line", "[I", true)
  | 33 => ("KnownWeightModel", "often", "[I", true)
  | 34 => ("KnownWeightModel", "best", "[I", true)
  | 35 => ("KnownWeightModel", "row", "[J", true)
  | 36 => ("KnownWeightModel", "next", "[J", true)
  | _ => ("KnownWeightModel", "weights", "[I", true)
def tyX9 : Nat → FieldType := fun k => match k with
  | 0 => .int
  | 1 => .array .int
  | 2 => .int
  | 3 => .int
  | 4 => .int
  | 5 => .int
  | 6 => .int
  | 7 => .int
  | 8 => .int
  | 9 => .int
  | 10 => .array .int
  | 11 => .int
  | 12 => .array .int
  | 13 => .int
  | 14 => .int
  | 15 => .array .int
  | 16 => .int
  | 17 => .int
  | 18 => .int
  | 19 => .array .int
  | 20 => .int
  | 21 => .array .int
  | 22 => .int
  | 23 => .int
  | 24 => .array .int
  | 25 => .int
  | 26 => .array .int
  | 27 => .array .int
  | 28 => .array .int
  | 29 => .array .int
  | 30 => .array .boolean
  | 31 => .int
  | 32 => .array .int
  | 33 => .array .int
  | 34 => .array .int
  | 35 => .array .long
  | 36 => .array .long
  | _ => .array .int
abbrev wsX90 : List Cond := u_ws RX9 TX9 38
theorem nmX9 : ∀ a, a < 38 → ∀ b, b < 38 → a ≠ b → (TX9 a).2.1 ≠ (TX9 b).2.1 := by decide +kernel
theorem tyX9_ok : ∀ k, k < 38 → parseFieldDescriptor (TX9 k).2.2.1 = some (tyX9 k) := by decide +kernel
abbrev cX9_init : ByteArray := prog_11_method_1_code
def yX9_init : MethodName := ⟨RX9, "<init>", "()V"⟩
abbrev cX9_in : ByteArray := prog_11_method_2_code
def yX9_in : MethodName := ⟨RX9, "in", "(III)Z"⟩
abbrev cX9_has : ByteArray := prog_11_method_3_code
def yX9_has : MethodName := ⟨RX9, "has", "(II)Z"⟩
abbrev cX9_begin : ByteArray := prog_11_method_4_code
def yX9_begin : MethodName := ⟨RX9, "begin", "()V"⟩
abbrev cX9_isOne : ByteArray := prog_11_method_5_code
def yX9_isOne : MethodName := ⟨RX9, "isOne", "(I)Z"⟩
abbrev cX9_isFact : ByteArray := prog_11_method_6_code
def yX9_isFact : MethodName := ⟨RX9, "isFact", "(I)Z"⟩
abbrev cX9_isBridge : ByteArray := prog_11_method_7_code
def yX9_isBridge : MethodName := ⟨RX9, "isBridge", "(I)Z"⟩
abbrev cX9_isSet : ByteArray := prog_11_method_8_code
def yX9_isSet : MethodName := ⟨RX9, "isSet", "(I)Z"⟩
abbrev cX9_feed : ByteArray := prog_11_method_9_code
def yX9_feed : MethodName := ⟨RX9, "feed", "(I)I"⟩
abbrev cX9_nextToken : ByteArray := prog_11_method_10_code
def yX9_nextToken : MethodName := ⟨RX9, "nextToken", "()V"⟩
abbrev cX9_fails : ByteArray := prog_11_method_11_code
def yX9_fails : MethodName := ⟨RX9, "fails", "(I)Z"⟩
abbrev cX9_isNumber : ByteArray := prog_11_method_12_code
def yX9_isNumber : MethodName := ⟨RX9, "isNumber", "(II)Z"⟩
abbrev cX9_isEnd : ByteArray := prog_11_method_13_code
def yX9_isEnd : MethodName := ⟨RX9, "isEnd", "()Z"⟩
abbrev cX9_isPeopleLine : ByteArray := prog_11_method_14_code
def yX9_isPeopleLine : MethodName := ⟨RX9, "isPeopleLine", "()Z"⟩
abbrev cX9_isFactLine : ByteArray := prog_11_method_15_code
def yX9_isFactLine : MethodName := ⟨RX9, "isFactLine", "()Z"⟩
abbrev cX9_isKnownLine : ByteArray := prog_11_method_16_code
def yX9_isKnownLine : MethodName := ⟨RX9, "isKnownLine", "()Z"⟩
abbrev cX9_isPairLine : ByteArray := prog_11_method_17_code
def yX9_isPairLine : MethodName := ⟨RX9, "isPairLine", "()Z"⟩
abbrev cX9_isQuietLine : ByteArray := prog_11_method_18_code
def yX9_isQuietLine : MethodName := ⟨RX9, "isQuietLine", "()Z"⟩
abbrev cX9_isBridgeLine : ByteArray := prog_11_method_19_code
def yX9_isBridgeLine : MethodName := ⟨RX9, "isBridgeLine", "()Z"⟩
abbrev cX9_isHoursLine : ByteArray := prog_11_method_20_code
def yX9_isHoursLine : MethodName := ⟨RX9, "isHoursLine", "()Z"⟩
abbrev cX9_isRead : ByteArray := prog_11_method_21_code
def yX9_isRead : MethodName := ⟨RX9, "isRead", "()Z"⟩
abbrev cX9_land : ByteArray := prog_11_method_22_code
def yX9_land : MethodName := ⟨RX9, "land", "()I"⟩
abbrev cX9_fault : ByteArray := prog_11_method_23_code
def yX9_fault : MethodName := ⟨RX9, "fault", "()I"⟩
abbrev cX9_personOf : ByteArray := prog_11_method_24_code
def yX9_personOf : MethodName := ⟨RX9, "personOf", "(I)I"⟩
abbrev cX9_gramsOf : ByteArray := prog_11_method_25_code
def yX9_gramsOf : MethodName := ⟨RX9, "gramsOf", "(I)I"⟩
abbrev cX9_isLie : ByteArray := prog_11_method_26_code
def yX9_isLie : MethodName := ⟨RX9, "isLie", "(I)Z"⟩
abbrev cX9_knows : ByteArray := prog_11_method_27_code
def yX9_knows : MethodName := ⟨RX9, "knows", "([III)Z"⟩
abbrev cX9_knowersOf : ByteArray := prog_11_method_28_code
def yX9_knowersOf : MethodName := ⟨RX9, "knowersOf", "([II)I"⟩
abbrev cX9_headsOf : ByteArray := prog_11_method_29_code
def yX9_headsOf : MethodName := ⟨RX9, "headsOf", "([II)I"⟩
abbrev cX9_weightOf : ByteArray := prog_11_method_30_code
def yX9_weightOf : MethodName := ⟨RX9, "weightOf", "([II)I"⟩
abbrev cX9_friendsOf : ByteArray := prog_11_method_31_code
def yX9_friendsOf : MethodName := ⟨RX9, "friendsOf", "(I)I"⟩
abbrev cX9_copy : ByteArray := prog_11_method_32_code
def yX9_copy : MethodName := ⟨RX9, "copy", "([II[II)V"⟩
abbrev cX9_tells : ByteArray := prog_11_method_33_code
def yX9_tells : MethodName := ⟨RX9, "tells", "(I)V"⟩
abbrev cX9_pass : ByteArray := prog_11_method_34_code
def yX9_pass : MethodName := ⟨RX9, "pass", "()V"⟩
abbrev cX9_told : ByteArray := prog_11_method_35_code
def yX9_told : MethodName := ⟨RX9, "told", "(I)I"⟩
abbrev cX9_fact : ByteArray := prog_11_method_36_code
def yX9_fact : MethodName := ⟨RX9, "fact", "(II)I"⟩
abbrev cX9_person : ByteArray := prog_11_method_37_code
def yX9_person : MethodName := ⟨RX9, "person", "(II)I"⟩
abbrev cX9_since : ByteArray := prog_11_method_38_code
def yX9_since : MethodName := ⟨RX9, "since", "(II)I"⟩
abbrev cX9_weight : ByteArray := prog_11_method_39_code
def yX9_weight : MethodName := ⟨RX9, "weight", "(I)I"⟩
abbrev cX9_bridge : ByteArray := prog_11_method_40_code
def yX9_bridge : MethodName := ⟨RX9, "bridge", "(I)I"⟩
abbrev cX9_tell : ByteArray := prog_11_method_41_code
def yX9_tell : MethodName := ⟨RX9, "tell", "(II)I"⟩
abbrev cX9_forget : ByteArray := prog_11_method_42_code
def yX9_forget : MethodName := ⟨RX9, "forget", "(II)I"⟩
abbrev cX9_barred : ByteArray := prog_11_method_43_code
def yX9_barred : MethodName := ⟨RX9, "barred", "(I)I"⟩
abbrev cX9_hour : ByteArray := prog_11_method_44_code
def yX9_hour : MethodName := ⟨RX9, "hour", "(I)I"⟩
abbrev cX9_draw : ByteArray := prog_11_method_45_code
def yX9_draw : MethodName := ⟨RX9, "draw", "(I)I"⟩
abbrev cX9_drift : ByteArray := prog_11_method_46_code
def yX9_drift : MethodName := ⟨RX9, "drift", "(I)I"⟩
abbrev cX9_heavy : ByteArray := prog_11_method_47_code
def yX9_heavy : MethodName := ⟨RX9, "heavy", "(II)I"⟩
abbrev cX9_when : ByteArray := prog_11_method_48_code
def yX9_when : MethodName := ⟨RX9, "when", "(II)I"⟩
abbrev cX9_least : ByteArray := prog_11_method_49_code
def yX9_least : MethodName := ⟨RX9, "least", "(III)I"⟩
abbrev cX9_togetherOf : ByteArray := prog_11_method_50_code
def yX9_togetherOf : MethodName := ⟨RX9, "togetherOf", "(I)I"⟩
abbrev cX9_trips : ByteArray := prog_11_method_51_code
def yX9_trips : MethodName := ⟨RX9, "trips", "(III)I"⟩
abbrev cX9_layWays : ByteArray := prog_11_method_52_code
def yX9_layWays : MethodName := ⟨RX9, "layWays", "(III)V"⟩
abbrev cX9_waysTo : ByteArray := prog_11_method_53_code
def yX9_waysTo : MethodName := ⟨RX9, "waysTo", "(I)J"⟩
abbrev cX9_counted : ByteArray := prog_11_method_54_code
def yX9_counted : MethodName := ⟨RX9, "counted", "(IIII)I"⟩
abbrev cX9_lies : ByteArray := prog_11_method_55_code
def yX9_lies : MethodName := ⟨RX9, "lies", "(III)I"⟩
abbrev cX9_canCome : ByteArray := prog_11_method_56_code
def yX9_canCome : MethodName := ⟨RX9, "canCome", "(III)Z"⟩
abbrev cX9_bits : ByteArray := prog_11_method_57_code
def yX9_bits : MethodName := ⟨RX9, "bits", "(I)I"⟩
abbrev cX9_apart : ByteArray := prog_11_method_58_code
def yX9_apart : MethodName := ⟨RX9, "apart", "(III)I"⟩
abbrev cX9_forgotten : ByteArray := prog_11_method_59_code
def yX9_forgotten : MethodName := ⟨RX9, "forgotten", "(III)I"⟩
abbrev cX9_treaty : ByteArray := prog_11_method_60_code
def yX9_treaty : MethodName := ⟨RX9, "treaty", "(III)I"⟩
abbrev cX9_odds : ByteArray := prog_11_method_61_code
def yX9_odds : MethodName := ⟨RX9, "odds", "(III)I"⟩
abbrev cX9_write : ByteArray := prog_11_method_62_code
def yX9_write : MethodName := ⟨RX9, "write", "(II)I"⟩
abbrev cX9_tear : ByteArray := prog_11_method_63_code
def yX9_tear : MethodName := ⟨RX9, "tear", "()I"⟩
abbrev cX9_judge : ByteArray := prog_11_method_64_code
def yX9_judge : MethodName := ⟨RX9, "judge", "()I"⟩
abbrev cX9_seed : ByteArray := prog_11_method_65_code
def yX9_seed : MethodName := ⟨RX9, "seed", "(I)I"⟩
abbrev cX9_keep : ByteArray := prog_11_method_66_code
def yX9_keep : MethodName := ⟨RX9, "keep", "(I)I"⟩
abbrev cX9_goBack : ByteArray := prog_11_method_67_code
def yX9_goBack : MethodName := ⟨RX9, "goBack", "(I)I"⟩
def RJ6 : String := "java/lang/Integer"
def TJ6 : u_T := fun k => match k with
  | _ => ("", "", "", false)
def tyJ6 : Nat → FieldType := fun k => match k with
  | _ => .int
abbrev wsJ60 : List Cond := u_ws RJ6 TJ6 0
theorem nmJ6 : ∀ a, a < 0 → ∀ b, b < 0 → a ≠ b → (TJ6 a).2.1 ≠ (TJ6 b).2.1 := by decide +kernel
theorem tyJ6_ok : ∀ k, k < 0 → parseFieldDescriptor (TJ6 k).2.2.1 = some (tyJ6 k) := by decide +kernel
abbrev cJ6_bitCount_0f7a4 : ByteArray := prog_12_method_49_code
def yJ6_bitCount_0f7a4 : MethodName := ⟨RJ6, "bitCount", "(I)I"⟩
def RJ9 : String := "java/lang/Math"
def TJ9 : u_T := fun k => match k with
  | _ => ("", "", "", false)
def tyJ9 : Nat → FieldType := fun k => match k with
  | _ => .int
abbrev wsJ90 : List Cond := u_ws RJ9 TJ9 0
theorem nmJ9 : ∀ a, a < 0 → ∀ b, b < 0 → a ≠ b → (TJ9 a).2.1 ≠ (TJ9 b).2.1 := by decide +kernel
theorem tyJ9_ok : ∀ k, k < 0 → parseFieldDescriptor (TJ9 k).2.2.1 = some (tyJ9 k) := by decide +kernel
abbrev cJ9_max_7cf53 : ByteArray := prog_13_method_65_code
def yJ9_max_7cf53 : MethodName := ⟨RJ9, "max", "(II)I"⟩
abbrev cJ9_min_7cf53 : ByteArray := prog_13_method_69_code
def yJ9_min_7cf53 : MethodName := ⟨RJ9, "min", "(II)I"⟩
def RJ10 : String := "java/lang/System"
def TJ10 : u_T := fun k => match k with
  | _ => ("", "", "", false)
def tyJ10 : Nat → FieldType := fun k => match k with
  | _ => .int
abbrev wsJ100 : List Cond := u_ws RJ10 TJ10 0
theorem nmJ10 : ∀ a, a < 0 → ∀ b, b < 0 → a ≠ b → (TJ10 a).2.1 ≠ (TJ10 b).2.1 := by decide +kernel
theorem tyJ10_ok : ∀ k, k < 0 → parseFieldDescriptor (TJ10 k).2.2.1 = some (tyJ10 k) := by decide +kernel
def RJ7 : String := "java/util/Arrays"
def TJ7 : u_T := fun k => match k with
  | _ => ("", "", "", false)
def tyJ7 : Nat → FieldType := fun k => match k with
  | _ => .int
abbrev wsJ70 : List Cond := u_ws RJ7 TJ7 0
theorem nmJ7 : ∀ a, a < 0 → ∀ b, b < 0 → a ≠ b → (TJ7 a).2.1 ≠ (TJ7 b).2.1 := by decide +kernel
theorem tyJ7_ok : ∀ k, k < 0 → parseFieldDescriptor (TJ7 k).2.2.1 = some (tyJ7 k) := by decide +kernel
abbrev cJ7_fill_53178 : ByteArray := prog_15_method_103_code
def yJ7_fill_53178 : MethodName := ⟨RJ7, "fill", "([II)V"⟩
def RL : String := "KnownWeightLaw"
abbrev cL_law : ByteArray := code
def yL_law : MethodName := ⟨RL, "law", "([I)Z"⟩
abbrev vwCl : List vw_C := [(RX0, TX0, 4), (RX1, TX1, 3), (RX2, TX2, 5), (RX3, TX3, 16), (RX4, TX4, 6), (RX5, TX5, 2), (RX6, TX6, 3), (RX7, TX7, 3), (RX8, TX8, 12), (RX9, TX9, 38)]
end
section
theorem dX0_init_0 : decode cX0_init 0 = .ok (.aload_n 0, 1) := by decide +kernel
theorem dX0_init_1 : decode cX0_init 1 = .ok (.invokespecial 3, 3) := by decide +kernel
theorem dX0_init_4 : decode cX0_init 4 = .ok (.aload_n 0, 1) := by decide +kernel
theorem dX0_init_5 : decode cX0_init 5 = .ok (.sipush 433, 3) := by decide +kernel
theorem dX0_init_8 : decode cX0_init 8 = .ok (.newarray .int, 2) := by decide +kernel
theorem dX0_init_10 : decode cX0_init 10 = .ok (.putfield 9, 3) := by decide +kernel
theorem dX0_init_13 : decode cX0_init 13 = .ok (.return_, 1) := by decide +kernel
theorem dX0_spread_0 : decode cX0_spread 0 = .ok (.aload_n 1, 1) := by decide +kernel
theorem dX0_spread_1 : decode cX0_spread 1 = .ok (.getfield 15, 3) := by decide +kernel
theorem dX0_spread_4 : decode cX0_spread 4 = .ok (.iload_n 3, 1) := by decide +kernel
theorem dX0_spread_5 : decode cX0_spread 5 = .ok (.iaload, 1) := by decide +kernel
theorem dX0_spread_6 : decode cX0_spread 6 = .ok (.istore 5, 2) := by decide +kernel
theorem dX0_spread_8 : decode cX0_spread 8 = .ok (.aload_n 0, 1) := by decide +kernel
theorem dX0_spread_9 : decode cX0_spread 9 = .ok (.aload_n 2, 1) := by decide +kernel
theorem dX0_spread_10 : decode cX0_spread 10 = .ok (.aload_n 1, 1) := by decide +kernel
theorem dX0_spread_11 : decode cX0_spread 11 = .ok (.iload 5, 2) := by decide +kernel
theorem dX0_spread_13 : decode cX0_spread 13 = .ok (.aload_n 1, 1) := by decide +kernel
theorem dX0_spread_14 : decode cX0_spread 14 = .ok (.getfield 20, 3) := by decide +kernel
theorem dX0_spread_17 : decode cX0_spread 17 = .ok (.iand, 1) := by decide +kernel
theorem dX0_spread_18 : decode cX0_spread 18 = .ok (.invokevirtual 24, 3) := by decide +kernel
theorem dX0_spread_21 : decode cX0_spread 21 = .ok (.ineg, 1) := by decide +kernel
theorem dX0_spread_22 : decode cX0_spread 22 = .ok (.putfield 30, 3) := by decide +kernel
theorem dX0_spread_25 : decode cX0_spread 25 = .ok (.aload_n 0, 1) := by decide +kernel
theorem dX0_spread_26 : decode cX0_spread 26 = .ok (.aload_n 2, 1) := by decide +kernel
theorem dX0_spread_27 : decode cX0_spread 27 = .ok (.aload_n 1, 1) := by decide +kernel
theorem dX0_spread_28 : decode cX0_spread 28 = .ok (.iload 5, 2) := by decide +kernel
theorem dX0_spread_30 : decode cX0_spread 30 = .ok (.aload_n 1, 1) := by decide +kernel
theorem dX0_spread_31 : decode cX0_spread 31 = .ok (.getfield 20, 3) := by decide +kernel
theorem dX0_spread_34 : decode cX0_spread 34 = .ok (.iconst (-1), 1) := by decide +kernel
theorem dX0_spread_35 : decode cX0_spread 35 = .ok (.ixor, 1) := by decide +kernel
theorem dX0_spread_36 : decode cX0_spread 36 = .ok (.iand, 1) := by decide +kernel
theorem dX0_spread_37 : decode cX0_spread 37 = .ok (.invokevirtual 24, 3) := by decide +kernel
theorem dX0_spread_40 : decode cX0_spread 40 = .ok (.putfield 33, 3) := by decide +kernel
theorem dX0_spread_43 : decode cX0_spread 43 = .ok (.aload_n 0, 1) := by decide +kernel
theorem dX0_spread_44 : decode cX0_spread 44 = .ok (.aload_n 0, 1) := by decide +kernel
theorem dX0_spread_45 : decode cX0_spread 45 = .ok (.getfield 33, 3) := by decide +kernel
theorem dX0_spread_48 : decode cX0_spread 48 = .ok (.putfield 36, 3) := by decide +kernel
theorem dX0_spread_51 : decode cX0_spread 51 = .ok (.aload_n 0, 1) := by decide +kernel
theorem dX0_spread_52 : decode cX0_spread 52 = .ok (.getfield 9, 3) := by decide +kernel
theorem dX0_spread_55 : decode cX0_spread 55 = .ok (.iconst 0, 1) := by decide +kernel
theorem dX0_spread_56 : decode cX0_spread 56 = .ok (.invokestatic 39, 3) := by decide +kernel
theorem dX0_spread_59 : decode cX0_spread 59 = .ok (.aload_n 0, 1) := by decide +kernel
theorem dX0_spread_60 : decode cX0_spread 60 = .ok (.getfield 9, 3) := by decide +kernel
theorem dX0_spread_63 : decode cX0_spread 63 = .ok (.aload_n 0, 1) := by decide +kernel
theorem dX0_spread_64 : decode cX0_spread 64 = .ok (.getfield 33, 3) := by decide +kernel
theorem dX0_spread_67 : decode cX0_spread 67 = .ok (.ldc 45, 2) := by decide +kernel
theorem dX0_spread_69 : decode cX0_spread 69 = .ok (.iastore, 1) := by decide +kernel
theorem dX0_spread_70 : decode cX0_spread 70 = .ok (.iconst 0, 1) := by decide +kernel
theorem dX0_spread_71 : decode cX0_spread 71 = .ok (.istore 6, 2) := by decide +kernel
theorem dX0_spread_73 : decode cX0_spread 73 = .ok (.iload 6, 2) := by decide +kernel
theorem dX0_spread_75 : decode cX0_spread 75 = .ok (.aload_n 1, 1) := by decide +kernel
theorem dX0_spread_76 : decode cX0_spread 76 = .ok (.getfield 46, 3) := by decide +kernel
theorem dX0_spread_79 : decode cX0_spread 79 = .ok (.if_icmp .ge 62, 3) := by decide +kernel
theorem dX0_spread_82 : decode cX0_spread 82 = .ok (.aload_n 1, 1) := by decide +kernel
theorem dX0_spread_83 : decode cX0_spread 83 = .ok (.getfield 49, 3) := by decide +kernel
theorem dX0_spread_86 : decode cX0_spread 86 = .ok (.iload 6, 2) := by decide +kernel
theorem dX0_spread_88 : decode cX0_spread 88 = .ok (.iaload, 1) := by decide +kernel
theorem dX0_spread_89 : decode cX0_spread 89 = .ok (.iload_n 3, 1) := by decide +kernel
theorem dX0_spread_90 : decode cX0_spread 90 = .ok (.if_icmp .ne 13, 3) := by decide +kernel
theorem dX0_spread_93 : decode cX0_spread 93 = .ok (.aload_n 2, 1) := by decide +kernel
theorem dX0_spread_94 : decode cX0_spread 94 = .ok (.aload_n 1, 1) := by decide +kernel
theorem dX0_spread_95 : decode cX0_spread 95 = .ok (.iload 6, 2) := by decide +kernel
theorem dX0_spread_97 : decode cX0_spread 97 = .ok (.invokevirtual 52, 3) := by decide +kernel
theorem dX0_spread_100 : decode cX0_spread 100 = .ok (.goto 4, 3) := by decide +kernel
theorem dX0_spread_103 : decode cX0_spread 103 = .ok (.iconst 0, 1) := by decide +kernel
theorem dX0_spread_104 : decode cX0_spread 104 = .ok (.istore 7, 2) := by decide +kernel
theorem dX0_spread_106 : decode cX0_spread 106 = .ok (.iconst 0, 1) := by decide +kernel
theorem dX0_spread_107 : decode cX0_spread 107 = .ok (.istore 8, 2) := by decide +kernel
theorem dX0_spread_109 : decode cX0_spread 109 = .ok (.iload 8, 2) := by decide +kernel
theorem dX0_spread_111 : decode cX0_spread 111 = .ok (.iload 7, 2) := by decide +kernel
theorem dX0_spread_113 : decode cX0_spread 113 = .ok (.if_icmp .ge 22, 3) := by decide +kernel
theorem dX0_spread_116 : decode cX0_spread 116 = .ok (.aload_n 0, 1) := by decide +kernel
theorem dX0_spread_117 : decode cX0_spread 117 = .ok (.aload_n 1, 1) := by decide +kernel
theorem dX0_spread_118 : decode cX0_spread 118 = .ok (.iload 6, 2) := by decide +kernel
theorem dX0_spread_120 : decode cX0_spread 120 = .ok (.invokevirtual 55, 3) := by decide +kernel
theorem dX0_spread_123 : decode cX0_spread 123 = .ok (.ineg, 1) := by decide +kernel
theorem dX0_spread_124 : decode cX0_spread 124 = .ok (.iload 4, 2) := by decide +kernel
theorem dX0_spread_126 : decode cX0_spread 126 = .ok (.invokevirtual 59, 3) := by decide +kernel
theorem dX0_spread_129 : decode cX0_spread 129 = .ok (.iinc 8 1, 3) := by decide +kernel
theorem dX0_spread_132 : decode cX0_spread 132 = .ok (.goto (-23), 3) := by decide +kernel
theorem dX0_spread_135 : decode cX0_spread 135 = .ok (.iinc 6 1, 3) := by decide +kernel
theorem dX0_spread_138 : decode cX0_spread 138 = .ok (.goto (-65), 3) := by decide +kernel
theorem dX0_spread_141 : decode cX0_spread 141 = .ok (.return_, 1) := by decide +kernel
theorem dX0_headForgets_0 : decode cX0_headForgets 0 = .ok (.iload_n 1, 1) := by decide +kernel
theorem dX0_headForgets_1 : decode cX0_headForgets 1 = .ok (.ifCond .ge 48, 3) := by decide +kernel
theorem dX0_headForgets_4 : decode cX0_headForgets 4 = .ok (.aload_n 0, 1) := by decide +kernel
theorem dX0_headForgets_5 : decode cX0_headForgets 5 = .ok (.getfield 33, 3) := by decide +kernel
theorem dX0_headForgets_8 : decode cX0_headForgets 8 = .ok (.istore_n 3, 1) := by decide +kernel
theorem dX0_headForgets_9 : decode cX0_headForgets 9 = .ok (.iload_n 3, 1) := by decide +kernel
theorem dX0_headForgets_10 : decode cX0_headForgets 10 = .ok (.aload_n 0, 1) := by decide +kernel
theorem dX0_headForgets_11 : decode cX0_headForgets 11 = .ok (.getfield 36, 3) := by decide +kernel
theorem dX0_headForgets_14 : decode cX0_headForgets 14 = .ok (.if_icmp .gt 18, 3) := by decide +kernel
theorem dX0_headForgets_17 : decode cX0_headForgets 17 = .ok (.aload_n 0, 1) := by decide +kernel
theorem dX0_headForgets_18 : decode cX0_headForgets 18 = .ok (.iload_n 3, 1) := by decide +kernel
theorem dX0_headForgets_19 : decode cX0_headForgets 19 = .ok (.iload_n 3, 1) := by decide +kernel
theorem dX0_headForgets_20 : decode cX0_headForgets 20 = .ok (.iload_n 1, 1) := by decide +kernel
theorem dX0_headForgets_21 : decode cX0_headForgets 21 = .ok (.iadd, 1) := by decide +kernel
theorem dX0_headForgets_22 : decode cX0_headForgets 22 = .ok (.iload_n 2, 1) := by decide +kernel
theorem dX0_headForgets_23 : decode cX0_headForgets 23 = .ok (.invokevirtual 63, 3) := by decide +kernel
theorem dX0_headForgets_26 : decode cX0_headForgets 26 = .ok (.iinc 3 1, 3) := by decide +kernel
theorem dX0_headForgets_29 : decode cX0_headForgets 29 = .ok (.goto (-20), 3) := by decide +kernel
theorem dX0_headForgets_32 : decode cX0_headForgets 32 = .ok (.aload_n 0, 1) := by decide +kernel
theorem dX0_headForgets_33 : decode cX0_headForgets 33 = .ok (.iconst 0, 1) := by decide +kernel
theorem dX0_headForgets_34 : decode cX0_headForgets 34 = .ok (.aload_n 0, 1) := by decide +kernel
theorem dX0_headForgets_35 : decode cX0_headForgets 35 = .ok (.getfield 33, 3) := by decide +kernel
theorem dX0_headForgets_38 : decode cX0_headForgets 38 = .ok (.iload_n 1, 1) := by decide +kernel
theorem dX0_headForgets_39 : decode cX0_headForgets 39 = .ok (.iadd, 1) := by decide +kernel
theorem dX0_headForgets_40 : decode cX0_headForgets 40 = .ok (.invokestatic 67, 3) := by decide +kernel
theorem dX0_headForgets_43 : decode cX0_headForgets 43 = .ok (.putfield 33, 3) := by decide +kernel
theorem dX0_headForgets_46 : decode cX0_headForgets 46 = .ok (.goto 47, 3) := by decide +kernel
theorem dX0_headForgets_49 : decode cX0_headForgets 49 = .ok (.aload_n 0, 1) := by decide +kernel
theorem dX0_headForgets_50 : decode cX0_headForgets 50 = .ok (.getfield 36, 3) := by decide +kernel
theorem dX0_headForgets_53 : decode cX0_headForgets 53 = .ok (.istore_n 3, 1) := by decide +kernel
theorem dX0_headForgets_54 : decode cX0_headForgets 54 = .ok (.iload_n 3, 1) := by decide +kernel
theorem dX0_headForgets_55 : decode cX0_headForgets 55 = .ok (.aload_n 0, 1) := by decide +kernel
theorem dX0_headForgets_56 : decode cX0_headForgets 56 = .ok (.getfield 33, 3) := by decide +kernel
theorem dX0_headForgets_59 : decode cX0_headForgets 59 = .ok (.if_icmp .lt 18, 3) := by decide +kernel
theorem dX0_headForgets_62 : decode cX0_headForgets 62 = .ok (.aload_n 0, 1) := by decide +kernel
theorem dX0_headForgets_63 : decode cX0_headForgets 63 = .ok (.iload_n 3, 1) := by decide +kernel
theorem dX0_headForgets_64 : decode cX0_headForgets 64 = .ok (.iload_n 3, 1) := by decide +kernel
theorem dX0_headForgets_65 : decode cX0_headForgets 65 = .ok (.iload_n 1, 1) := by decide +kernel
theorem dX0_headForgets_66 : decode cX0_headForgets 66 = .ok (.iadd, 1) := by decide +kernel
theorem dX0_headForgets_67 : decode cX0_headForgets 67 = .ok (.iload_n 2, 1) := by decide +kernel
theorem dX0_headForgets_68 : decode cX0_headForgets 68 = .ok (.invokevirtual 63, 3) := by decide +kernel
theorem dX0_headForgets_71 : decode cX0_headForgets 71 = .ok (.iinc 3 (-1), 3) := by decide +kernel
theorem dX0_headForgets_74 : decode cX0_headForgets 74 = .ok (.goto (-20), 3) := by decide +kernel
theorem dX0_headForgets_77 : decode cX0_headForgets 77 = .ok (.aload_n 0, 1) := by decide +kernel
theorem dX0_headForgets_78 : decode cX0_headForgets 78 = .ok (.sipush 432, 3) := by decide +kernel
theorem dX0_headForgets_81 : decode cX0_headForgets 81 = .ok (.aload_n 0, 1) := by decide +kernel
theorem dX0_headForgets_82 : decode cX0_headForgets 82 = .ok (.getfield 36, 3) := by decide +kernel
theorem dX0_headForgets_85 : decode cX0_headForgets 85 = .ok (.iload_n 1, 1) := by decide +kernel
theorem dX0_headForgets_86 : decode cX0_headForgets 86 = .ok (.iadd, 1) := by decide +kernel
theorem dX0_headForgets_87 : decode cX0_headForgets 87 = .ok (.invokestatic 73, 3) := by decide +kernel
theorem dX0_headForgets_90 : decode cX0_headForgets 90 = .ok (.putfield 36, 3) := by decide +kernel
theorem dX0_headForgets_93 : decode cX0_headForgets 93 = .ok (.return_, 1) := by decide +kernel
theorem dX0_move_0 : decode cX0_move 0 = .ok (.aload_n 0, 1) := by decide +kernel
theorem dX0_move_1 : decode cX0_move 1 = .ok (.getfield 9, 3) := by decide +kernel
theorem dX0_move_4 : decode cX0_move 4 = .ok (.iload_n 1, 1) := by decide +kernel
theorem dX0_move_5 : decode cX0_move 5 = .ok (.iaload, 1) := by decide +kernel
theorem dX0_move_6 : decode cX0_move 6 = .ok (.ifCond .eq 53, 3) := by decide +kernel
theorem dX0_move_9 : decode cX0_move 9 = .ok (.iload_n 2, 1) := by decide +kernel
theorem dX0_move_10 : decode cX0_move 10 = .ok (.ifCond .lt 49, 3) := by decide +kernel
theorem dX0_move_13 : decode cX0_move 13 = .ok (.iload_n 2, 1) := by decide +kernel
theorem dX0_move_14 : decode cX0_move 14 = .ok (.sipush 432, 3) := by decide +kernel
theorem dX0_move_17 : decode cX0_move 17 = .ok (.if_icmp .gt 42, 3) := by decide +kernel
theorem dX0_move_20 : decode cX0_move 20 = .ok (.aload_n 0, 1) := by decide +kernel
theorem dX0_move_21 : decode cX0_move 21 = .ok (.getfield 9, 3) := by decide +kernel
theorem dX0_move_24 : decode cX0_move 24 = .ok (.iload_n 1, 1) := by decide +kernel
theorem dX0_move_25 : decode cX0_move 25 = .ok (.iaload, 1) := by decide +kernel
theorem dX0_move_26 : decode cX0_move 26 = .ok (.i2l, 1) := by decide +kernel
theorem dX0_move_27 : decode cX0_move 27 = .ok (.iload_n 3, 1) := by decide +kernel
theorem dX0_move_28 : decode cX0_move 28 = .ok (.i2l, 1) := by decide +kernel
theorem dX0_move_29 : decode cX0_move 29 = .ok (.lmul, 1) := by decide +kernel
theorem dX0_move_30 : decode cX0_move 30 = .ok (.ldc2_w 76, 3) := by decide +kernel
theorem dX0_move_33 : decode cX0_move 33 = .ok (.ldiv, 1) := by decide +kernel
theorem dX0_move_34 : decode cX0_move 34 = .ok (.l2i, 1) := by decide +kernel
theorem dX0_move_35 : decode cX0_move 35 = .ok (.istore 4, 2) := by decide +kernel
theorem dX0_move_37 : decode cX0_move 37 = .ok (.aload_n 0, 1) := by decide +kernel
theorem dX0_move_38 : decode cX0_move 38 = .ok (.getfield 9, 3) := by decide +kernel
theorem dX0_move_41 : decode cX0_move 41 = .ok (.iload_n 1, 1) := by decide +kernel
theorem dX0_move_42 : decode cX0_move 42 = .ok (.dup2, 1) := by decide +kernel
theorem dX0_move_43 : decode cX0_move 43 = .ok (.iaload, 1) := by decide +kernel
theorem dX0_move_44 : decode cX0_move 44 = .ok (.iload 4, 2) := by decide +kernel
theorem dX0_move_46 : decode cX0_move 46 = .ok (.isub, 1) := by decide +kernel
theorem dX0_move_47 : decode cX0_move 47 = .ok (.iastore, 1) := by decide +kernel
theorem dX0_move_48 : decode cX0_move 48 = .ok (.aload_n 0, 1) := by decide +kernel
theorem dX0_move_49 : decode cX0_move 49 = .ok (.getfield 9, 3) := by decide +kernel
theorem dX0_move_52 : decode cX0_move 52 = .ok (.iload_n 2, 1) := by decide +kernel
theorem dX0_move_53 : decode cX0_move 53 = .ok (.dup2, 1) := by decide +kernel
theorem dX0_move_54 : decode cX0_move 54 = .ok (.iaload, 1) := by decide +kernel
theorem dX0_move_55 : decode cX0_move 55 = .ok (.iload 4, 2) := by decide +kernel
theorem dX0_move_57 : decode cX0_move 57 = .ok (.iadd, 1) := by decide +kernel
theorem dX0_move_58 : decode cX0_move 58 = .ok (.iastore, 1) := by decide +kernel
theorem dX0_move_59 : decode cX0_move 59 = .ok (.return_, 1) := by decide +kernel
theorem dX0_upTo_0 : decode cX0_upTo 0 = .ok (.iconst 0, 1) := by decide +kernel
theorem dX0_upTo_1 : decode cX0_upTo 1 = .ok (.istore_n 2, 1) := by decide +kernel
theorem dX0_upTo_2 : decode cX0_upTo 2 = .ok (.aload_n 0, 1) := by decide +kernel
theorem dX0_upTo_3 : decode cX0_upTo 3 = .ok (.getfield 33, 3) := by decide +kernel
theorem dX0_upTo_6 : decode cX0_upTo 6 = .ok (.istore_n 3, 1) := by decide +kernel
theorem dX0_upTo_7 : decode cX0_upTo 7 = .ok (.iload_n 3, 1) := by decide +kernel
theorem dX0_upTo_8 : decode cX0_upTo 8 = .ok (.aload_n 0, 1) := by decide +kernel
theorem dX0_upTo_9 : decode cX0_upTo 9 = .ok (.getfield 36, 3) := by decide +kernel
theorem dX0_upTo_12 : decode cX0_upTo 12 = .ok (.if_icmp .gt 28, 3) := by decide +kernel
theorem dX0_upTo_15 : decode cX0_upTo 15 = .ok (.aload_n 0, 1) := by decide +kernel
theorem dX0_upTo_16 : decode cX0_upTo 16 = .ok (.getfield 30, 3) := by decide +kernel
theorem dX0_upTo_19 : decode cX0_upTo 19 = .ok (.iload_n 3, 1) := by decide +kernel
theorem dX0_upTo_20 : decode cX0_upTo 20 = .ok (.iadd, 1) := by decide +kernel
theorem dX0_upTo_21 : decode cX0_upTo 21 = .ok (.iload_n 1, 1) := by decide +kernel
theorem dX0_upTo_22 : decode cX0_upTo 22 = .ok (.if_icmp .gt 18, 3) := by decide +kernel
theorem dX0_upTo_25 : decode cX0_upTo 25 = .ok (.iload_n 2, 1) := by decide +kernel
theorem dX0_upTo_26 : decode cX0_upTo 26 = .ok (.aload_n 0, 1) := by decide +kernel
theorem dX0_upTo_27 : decode cX0_upTo 27 = .ok (.getfield 9, 3) := by decide +kernel
theorem dX0_upTo_30 : decode cX0_upTo 30 = .ok (.iload_n 3, 1) := by decide +kernel
theorem dX0_upTo_31 : decode cX0_upTo 31 = .ok (.iaload, 1) := by decide +kernel
theorem dX0_upTo_32 : decode cX0_upTo 32 = .ok (.iadd, 1) := by decide +kernel
theorem dX0_upTo_33 : decode cX0_upTo 33 = .ok (.istore_n 2, 1) := by decide +kernel
theorem dX0_upTo_34 : decode cX0_upTo 34 = .ok (.iinc 3 1, 3) := by decide +kernel
theorem dX0_upTo_37 : decode cX0_upTo 37 = .ok (.goto (-30), 3) := by decide +kernel
theorem dX0_upTo_40 : decode cX0_upTo 40 = .ok (.iload_n 2, 1) := by decide +kernel
theorem dX0_upTo_41 : decode cX0_upTo 41 = .ok (.ireturn, 1) := by decide +kernel
theorem dX1_init_0 : decode cX1_init 0 = .ok (.aload_n 0, 1) := by decide +kernel
theorem dX1_init_1 : decode cX1_init 1 = .ok (.invokespecial 3, 3) := by decide +kernel
theorem dX1_init_4 : decode cX1_init 4 = .ok (.aload_n 0, 1) := by decide +kernel
theorem dX1_init_5 : decode cX1_init 5 = .ok (.sipush 128, 3) := by decide +kernel
theorem dX1_init_8 : decode cX1_init 8 = .ok (.newarray .int, 2) := by decide +kernel
theorem dX1_init_10 : decode cX1_init 10 = .ok (.putfield 9, 3) := by decide +kernel
theorem dX1_init_13 : decode cX1_init 13 = .ok (.aload_n 0, 1) := by decide +kernel
theorem dX1_init_14 : decode cX1_init 14 = .ok (.sipush 128, 3) := by decide +kernel
theorem dX1_init_17 : decode cX1_init 17 = .ok (.newarray .int, 2) := by decide +kernel
theorem dX1_init_19 : decode cX1_init 19 = .ok (.putfield 15, 3) := by decide +kernel
theorem dX1_init_22 : decode cX1_init 22 = .ok (.return_, 1) := by decide +kernel
theorem dX1_plan_0 : decode cX1_plan 0 = .ok (.aload_n 0, 1) := by decide +kernel
theorem dX1_plan_1 : decode cX1_plan 1 = .ok (.iload 4, 2) := by decide +kernel
theorem dX1_plan_3 : decode cX1_plan 3 = .ok (.putfield 18, 3) := by decide +kernel
theorem dX1_plan_6 : decode cX1_plan 6 = .ok (.iconst 0, 1) := by decide +kernel
theorem dX1_plan_7 : decode cX1_plan 7 = .ok (.istore 5, 2) := by decide +kernel
theorem dX1_plan_9 : decode cX1_plan 9 = .ok (.iload 5, 2) := by decide +kernel
theorem dX1_plan_11 : decode cX1_plan 11 = .ok (.aload_n 1, 1) := by decide +kernel
theorem dX1_plan_12 : decode cX1_plan 12 = .ok (.getfield 22, 3) := by decide +kernel
theorem dX1_plan_15 : decode cX1_plan 15 = .ok (.if_icmp .ge 25, 3) := by decide +kernel
theorem dX1_plan_18 : decode cX1_plan 18 = .ok (.aload_n 0, 1) := by decide +kernel
theorem dX1_plan_19 : decode cX1_plan 19 = .ok (.getfield 15, 3) := by decide +kernel
theorem dX1_plan_22 : decode cX1_plan 22 = .ok (.iconst 1, 1) := by decide +kernel
theorem dX1_plan_23 : decode cX1_plan 23 = .ok (.iload 5, 2) := by decide +kernel
theorem dX1_plan_25 : decode cX1_plan 25 = .ok (.ishl, 1) := by decide +kernel
theorem dX1_plan_26 : decode cX1_plan 26 = .ok (.aload_n 2, 1) := by decide +kernel
theorem dX1_plan_27 : decode cX1_plan 27 = .ok (.aload_n 1, 1) := by decide +kernel
theorem dX1_plan_28 : decode cX1_plan 28 = .ok (.iload 5, 2) := by decide +kernel
theorem dX1_plan_30 : decode cX1_plan 30 = .ok (.invokevirtual 27, 3) := by decide +kernel
theorem dX1_plan_33 : decode cX1_plan 33 = .ok (.iastore, 1) := by decide +kernel
theorem dX1_plan_34 : decode cX1_plan 34 = .ok (.iinc 5 1, 3) := by decide +kernel
theorem dX1_plan_37 : decode cX1_plan 37 = .ok (.goto (-28), 3) := by decide +kernel
theorem dX1_plan_40 : decode cX1_plan 40 = .ok (.aload_n 0, 1) := by decide +kernel
theorem dX1_plan_41 : decode cX1_plan 41 = .ok (.getfield 15, 3) := by decide +kernel
theorem dX1_plan_44 : decode cX1_plan 44 = .ok (.iconst 0, 1) := by decide +kernel
theorem dX1_plan_45 : decode cX1_plan 45 = .ok (.iconst 0, 1) := by decide +kernel
theorem dX1_plan_46 : decode cX1_plan 46 = .ok (.iastore, 1) := by decide +kernel
theorem dX1_plan_47 : decode cX1_plan 47 = .ok (.aload_n 0, 1) := by decide +kernel
theorem dX1_plan_48 : decode cX1_plan 48 = .ok (.getfield 9, 3) := by decide +kernel
theorem dX1_plan_51 : decode cX1_plan 51 = .ok (.iconst 0, 1) := by decide +kernel
theorem dX1_plan_52 : decode cX1_plan 52 = .ok (.iconst 0, 1) := by decide +kernel
theorem dX1_plan_53 : decode cX1_plan 53 = .ok (.iastore, 1) := by decide +kernel
theorem dX1_plan_54 : decode cX1_plan 54 = .ok (.iconst 1, 1) := by decide +kernel
theorem dX1_plan_55 : decode cX1_plan 55 = .ok (.istore 5, 2) := by decide +kernel
theorem dX1_plan_57 : decode cX1_plan 57 = .ok (.iload 5, 2) := by decide +kernel
theorem dX1_plan_59 : decode cX1_plan 59 = .ok (.iload_n 3, 1) := by decide +kernel
theorem dX1_plan_60 : decode cX1_plan 60 = .ok (.if_icmp .gt 62, 3) := by decide +kernel
theorem dX1_plan_63 : decode cX1_plan 63 = .ok (.iload 5, 2) := by decide +kernel
theorem dX1_plan_65 : decode cX1_plan 65 = .ok (.iload_n 3, 1) := by decide +kernel
theorem dX1_plan_66 : decode cX1_plan 66 = .ok (.iconst (-1), 1) := by decide +kernel
theorem dX1_plan_67 : decode cX1_plan 67 = .ok (.ixor, 1) := by decide +kernel
theorem dX1_plan_68 : decode cX1_plan 68 = .ok (.iand, 1) := by decide +kernel
theorem dX1_plan_69 : decode cX1_plan 69 = .ok (.ifCond .ne 47, 3) := by decide +kernel
theorem dX1_plan_72 : decode cX1_plan 72 = .ok (.aload_n 0, 1) := by decide +kernel
theorem dX1_plan_73 : decode cX1_plan 73 = .ok (.getfield 15, 3) := by decide +kernel
theorem dX1_plan_76 : decode cX1_plan 76 = .ok (.iload 5, 2) := by decide +kernel
theorem dX1_plan_78 : decode cX1_plan 78 = .ok (.aload_n 0, 1) := by decide +kernel
theorem dX1_plan_79 : decode cX1_plan 79 = .ok (.getfield 15, 3) := by decide +kernel
theorem dX1_plan_82 : decode cX1_plan 82 = .ok (.iload 5, 2) := by decide +kernel
theorem dX1_plan_84 : decode cX1_plan 84 = .ok (.iload 5, 2) := by decide +kernel
theorem dX1_plan_86 : decode cX1_plan 86 = .ok (.iconst 1, 1) := by decide +kernel
theorem dX1_plan_87 : decode cX1_plan 87 = .ok (.isub, 1) := by decide +kernel
theorem dX1_plan_88 : decode cX1_plan 88 = .ok (.iand, 1) := by decide +kernel
theorem dX1_plan_89 : decode cX1_plan 89 = .ok (.iaload, 1) := by decide +kernel
theorem dX1_plan_90 : decode cX1_plan 90 = .ok (.aload_n 0, 1) := by decide +kernel
theorem dX1_plan_91 : decode cX1_plan 91 = .ok (.getfield 15, 3) := by decide +kernel
theorem dX1_plan_94 : decode cX1_plan 94 = .ok (.iload 5, 2) := by decide +kernel
theorem dX1_plan_96 : decode cX1_plan 96 = .ok (.iload 5, 2) := by decide +kernel
theorem dX1_plan_98 : decode cX1_plan 98 = .ok (.ineg, 1) := by decide +kernel
theorem dX1_plan_99 : decode cX1_plan 99 = .ok (.iand, 1) := by decide +kernel
theorem dX1_plan_100 : decode cX1_plan 100 = .ok (.iaload, 1) := by decide +kernel
theorem dX1_plan_101 : decode cX1_plan 101 = .ok (.iadd, 1) := by decide +kernel
theorem dX1_plan_102 : decode cX1_plan 102 = .ok (.iastore, 1) := by decide +kernel
theorem dX1_plan_103 : decode cX1_plan 103 = .ok (.aload_n 0, 1) := by decide +kernel
theorem dX1_plan_104 : decode cX1_plan 104 = .ok (.getfield 9, 3) := by decide +kernel
theorem dX1_plan_107 : decode cX1_plan 107 = .ok (.iload 5, 2) := by decide +kernel
theorem dX1_plan_109 : decode cX1_plan 109 = .ok (.aload_n 0, 1) := by decide +kernel
theorem dX1_plan_110 : decode cX1_plan 110 = .ok (.iload 5, 2) := by decide +kernel
theorem dX1_plan_112 : decode cX1_plan 112 = .ok (.invokevirtual 33, 3) := by decide +kernel
theorem dX1_plan_115 : decode cX1_plan 115 = .ok (.iastore, 1) := by decide +kernel
theorem dX1_plan_116 : decode cX1_plan 116 = .ok (.iinc 5 1, 3) := by decide +kernel
theorem dX1_plan_119 : decode cX1_plan 119 = .ok (.goto (-62), 3) := by decide +kernel
theorem dX1_plan_122 : decode cX1_plan 122 = .ok (.return_, 1) := by decide +kernel
theorem dX1_fewestOf_0 : decode cX1_fewestOf 0 = .ok (.iconst (-1), 1) := by decide +kernel
theorem dX1_fewestOf_1 : decode cX1_fewestOf 1 = .ok (.istore_n 2, 1) := by decide +kernel
theorem dX1_fewestOf_2 : decode cX1_fewestOf 2 = .ok (.iconst 1, 1) := by decide +kernel
theorem dX1_fewestOf_3 : decode cX1_fewestOf 3 = .ok (.istore_n 3, 1) := by decide +kernel
theorem dX1_fewestOf_4 : decode cX1_fewestOf 4 = .ok (.iload_n 3, 1) := by decide +kernel
theorem dX1_fewestOf_5 : decode cX1_fewestOf 5 = .ok (.iload_n 1, 1) := by decide +kernel
theorem dX1_fewestOf_6 : decode cX1_fewestOf 6 = .ok (.if_icmp .gt 64, 3) := by decide +kernel
theorem dX1_fewestOf_9 : decode cX1_fewestOf 9 = .ok (.iload_n 3, 1) := by decide +kernel
theorem dX1_fewestOf_10 : decode cX1_fewestOf 10 = .ok (.iload_n 1, 1) := by decide +kernel
theorem dX1_fewestOf_11 : decode cX1_fewestOf 11 = .ok (.iconst (-1), 1) := by decide +kernel
theorem dX1_fewestOf_12 : decode cX1_fewestOf 12 = .ok (.ixor, 1) := by decide +kernel
theorem dX1_fewestOf_13 : decode cX1_fewestOf 13 = .ok (.iand, 1) := by decide +kernel
theorem dX1_fewestOf_14 : decode cX1_fewestOf 14 = .ok (.ifCond .ne 50, 3) := by decide +kernel
theorem dX1_fewestOf_17 : decode cX1_fewestOf 17 = .ok (.aload_n 0, 1) := by decide +kernel
theorem dX1_fewestOf_18 : decode cX1_fewestOf 18 = .ok (.getfield 15, 3) := by decide +kernel
theorem dX1_fewestOf_21 : decode cX1_fewestOf 21 = .ok (.iload_n 3, 1) := by decide +kernel
theorem dX1_fewestOf_22 : decode cX1_fewestOf 22 = .ok (.iaload, 1) := by decide +kernel
theorem dX1_fewestOf_23 : decode cX1_fewestOf 23 = .ok (.aload_n 0, 1) := by decide +kernel
theorem dX1_fewestOf_24 : decode cX1_fewestOf 24 = .ok (.getfield 18, 3) := by decide +kernel
theorem dX1_fewestOf_27 : decode cX1_fewestOf 27 = .ok (.if_icmp .gt 37, 3) := by decide +kernel
theorem dX1_fewestOf_30 : decode cX1_fewestOf 30 = .ok (.aload_n 0, 1) := by decide +kernel
theorem dX1_fewestOf_31 : decode cX1_fewestOf 31 = .ok (.getfield 9, 3) := by decide +kernel
theorem dX1_fewestOf_34 : decode cX1_fewestOf 34 = .ok (.iload_n 1, 1) := by decide +kernel
theorem dX1_fewestOf_35 : decode cX1_fewestOf 35 = .ok (.iload_n 3, 1) := by decide +kernel
theorem dX1_fewestOf_36 : decode cX1_fewestOf 36 = .ok (.ixor, 1) := by decide +kernel
theorem dX1_fewestOf_37 : decode cX1_fewestOf 37 = .ok (.iaload, 1) := by decide +kernel
theorem dX1_fewestOf_38 : decode cX1_fewestOf 38 = .ok (.istore 4, 2) := by decide +kernel
theorem dX1_fewestOf_40 : decode cX1_fewestOf 40 = .ok (.iload 4, 2) := by decide +kernel
theorem dX1_fewestOf_42 : decode cX1_fewestOf 42 = .ok (.iconst (-1), 1) := by decide +kernel
theorem dX1_fewestOf_43 : decode cX1_fewestOf 43 = .ok (.if_icmp .eq 21, 3) := by decide +kernel
theorem dX1_fewestOf_46 : decode cX1_fewestOf 46 = .ok (.iload_n 2, 1) := by decide +kernel
theorem dX1_fewestOf_47 : decode cX1_fewestOf 47 = .ok (.iconst (-1), 1) := by decide +kernel
theorem dX1_fewestOf_48 : decode cX1_fewestOf 48 = .ok (.if_icmp .eq 11, 3) := by decide +kernel
theorem dX1_fewestOf_51 : decode cX1_fewestOf 51 = .ok (.iload 4, 2) := by decide +kernel
theorem dX1_fewestOf_53 : decode cX1_fewestOf 53 = .ok (.iconst 1, 1) := by decide +kernel
theorem dX1_fewestOf_54 : decode cX1_fewestOf 54 = .ok (.iadd, 1) := by decide +kernel
theorem dX1_fewestOf_55 : decode cX1_fewestOf 55 = .ok (.iload_n 2, 1) := by decide +kernel
theorem dX1_fewestOf_56 : decode cX1_fewestOf 56 = .ok (.if_icmp .ge 8, 3) := by decide +kernel
theorem dX1_fewestOf_59 : decode cX1_fewestOf 59 = .ok (.iload 4, 2) := by decide +kernel
theorem dX1_fewestOf_61 : decode cX1_fewestOf 61 = .ok (.iconst 1, 1) := by decide +kernel
theorem dX1_fewestOf_62 : decode cX1_fewestOf 62 = .ok (.iadd, 1) := by decide +kernel
theorem dX1_fewestOf_63 : decode cX1_fewestOf 63 = .ok (.istore_n 2, 1) := by decide +kernel
theorem dX1_fewestOf_64 : decode cX1_fewestOf 64 = .ok (.iinc 3 1, 3) := by decide +kernel
theorem dX1_fewestOf_67 : decode cX1_fewestOf 67 = .ok (.goto (-63), 3) := by decide +kernel
theorem dX1_fewestOf_70 : decode cX1_fewestOf 70 = .ok (.iload_n 2, 1) := by decide +kernel
theorem dX1_fewestOf_71 : decode cX1_fewestOf 71 = .ok (.ireturn, 1) := by decide +kernel
theorem dX1_group_0 : decode cX1_group 0 = .ok (.iload_n 1, 1) := by decide +kernel
theorem dX1_group_1 : decode cX1_group 1 = .ok (.istore_n 3, 1) := by decide +kernel
theorem dX1_group_2 : decode cX1_group 2 = .ok (.iconst 0, 1) := by decide +kernel
theorem dX1_group_3 : decode cX1_group 3 = .ok (.istore 4, 2) := by decide +kernel
theorem dX1_group_5 : decode cX1_group 5 = .ok (.iload 4, 2) := by decide +kernel
theorem dX1_group_7 : decode cX1_group 7 = .ok (.iload_n 2, 1) := by decide +kernel
theorem dX1_group_8 : decode cX1_group 8 = .ok (.if_icmp .gt 43, 3) := by decide +kernel
theorem dX1_group_11 : decode cX1_group 11 = .ok (.iload 4, 2) := by decide +kernel
theorem dX1_group_13 : decode cX1_group 13 = .ok (.aload_n 0, 1) := by decide +kernel
theorem dX1_group_14 : decode cX1_group 14 = .ok (.getfield 9, 3) := by decide +kernel
theorem dX1_group_17 : decode cX1_group 17 = .ok (.iload_n 1, 1) := by decide +kernel
theorem dX1_group_18 : decode cX1_group 18 = .ok (.iaload, 1) := by decide +kernel
theorem dX1_group_19 : decode cX1_group 19 = .ok (.if_icmp .ge 32, 3) := by decide +kernel
theorem dX1_group_22 : decode cX1_group 22 = .ok (.aload_n 0, 1) := by decide +kernel
theorem dX1_group_23 : decode cX1_group 23 = .ok (.iload_n 3, 1) := by decide +kernel
theorem dX1_group_24 : decode cX1_group 24 = .ok (.invokevirtual 37, 3) := by decide +kernel
theorem dX1_group_27 : decode cX1_group 27 = .ok (.istore 5, 2) := by decide +kernel
theorem dX1_group_29 : decode cX1_group 29 = .ok (.iload 4, 2) := by decide +kernel
theorem dX1_group_31 : decode cX1_group 31 = .ok (.iload_n 2, 1) := by decide +kernel
theorem dX1_group_32 : decode cX1_group 32 = .ok (.if_icmp .ne 6, 3) := by decide +kernel
theorem dX1_group_35 : decode cX1_group 35 = .ok (.iload 5, 2) := by decide +kernel
theorem dX1_group_37 : decode cX1_group 37 = .ok (.ireturn, 1) := by decide +kernel
theorem dX1_group_38 : decode cX1_group 38 = .ok (.iload_n 3, 1) := by decide +kernel
theorem dX1_group_39 : decode cX1_group 39 = .ok (.iload 5, 2) := by decide +kernel
theorem dX1_group_41 : decode cX1_group 41 = .ok (.iconst (-1), 1) := by decide +kernel
theorem dX1_group_42 : decode cX1_group 42 = .ok (.ixor, 1) := by decide +kernel
theorem dX1_group_43 : decode cX1_group 43 = .ok (.iand, 1) := by decide +kernel
theorem dX1_group_44 : decode cX1_group 44 = .ok (.istore_n 3, 1) := by decide +kernel
theorem dX1_group_45 : decode cX1_group 45 = .ok (.iinc 4 1, 3) := by decide +kernel
theorem dX1_group_48 : decode cX1_group 48 = .ok (.goto (-43), 3) := by decide +kernel
theorem dX1_group_51 : decode cX1_group 51 = .ok (.iconst (-1), 1) := by decide +kernel
theorem dX1_group_52 : decode cX1_group 52 = .ok (.ireturn, 1) := by decide +kernel
theorem dX1_firstGroup_0 : decode cX1_firstGroup 0 = .ok (.iconst 1, 1) := by decide +kernel
theorem dX1_firstGroup_1 : decode cX1_firstGroup 1 = .ok (.istore_n 2, 1) := by decide +kernel
theorem dX1_firstGroup_2 : decode cX1_firstGroup 2 = .ok (.iload_n 2, 1) := by decide +kernel
theorem dX1_firstGroup_3 : decode cX1_firstGroup 3 = .ok (.iload_n 1, 1) := by decide +kernel
theorem dX1_firstGroup_4 : decode cX1_firstGroup 4 = .ok (.if_icmp .gt 61, 3) := by decide +kernel
theorem dX1_firstGroup_7 : decode cX1_firstGroup 7 = .ok (.iload_n 2, 1) := by decide +kernel
theorem dX1_firstGroup_8 : decode cX1_firstGroup 8 = .ok (.iload_n 1, 1) := by decide +kernel
theorem dX1_firstGroup_9 : decode cX1_firstGroup 9 = .ok (.iconst (-1), 1) := by decide +kernel
theorem dX1_firstGroup_10 : decode cX1_firstGroup 10 = .ok (.ixor, 1) := by decide +kernel
theorem dX1_firstGroup_11 : decode cX1_firstGroup 11 = .ok (.iand, 1) := by decide +kernel
theorem dX1_firstGroup_12 : decode cX1_firstGroup 12 = .ok (.ifCond .ne 20, 3) := by decide +kernel
theorem dX1_firstGroup_15 : decode cX1_firstGroup 15 = .ok (.aload_n 0, 1) := by decide +kernel
theorem dX1_firstGroup_16 : decode cX1_firstGroup 16 = .ok (.getfield 15, 3) := by decide +kernel
theorem dX1_firstGroup_19 : decode cX1_firstGroup 19 = .ok (.iload_n 2, 1) := by decide +kernel
theorem dX1_firstGroup_20 : decode cX1_firstGroup 20 = .ok (.iaload, 1) := by decide +kernel
theorem dX1_firstGroup_21 : decode cX1_firstGroup 21 = .ok (.aload_n 0, 1) := by decide +kernel
theorem dX1_firstGroup_22 : decode cX1_firstGroup 22 = .ok (.getfield 18, 3) := by decide +kernel
theorem dX1_firstGroup_25 : decode cX1_firstGroup 25 = .ok (.if_icmp .gt 7, 3) := by decide +kernel
theorem dX1_firstGroup_28 : decode cX1_firstGroup 28 = .ok (.iconst 1, 1) := by decide +kernel
theorem dX1_firstGroup_29 : decode cX1_firstGroup 29 = .ok (.goto 4, 3) := by decide +kernel
theorem dX1_firstGroup_32 : decode cX1_firstGroup 32 = .ok (.iconst 0, 1) := by decide +kernel
theorem dX1_firstGroup_33 : decode cX1_firstGroup 33 = .ok (.istore_n 3, 1) := by decide +kernel
theorem dX1_firstGroup_34 : decode cX1_firstGroup 34 = .ok (.iload_n 3, 1) := by decide +kernel
theorem dX1_firstGroup_35 : decode cX1_firstGroup 35 = .ok (.ifCond .eq 24, 3) := by decide +kernel
theorem dX1_firstGroup_38 : decode cX1_firstGroup 38 = .ok (.aload_n 0, 1) := by decide +kernel
theorem dX1_firstGroup_39 : decode cX1_firstGroup 39 = .ok (.getfield 9, 3) := by decide +kernel
theorem dX1_firstGroup_42 : decode cX1_firstGroup 42 = .ok (.iload_n 1, 1) := by decide +kernel
theorem dX1_firstGroup_43 : decode cX1_firstGroup 43 = .ok (.iload_n 2, 1) := by decide +kernel
theorem dX1_firstGroup_44 : decode cX1_firstGroup 44 = .ok (.ixor, 1) := by decide +kernel
theorem dX1_firstGroup_45 : decode cX1_firstGroup 45 = .ok (.iaload, 1) := by decide +kernel
theorem dX1_firstGroup_46 : decode cX1_firstGroup 46 = .ok (.aload_n 0, 1) := by decide +kernel
theorem dX1_firstGroup_47 : decode cX1_firstGroup 47 = .ok (.getfield 9, 3) := by decide +kernel
theorem dX1_firstGroup_50 : decode cX1_firstGroup 50 = .ok (.iload_n 1, 1) := by decide +kernel
theorem dX1_firstGroup_51 : decode cX1_firstGroup 51 = .ok (.iaload, 1) := by decide +kernel
theorem dX1_firstGroup_52 : decode cX1_firstGroup 52 = .ok (.iconst 1, 1) := by decide +kernel
theorem dX1_firstGroup_53 : decode cX1_firstGroup 53 = .ok (.isub, 1) := by decide +kernel
theorem dX1_firstGroup_54 : decode cX1_firstGroup 54 = .ok (.if_icmp .ne 5, 3) := by decide +kernel
theorem dX1_firstGroup_57 : decode cX1_firstGroup 57 = .ok (.iload_n 2, 1) := by decide +kernel
theorem dX1_firstGroup_58 : decode cX1_firstGroup 58 = .ok (.ireturn, 1) := by decide +kernel
theorem dX1_firstGroup_59 : decode cX1_firstGroup 59 = .ok (.iinc 2 1, 3) := by decide +kernel
theorem dX1_firstGroup_62 : decode cX1_firstGroup 62 = .ok (.goto (-60), 3) := by decide +kernel
theorem dX1_firstGroup_65 : decode cX1_firstGroup 65 = .ok (.iconst (-1), 1) := by decide +kernel
theorem dX1_firstGroup_66 : decode cX1_firstGroup 66 = .ok (.ireturn, 1) := by decide +kernel
theorem dX2_init_0 : decode cX2_init 0 = .ok (.aload_n 0, 1) := by decide +kernel
theorem dX2_init_1 : decode cX2_init 1 = .ok (.invokespecial 3, 3) := by decide +kernel
theorem dX2_init_4 : decode cX2_init 4 = .ok (.aload_n 0, 1) := by decide +kernel
theorem dX2_init_5 : decode cX2_init 5 = .ok (.bipush 8, 2) := by decide +kernel
theorem dX2_init_7 : decode cX2_init 7 = .ok (.newarray .int, 2) := by decide +kernel
theorem dX2_init_9 : decode cX2_init 9 = .ok (.putfield 9, 3) := by decide +kernel
theorem dX2_init_12 : decode cX2_init 12 = .ok (.aload_n 0, 1) := by decide +kernel
theorem dX2_init_13 : decode cX2_init 13 = .ok (.bipush 8, 2) := by decide +kernel
theorem dX2_init_15 : decode cX2_init 15 = .ok (.newarray .int, 2) := by decide +kernel
theorem dX2_init_17 : decode cX2_init 17 = .ok (.putfield 15, 3) := by decide +kernel
theorem dX2_init_20 : decode cX2_init 20 = .ok (.aload_n 0, 1) := by decide +kernel
theorem dX2_init_21 : decode cX2_init 21 = .ok (.bipush 56, 2) := by decide +kernel
theorem dX2_init_23 : decode cX2_init 23 = .ok (.newarray .int, 2) := by decide +kernel
theorem dX2_init_25 : decode cX2_init 25 = .ok (.putfield 18, 3) := by decide +kernel
theorem dX2_init_28 : decode cX2_init 28 = .ok (.return_, 1) := by decide +kernel
theorem dX2_begin_0 : decode cX2_begin 0 = .ok (.aload_n 0, 1) := by decide +kernel
theorem dX2_begin_1 : decode cX2_begin 1 = .ok (.iconst 0, 1) := by decide +kernel
theorem dX2_begin_2 : decode cX2_begin 2 = .ok (.putfield 21, 3) := by decide +kernel
theorem dX2_begin_5 : decode cX2_begin 5 = .ok (.aload_n 0, 1) := by decide +kernel
theorem dX2_begin_6 : decode cX2_begin 6 = .ok (.getfield 9, 3) := by decide +kernel
theorem dX2_begin_9 : decode cX2_begin 9 = .ok (.iconst 0, 1) := by decide +kernel
theorem dX2_begin_10 : decode cX2_begin 10 = .ok (.invokestatic 25, 3) := by decide +kernel
theorem dX2_begin_13 : decode cX2_begin 13 = .ok (.aload_n 0, 1) := by decide +kernel
theorem dX2_begin_14 : decode cX2_begin 14 = .ok (.getfield 18, 3) := by decide +kernel
theorem dX2_begin_17 : decode cX2_begin 17 = .ok (.iconst 0, 1) := by decide +kernel
theorem dX2_begin_18 : decode cX2_begin 18 = .ok (.invokestatic 25, 3) := by decide +kernel
theorem dX2_begin_21 : decode cX2_begin 21 = .ok (.iconst 0, 1) := by decide +kernel
theorem dX2_begin_22 : decode cX2_begin 22 = .ok (.istore_n 2, 1) := by decide +kernel
theorem dX2_begin_23 : decode cX2_begin 23 = .ok (.iload_n 2, 1) := by decide +kernel
theorem dX2_begin_24 : decode cX2_begin 24 = .ok (.aload_n 1, 1) := by decide +kernel
theorem dX2_begin_25 : decode cX2_begin 25 = .ok (.getfield 31, 3) := by decide +kernel
theorem dX2_begin_28 : decode cX2_begin 28 = .ok (.if_icmp .ge 21, 3) := by decide +kernel
theorem dX2_begin_31 : decode cX2_begin 31 = .ok (.aload_n 0, 1) := by decide +kernel
theorem dX2_begin_32 : decode cX2_begin 32 = .ok (.getfield 9, 3) := by decide +kernel
theorem dX2_begin_35 : decode cX2_begin 35 = .ok (.iload_n 2, 1) := by decide +kernel
theorem dX2_begin_36 : decode cX2_begin 36 = .ok (.aload_n 1, 1) := by decide +kernel
theorem dX2_begin_37 : decode cX2_begin 37 = .ok (.getfield 36, 3) := by decide +kernel
theorem dX2_begin_40 : decode cX2_begin 40 = .ok (.iload_n 2, 1) := by decide +kernel
theorem dX2_begin_41 : decode cX2_begin 41 = .ok (.iaload, 1) := by decide +kernel
theorem dX2_begin_42 : decode cX2_begin 42 = .ok (.iastore, 1) := by decide +kernel
theorem dX2_begin_43 : decode cX2_begin 43 = .ok (.iinc 2 1, 3) := by decide +kernel
theorem dX2_begin_46 : decode cX2_begin 46 = .ok (.goto (-23), 3) := by decide +kernel
theorem dX2_begin_49 : decode cX2_begin 49 = .ok (.return_, 1) := by decide +kernel
theorem dX2_copyFrom_0 : decode cX2_copyFrom 0 = .ok (.aload_n 0, 1) := by decide +kernel
theorem dX2_copyFrom_1 : decode cX2_copyFrom 1 = .ok (.aload_n 1, 1) := by decide +kernel
theorem dX2_copyFrom_2 : decode cX2_copyFrom 2 = .ok (.getfield 21, 3) := by decide +kernel
theorem dX2_copyFrom_5 : decode cX2_copyFrom 5 = .ok (.putfield 21, 3) := by decide +kernel
theorem dX2_copyFrom_8 : decode cX2_copyFrom 8 = .ok (.aload_n 0, 1) := by decide +kernel
theorem dX2_copyFrom_9 : decode cX2_copyFrom 9 = .ok (.aload_n 1, 1) := by decide +kernel
theorem dX2_copyFrom_10 : decode cX2_copyFrom 10 = .ok (.getfield 39, 3) := by decide +kernel
theorem dX2_copyFrom_13 : decode cX2_copyFrom 13 = .ok (.putfield 39, 3) := by decide +kernel
theorem dX2_copyFrom_16 : decode cX2_copyFrom 16 = .ok (.aload_n 1, 1) := by decide +kernel
theorem dX2_copyFrom_17 : decode cX2_copyFrom 17 = .ok (.getfield 9, 3) := by decide +kernel
theorem dX2_copyFrom_20 : decode cX2_copyFrom 20 = .ok (.iconst 0, 1) := by decide +kernel
theorem dX2_copyFrom_21 : decode cX2_copyFrom 21 = .ok (.aload_n 0, 1) := by decide +kernel
theorem dX2_copyFrom_22 : decode cX2_copyFrom 22 = .ok (.getfield 9, 3) := by decide +kernel
theorem dX2_copyFrom_25 : decode cX2_copyFrom 25 = .ok (.iconst 0, 1) := by decide +kernel
theorem dX2_copyFrom_26 : decode cX2_copyFrom 26 = .ok (.bipush 8, 2) := by decide +kernel
theorem dX2_copyFrom_28 : decode cX2_copyFrom 28 = .ok (.invokestatic 42, 3) := by decide +kernel
theorem dX2_copyFrom_31 : decode cX2_copyFrom 31 = .ok (.aload_n 1, 1) := by decide +kernel
theorem dX2_copyFrom_32 : decode cX2_copyFrom 32 = .ok (.getfield 18, 3) := by decide +kernel
theorem dX2_copyFrom_35 : decode cX2_copyFrom 35 = .ok (.iconst 0, 1) := by decide +kernel
theorem dX2_copyFrom_36 : decode cX2_copyFrom 36 = .ok (.aload_n 0, 1) := by decide +kernel
theorem dX2_copyFrom_37 : decode cX2_copyFrom 37 = .ok (.getfield 18, 3) := by decide +kernel
theorem dX2_copyFrom_40 : decode cX2_copyFrom 40 = .ok (.iconst 0, 1) := by decide +kernel
theorem dX2_copyFrom_41 : decode cX2_copyFrom 41 = .ok (.bipush 56, 2) := by decide +kernel
theorem dX2_copyFrom_43 : decode cX2_copyFrom 43 = .ok (.invokestatic 42, 3) := by decide +kernel
theorem dX2_copyFrom_46 : decode cX2_copyFrom 46 = .ok (.return_, 1) := by decide +kernel
theorem dX2_knows_0 : decode cX2_knows 0 = .ok (.aload_n 0, 1) := by decide +kernel
theorem dX2_knows_1 : decode cX2_knows 1 = .ok (.getfield 9, 3) := by decide +kernel
theorem dX2_knows_4 : decode cX2_knows 4 = .ok (.iload_n 2, 1) := by decide +kernel
theorem dX2_knows_5 : decode cX2_knows 5 = .ok (.iaload, 1) := by decide +kernel
theorem dX2_knows_6 : decode cX2_knows 6 = .ok (.iload_n 1, 1) := by decide +kernel
theorem dX2_knows_7 : decode cX2_knows 7 = .ok (.ishr, 1) := by decide +kernel
theorem dX2_knows_8 : decode cX2_knows 8 = .ok (.iconst 1, 1) := by decide +kernel
theorem dX2_knows_9 : decode cX2_knows 9 = .ok (.iand, 1) := by decide +kernel
theorem dX2_knows_10 : decode cX2_knows 10 = .ok (.ifCond .eq 7, 3) := by decide +kernel
theorem dX2_knows_13 : decode cX2_knows 13 = .ok (.iconst 1, 1) := by decide +kernel
theorem dX2_knows_14 : decode cX2_knows 14 = .ok (.goto 4, 3) := by decide +kernel
theorem dX2_knows_17 : decode cX2_knows 17 = .ok (.iconst 0, 1) := by decide +kernel
theorem dX2_knows_18 : decode cX2_knows 18 = .ok (.ireturn, 1) := by decide +kernel
theorem dX2_heardAt_0 : decode cX2_heardAt 0 = .ok (.aload_n 0, 1) := by decide +kernel
theorem dX2_heardAt_1 : decode cX2_heardAt 1 = .ok (.getfield 18, 3) := by decide +kernel
theorem dX2_heardAt_4 : decode cX2_heardAt 4 = .ok (.iload_n 1, 1) := by decide +kernel
theorem dX2_heardAt_5 : decode cX2_heardAt 5 = .ok (.bipush 8, 2) := by decide +kernel
theorem dX2_heardAt_7 : decode cX2_heardAt 7 = .ok (.imul, 1) := by decide +kernel
theorem dX2_heardAt_8 : decode cX2_heardAt 8 = .ok (.iload_n 2, 1) := by decide +kernel
theorem dX2_heardAt_9 : decode cX2_heardAt 9 = .ok (.iadd, 1) := by decide +kernel
theorem dX2_heardAt_10 : decode cX2_heardAt 10 = .ok (.iaload, 1) := by decide +kernel
theorem dX2_heardAt_11 : decode cX2_heardAt 11 = .ok (.ireturn, 1) := by decide +kernel
theorem dX2_learn_0 : decode cX2_learn 0 = .ok (.aload_n 0, 1) := by decide +kernel
theorem dX2_learn_1 : decode cX2_learn 1 = .ok (.getfield 9, 3) := by decide +kernel
theorem dX2_learn_4 : decode cX2_learn 4 = .ok (.iload_n 2, 1) := by decide +kernel
theorem dX2_learn_5 : decode cX2_learn 5 = .ok (.dup2, 1) := by decide +kernel
theorem dX2_learn_6 : decode cX2_learn 6 = .ok (.iaload, 1) := by decide +kernel
theorem dX2_learn_7 : decode cX2_learn 7 = .ok (.iconst 1, 1) := by decide +kernel
theorem dX2_learn_8 : decode cX2_learn 8 = .ok (.iload_n 1, 1) := by decide +kernel
theorem dX2_learn_9 : decode cX2_learn 9 = .ok (.ishl, 1) := by decide +kernel
theorem dX2_learn_10 : decode cX2_learn 10 = .ok (.ior, 1) := by decide +kernel
theorem dX2_learn_11 : decode cX2_learn 11 = .ok (.iastore, 1) := by decide +kernel
theorem dX2_learn_12 : decode cX2_learn 12 = .ok (.aload_n 0, 1) := by decide +kernel
theorem dX2_learn_13 : decode cX2_learn 13 = .ok (.getfield 18, 3) := by decide +kernel
theorem dX2_learn_16 : decode cX2_learn 16 = .ok (.iload_n 1, 1) := by decide +kernel
theorem dX2_learn_17 : decode cX2_learn 17 = .ok (.bipush 8, 2) := by decide +kernel
theorem dX2_learn_19 : decode cX2_learn 19 = .ok (.imul, 1) := by decide +kernel
theorem dX2_learn_20 : decode cX2_learn 20 = .ok (.iload_n 2, 1) := by decide +kernel
theorem dX2_learn_21 : decode cX2_learn 21 = .ok (.iadd, 1) := by decide +kernel
theorem dX2_learn_22 : decode cX2_learn 22 = .ok (.aload_n 0, 1) := by decide +kernel
theorem dX2_learn_23 : decode cX2_learn 23 = .ok (.getfield 21, 3) := by decide +kernel
theorem dX2_learn_26 : decode cX2_learn 26 = .ok (.iastore, 1) := by decide +kernel
theorem dX2_learn_27 : decode cX2_learn 27 = .ok (.return_, 1) := by decide +kernel
theorem dX2_lose_0 : decode cX2_lose 0 = .ok (.aload_n 0, 1) := by decide +kernel
theorem dX2_lose_1 : decode cX2_lose 1 = .ok (.getfield 9, 3) := by decide +kernel
theorem dX2_lose_4 : decode cX2_lose 4 = .ok (.iload_n 2, 1) := by decide +kernel
theorem dX2_lose_5 : decode cX2_lose 5 = .ok (.dup2, 1) := by decide +kernel
theorem dX2_lose_6 : decode cX2_lose 6 = .ok (.iaload, 1) := by decide +kernel
theorem dX2_lose_7 : decode cX2_lose 7 = .ok (.iconst 1, 1) := by decide +kernel
theorem dX2_lose_8 : decode cX2_lose 8 = .ok (.iload_n 1, 1) := by decide +kernel
theorem dX2_lose_9 : decode cX2_lose 9 = .ok (.ishl, 1) := by decide +kernel
theorem dX2_lose_10 : decode cX2_lose 10 = .ok (.iconst (-1), 1) := by decide +kernel
theorem dX2_lose_11 : decode cX2_lose 11 = .ok (.ixor, 1) := by decide +kernel
theorem dX2_lose_12 : decode cX2_lose 12 = .ok (.iand, 1) := by decide +kernel
theorem dX2_lose_13 : decode cX2_lose 13 = .ok (.iastore, 1) := by decide +kernel
theorem dX2_lose_14 : decode cX2_lose 14 = .ok (.return_, 1) := by decide +kernel
theorem dX2_factsIn_0 : decode cX2_factsIn 0 = .ok (.iconst 0, 1) := by decide +kernel
theorem dX2_factsIn_1 : decode cX2_factsIn 1 = .ok (.istore_n 2, 1) := by decide +kernel
theorem dX2_factsIn_2 : decode cX2_factsIn 2 = .ok (.iconst 0, 1) := by decide +kernel
theorem dX2_factsIn_3 : decode cX2_factsIn 3 = .ok (.istore_n 3, 1) := by decide +kernel
theorem dX2_factsIn_4 : decode cX2_factsIn 4 = .ok (.iload_n 3, 1) := by decide +kernel
theorem dX2_factsIn_5 : decode cX2_factsIn 5 = .ok (.bipush 8, 2) := by decide +kernel
theorem dX2_factsIn_7 : decode cX2_factsIn 7 = .ok (.if_icmp .ge 24, 3) := by decide +kernel
theorem dX2_factsIn_10 : decode cX2_factsIn 10 = .ok (.iload_n 2, 1) := by decide +kernel
theorem dX2_factsIn_11 : decode cX2_factsIn 11 = .ok (.aload_n 0, 1) := by decide +kernel
theorem dX2_factsIn_12 : decode cX2_factsIn 12 = .ok (.getfield 9, 3) := by decide +kernel
theorem dX2_factsIn_15 : decode cX2_factsIn 15 = .ok (.iload_n 3, 1) := by decide +kernel
theorem dX2_factsIn_16 : decode cX2_factsIn 16 = .ok (.iaload, 1) := by decide +kernel
theorem dX2_factsIn_17 : decode cX2_factsIn 17 = .ok (.iload_n 1, 1) := by decide +kernel
theorem dX2_factsIn_18 : decode cX2_factsIn 18 = .ok (.ishr, 1) := by decide +kernel
theorem dX2_factsIn_19 : decode cX2_factsIn 19 = .ok (.iconst 1, 1) := by decide +kernel
theorem dX2_factsIn_20 : decode cX2_factsIn 20 = .ok (.iand, 1) := by decide +kernel
theorem dX2_factsIn_21 : decode cX2_factsIn 21 = .ok (.iload_n 3, 1) := by decide +kernel
theorem dX2_factsIn_22 : decode cX2_factsIn 22 = .ok (.ishl, 1) := by decide +kernel
theorem dX2_factsIn_23 : decode cX2_factsIn 23 = .ok (.ior, 1) := by decide +kernel
theorem dX2_factsIn_24 : decode cX2_factsIn 24 = .ok (.istore_n 2, 1) := by decide +kernel
theorem dX2_factsIn_25 : decode cX2_factsIn 25 = .ok (.iinc 3 1, 3) := by decide +kernel
theorem dX2_factsIn_28 : decode cX2_factsIn 28 = .ok (.goto (-24), 3) := by decide +kernel
theorem dX2_factsIn_31 : decode cX2_factsIn 31 = .ok (.iload_n 2, 1) := by decide +kernel
theorem dX2_factsIn_32 : decode cX2_factsIn 32 = .ok (.ireturn, 1) := by decide +kernel
theorem dX2_headsOf_0 : decode cX2_headsOf 0 = .ok (.aload_n 0, 1) := by decide +kernel
theorem dX2_headsOf_1 : decode cX2_headsOf 1 = .ok (.getfield 9, 3) := by decide +kernel
theorem dX2_headsOf_4 : decode cX2_headsOf 4 = .ok (.iload_n 2, 1) := by decide +kernel
theorem dX2_headsOf_5 : decode cX2_headsOf 5 = .ok (.iaload, 1) := by decide +kernel
theorem dX2_headsOf_6 : decode cX2_headsOf 6 = .ok (.iconst 1, 1) := by decide +kernel
theorem dX2_headsOf_7 : decode cX2_headsOf 7 = .ok (.aload_n 1, 1) := by decide +kernel
theorem dX2_headsOf_8 : decode cX2_headsOf 8 = .ok (.getfield 48, 3) := by decide +kernel
theorem dX2_headsOf_11 : decode cX2_headsOf 11 = .ok (.iload_n 2, 1) := by decide +kernel
theorem dX2_headsOf_12 : decode cX2_headsOf 12 = .ok (.iaload, 1) := by decide +kernel
theorem dX2_headsOf_13 : decode cX2_headsOf 13 = .ok (.ishl, 1) := by decide +kernel
theorem dX2_headsOf_14 : decode cX2_headsOf 14 = .ok (.iconst (-1), 1) := by decide +kernel
theorem dX2_headsOf_15 : decode cX2_headsOf 15 = .ok (.ixor, 1) := by decide +kernel
theorem dX2_headsOf_16 : decode cX2_headsOf 16 = .ok (.iand, 1) := by decide +kernel
theorem dX2_headsOf_17 : decode cX2_headsOf 17 = .ok (.invokestatic 51, 3) := by decide +kernel
theorem dX2_headsOf_20 : decode cX2_headsOf 20 = .ok (.ireturn, 1) := by decide +kernel
theorem dX2_allHeads_0 : decode cX2_allHeads 0 = .ok (.iconst 0, 1) := by decide +kernel
theorem dX2_allHeads_1 : decode cX2_allHeads 1 = .ok (.istore_n 2, 1) := by decide +kernel
theorem dX2_allHeads_2 : decode cX2_allHeads 2 = .ok (.iconst 0, 1) := by decide +kernel
theorem dX2_allHeads_3 : decode cX2_allHeads 3 = .ok (.istore_n 3, 1) := by decide +kernel
theorem dX2_allHeads_4 : decode cX2_allHeads 4 = .ok (.iload_n 3, 1) := by decide +kernel
theorem dX2_allHeads_5 : decode cX2_allHeads 5 = .ok (.aload_n 1, 1) := by decide +kernel
theorem dX2_allHeads_6 : decode cX2_allHeads 6 = .ok (.getfield 31, 3) := by decide +kernel
theorem dX2_allHeads_9 : decode cX2_allHeads 9 = .ok (.if_icmp .ge 18, 3) := by decide +kernel
theorem dX2_allHeads_12 : decode cX2_allHeads 12 = .ok (.iload_n 2, 1) := by decide +kernel
theorem dX2_allHeads_13 : decode cX2_allHeads 13 = .ok (.aload_n 0, 1) := by decide +kernel
theorem dX2_allHeads_14 : decode cX2_allHeads 14 = .ok (.aload_n 1, 1) := by decide +kernel
theorem dX2_allHeads_15 : decode cX2_allHeads 15 = .ok (.iload_n 3, 1) := by decide +kernel
theorem dX2_allHeads_16 : decode cX2_allHeads 16 = .ok (.invokevirtual 57, 3) := by decide +kernel
theorem dX2_allHeads_19 : decode cX2_allHeads 19 = .ok (.iadd, 1) := by decide +kernel
theorem dX2_allHeads_20 : decode cX2_allHeads 20 = .ok (.istore_n 2, 1) := by decide +kernel
theorem dX2_allHeads_21 : decode cX2_allHeads 21 = .ok (.iinc 3 1, 3) := by decide +kernel
theorem dX2_allHeads_24 : decode cX2_allHeads 24 = .ok (.goto (-20), 3) := by decide +kernel
theorem dX2_allHeads_27 : decode cX2_allHeads 27 = .ok (.iload_n 2, 1) := by decide +kernel
theorem dX2_allHeads_28 : decode cX2_allHeads 28 = .ok (.ireturn, 1) := by decide +kernel
theorem dX2_gramsOf_0 : decode cX2_gramsOf 0 = .ok (.iconst 0, 1) := by decide +kernel
theorem dX2_gramsOf_1 : decode cX2_gramsOf 1 = .ok (.istore_n 3, 1) := by decide +kernel
theorem dX2_gramsOf_2 : decode cX2_gramsOf 2 = .ok (.iconst 0, 1) := by decide +kernel
theorem dX2_gramsOf_3 : decode cX2_gramsOf 3 = .ok (.istore 4, 2) := by decide +kernel
theorem dX2_gramsOf_5 : decode cX2_gramsOf 5 = .ok (.iload 4, 2) := by decide +kernel
theorem dX2_gramsOf_7 : decode cX2_gramsOf 7 = .ok (.aload_n 1, 1) := by decide +kernel
theorem dX2_gramsOf_8 : decode cX2_gramsOf 8 = .ok (.getfield 31, 3) := by decide +kernel
theorem dX2_gramsOf_11 : decode cX2_gramsOf 11 = .ok (.if_icmp .ge 36, 3) := by decide +kernel
theorem dX2_gramsOf_14 : decode cX2_gramsOf 14 = .ok (.iload_n 2, 1) := by decide +kernel
theorem dX2_gramsOf_15 : decode cX2_gramsOf 15 = .ok (.iload 4, 2) := by decide +kernel
theorem dX2_gramsOf_17 : decode cX2_gramsOf 17 = .ok (.ishr, 1) := by decide +kernel
theorem dX2_gramsOf_18 : decode cX2_gramsOf 18 = .ok (.iconst 1, 1) := by decide +kernel
theorem dX2_gramsOf_19 : decode cX2_gramsOf 19 = .ok (.iand, 1) := by decide +kernel
theorem dX2_gramsOf_20 : decode cX2_gramsOf 20 = .ok (.ifCond .eq 21, 3) := by decide +kernel
theorem dX2_gramsOf_23 : decode cX2_gramsOf 23 = .ok (.iload_n 3, 1) := by decide +kernel
theorem dX2_gramsOf_24 : decode cX2_gramsOf 24 = .ok (.aload_n 1, 1) := by decide +kernel
theorem dX2_gramsOf_25 : decode cX2_gramsOf 25 = .ok (.getfield 61, 3) := by decide +kernel
theorem dX2_gramsOf_28 : decode cX2_gramsOf 28 = .ok (.iload 4, 2) := by decide +kernel
theorem dX2_gramsOf_30 : decode cX2_gramsOf 30 = .ok (.iaload, 1) := by decide +kernel
theorem dX2_gramsOf_31 : decode cX2_gramsOf 31 = .ok (.aload_n 0, 1) := by decide +kernel
theorem dX2_gramsOf_32 : decode cX2_gramsOf 32 = .ok (.aload_n 1, 1) := by decide +kernel
theorem dX2_gramsOf_33 : decode cX2_gramsOf 33 = .ok (.iload 4, 2) := by decide +kernel
theorem dX2_gramsOf_35 : decode cX2_gramsOf 35 = .ok (.invokevirtual 57, 3) := by decide +kernel
theorem dX2_gramsOf_38 : decode cX2_gramsOf 38 = .ok (.imul, 1) := by decide +kernel
theorem dX2_gramsOf_39 : decode cX2_gramsOf 39 = .ok (.iadd, 1) := by decide +kernel
theorem dX2_gramsOf_40 : decode cX2_gramsOf 40 = .ok (.istore_n 3, 1) := by decide +kernel
theorem dX2_gramsOf_41 : decode cX2_gramsOf 41 = .ok (.iinc 4 1, 3) := by decide +kernel
theorem dX2_gramsOf_44 : decode cX2_gramsOf 44 = .ok (.goto (-39), 3) := by decide +kernel
theorem dX2_gramsOf_47 : decode cX2_gramsOf 47 = .ok (.iload_n 3, 1) := by decide +kernel
theorem dX2_gramsOf_48 : decode cX2_gramsOf 48 = .ok (.ireturn, 1) := by decide +kernel
theorem dX2_load_0 : decode cX2_load 0 = .ok (.aload_n 1, 1) := by decide +kernel
theorem dX2_load_1 : decode cX2_load 1 = .ok (.getfield 64, 3) := by decide +kernel
theorem dX2_load_4 : decode cX2_load 4 = .ok (.iload_n 2, 1) := by decide +kernel
theorem dX2_load_5 : decode cX2_load 5 = .ok (.iaload, 1) := by decide +kernel
theorem dX2_load_6 : decode cX2_load 6 = .ok (.istore_n 3, 1) := by decide +kernel
theorem dX2_load_7 : decode cX2_load 7 = .ok (.aload_n 0, 1) := by decide +kernel
theorem dX2_load_8 : decode cX2_load 8 = .ok (.aload_n 1, 1) := by decide +kernel
theorem dX2_load_9 : decode cX2_load 9 = .ok (.iload_n 3, 1) := by decide +kernel
theorem dX2_load_10 : decode cX2_load 10 = .ok (.aload_n 1, 1) := by decide +kernel
theorem dX2_load_11 : decode cX2_load 11 = .ok (.getfield 67, 3) := by decide +kernel
theorem dX2_load_14 : decode cX2_load 14 = .ok (.iconst (-1), 1) := by decide +kernel
theorem dX2_load_15 : decode cX2_load 15 = .ok (.ixor, 1) := by decide +kernel
theorem dX2_load_16 : decode cX2_load 16 = .ok (.iand, 1) := by decide +kernel
theorem dX2_load_17 : decode cX2_load 17 = .ok (.invokevirtual 70, 3) := by decide +kernel
theorem dX2_load_20 : decode cX2_load 20 = .ok (.aload_n 0, 1) := by decide +kernel
theorem dX2_load_21 : decode cX2_load 21 = .ok (.aload_n 1, 1) := by decide +kernel
theorem dX2_load_22 : decode cX2_load 22 = .ok (.iload_n 3, 1) := by decide +kernel
theorem dX2_load_23 : decode cX2_load 23 = .ok (.aload_n 1, 1) := by decide +kernel
theorem dX2_load_24 : decode cX2_load 24 = .ok (.getfield 67, 3) := by decide +kernel
theorem dX2_load_27 : decode cX2_load 27 = .ok (.iand, 1) := by decide +kernel
theorem dX2_load_28 : decode cX2_load 28 = .ok (.invokevirtual 70, 3) := by decide +kernel
theorem dX2_load_31 : decode cX2_load 31 = .ok (.isub, 1) := by decide +kernel
theorem dX2_load_32 : decode cX2_load 32 = .ok (.ireturn, 1) := by decide +kernel
theorem dX2_loadOfAll_0 : decode cX2_loadOfAll 0 = .ok (.iconst 0, 1) := by decide +kernel
theorem dX2_loadOfAll_1 : decode cX2_loadOfAll 1 = .ok (.istore_n 3, 1) := by decide +kernel
theorem dX2_loadOfAll_2 : decode cX2_loadOfAll 2 = .ok (.iconst 0, 1) := by decide +kernel
theorem dX2_loadOfAll_3 : decode cX2_loadOfAll 3 = .ok (.istore 4, 2) := by decide +kernel
theorem dX2_loadOfAll_5 : decode cX2_loadOfAll 5 = .ok (.iload 4, 2) := by decide +kernel
theorem dX2_loadOfAll_7 : decode cX2_loadOfAll 7 = .ok (.aload_n 1, 1) := by decide +kernel
theorem dX2_loadOfAll_8 : decode cX2_loadOfAll 8 = .ok (.getfield 73, 3) := by decide +kernel
theorem dX2_loadOfAll_11 : decode cX2_loadOfAll 11 = .ok (.if_icmp .ge 28, 3) := by decide +kernel
theorem dX2_loadOfAll_14 : decode cX2_loadOfAll 14 = .ok (.iload_n 2, 1) := by decide +kernel
theorem dX2_loadOfAll_15 : decode cX2_loadOfAll 15 = .ok (.iload 4, 2) := by decide +kernel
theorem dX2_loadOfAll_17 : decode cX2_loadOfAll 17 = .ok (.ishr, 1) := by decide +kernel
theorem dX2_loadOfAll_18 : decode cX2_loadOfAll 18 = .ok (.iconst 1, 1) := by decide +kernel
theorem dX2_loadOfAll_19 : decode cX2_loadOfAll 19 = .ok (.iand, 1) := by decide +kernel
theorem dX2_loadOfAll_20 : decode cX2_loadOfAll 20 = .ok (.ifCond .eq 13, 3) := by decide +kernel
theorem dX2_loadOfAll_23 : decode cX2_loadOfAll 23 = .ok (.iload_n 3, 1) := by decide +kernel
theorem dX2_loadOfAll_24 : decode cX2_loadOfAll 24 = .ok (.aload_n 0, 1) := by decide +kernel
theorem dX2_loadOfAll_25 : decode cX2_loadOfAll 25 = .ok (.aload_n 1, 1) := by decide +kernel
theorem dX2_loadOfAll_26 : decode cX2_loadOfAll 26 = .ok (.iload 4, 2) := by decide +kernel
theorem dX2_loadOfAll_28 : decode cX2_loadOfAll 28 = .ok (.invokevirtual 76, 3) := by decide +kernel
theorem dX2_loadOfAll_31 : decode cX2_loadOfAll 31 = .ok (.iadd, 1) := by decide +kernel
theorem dX2_loadOfAll_32 : decode cX2_loadOfAll 32 = .ok (.istore_n 3, 1) := by decide +kernel
theorem dX2_loadOfAll_33 : decode cX2_loadOfAll 33 = .ok (.iinc 4 1, 3) := by decide +kernel
theorem dX2_loadOfAll_36 : decode cX2_loadOfAll 36 = .ok (.goto (-31), 3) := by decide +kernel
theorem dX2_loadOfAll_39 : decode cX2_loadOfAll 39 = .ok (.iload_n 3, 1) := by decide +kernel
theorem dX2_loadOfAll_40 : decode cX2_loadOfAll 40 = .ok (.ireturn, 1) := by decide +kernel
theorem dX2_passHour_0 : decode cX2_passHour 0 = .ok (.aload_n 0, 1) := by decide +kernel
theorem dX2_passHour_1 : decode cX2_passHour 1 = .ok (.dup, 1) := by decide +kernel
theorem dX2_passHour_2 : decode cX2_passHour 2 = .ok (.getfield 21, 3) := by decide +kernel
theorem dX2_passHour_5 : decode cX2_passHour 5 = .ok (.iconst 1, 1) := by decide +kernel
theorem dX2_passHour_6 : decode cX2_passHour 6 = .ok (.iadd, 1) := by decide +kernel
theorem dX2_passHour_7 : decode cX2_passHour 7 = .ok (.putfield 21, 3) := by decide +kernel
theorem dX2_passHour_10 : decode cX2_passHour 10 = .ok (.aload_n 0, 1) := by decide +kernel
theorem dX2_passHour_11 : decode cX2_passHour 11 = .ok (.aload_n 1, 1) := by decide +kernel
theorem dX2_passHour_12 : decode cX2_passHour 12 = .ok (.invokevirtual 79, 3) := by decide +kernel
theorem dX2_passHour_15 : decode cX2_passHour 15 = .ok (.aload_n 0, 1) := by decide +kernel
theorem dX2_passHour_16 : decode cX2_passHour 16 = .ok (.aload_n 1, 1) := by decide +kernel
theorem dX2_passHour_17 : decode cX2_passHour 17 = .ok (.invokevirtual 83, 3) := by decide +kernel
theorem dX2_passHour_20 : decode cX2_passHour 20 = .ok (.return_, 1) := by decide +kernel
theorem dX2_forgetOld_0 : decode cX2_forgetOld 0 = .ok (.aload_n 1, 1) := by decide +kernel
theorem dX2_forgetOld_1 : decode cX2_forgetOld 1 = .ok (.getfield 86, 3) := by decide +kernel
theorem dX2_forgetOld_4 : decode cX2_forgetOld 4 = .ok (.ifCond .ne 4, 3) := by decide +kernel
theorem dX2_forgetOld_7 : decode cX2_forgetOld 7 = .ok (.return_, 1) := by decide +kernel
theorem dX2_forgetOld_8 : decode cX2_forgetOld 8 = .ok (.iconst 0, 1) := by decide +kernel
theorem dX2_forgetOld_9 : decode cX2_forgetOld 9 = .ok (.istore_n 2, 1) := by decide +kernel
theorem dX2_forgetOld_10 : decode cX2_forgetOld 10 = .ok (.iload_n 2, 1) := by decide +kernel
theorem dX2_forgetOld_11 : decode cX2_forgetOld 11 = .ok (.aload_n 1, 1) := by decide +kernel
theorem dX2_forgetOld_12 : decode cX2_forgetOld 12 = .ok (.getfield 31, 3) := by decide +kernel
theorem dX2_forgetOld_15 : decode cX2_forgetOld 15 = .ok (.if_icmp .ge 58, 3) := by decide +kernel
theorem dX2_forgetOld_18 : decode cX2_forgetOld 18 = .ok (.iconst 0, 1) := by decide +kernel
theorem dX2_forgetOld_19 : decode cX2_forgetOld 19 = .ok (.istore_n 3, 1) := by decide +kernel
theorem dX2_forgetOld_20 : decode cX2_forgetOld 20 = .ok (.iload_n 3, 1) := by decide +kernel
theorem dX2_forgetOld_21 : decode cX2_forgetOld 21 = .ok (.aload_n 1, 1) := by decide +kernel
theorem dX2_forgetOld_22 : decode cX2_forgetOld 22 = .ok (.getfield 73, 3) := by decide +kernel
theorem dX2_forgetOld_25 : decode cX2_forgetOld 25 = .ok (.if_icmp .ge 42, 3) := by decide +kernel
theorem dX2_forgetOld_28 : decode cX2_forgetOld 28 = .ok (.aload_n 0, 1) := by decide +kernel
theorem dX2_forgetOld_29 : decode cX2_forgetOld 29 = .ok (.iload_n 3, 1) := by decide +kernel
theorem dX2_forgetOld_30 : decode cX2_forgetOld 30 = .ok (.iload_n 2, 1) := by decide +kernel
theorem dX2_forgetOld_31 : decode cX2_forgetOld 31 = .ok (.invokevirtual 89, 3) := by decide +kernel
theorem dX2_forgetOld_34 : decode cX2_forgetOld 34 = .ok (.ifCond .eq 27, 3) := by decide +kernel
theorem dX2_forgetOld_37 : decode cX2_forgetOld 37 = .ok (.aload_n 0, 1) := by decide +kernel
theorem dX2_forgetOld_38 : decode cX2_forgetOld 38 = .ok (.getfield 21, 3) := by decide +kernel
theorem dX2_forgetOld_41 : decode cX2_forgetOld 41 = .ok (.aload_n 0, 1) := by decide +kernel
theorem dX2_forgetOld_42 : decode cX2_forgetOld 42 = .ok (.iload_n 3, 1) := by decide +kernel
theorem dX2_forgetOld_43 : decode cX2_forgetOld 43 = .ok (.iload_n 2, 1) := by decide +kernel
theorem dX2_forgetOld_44 : decode cX2_forgetOld 44 = .ok (.invokevirtual 93, 3) := by decide +kernel
theorem dX2_forgetOld_47 : decode cX2_forgetOld 47 = .ok (.isub, 1) := by decide +kernel
theorem dX2_forgetOld_48 : decode cX2_forgetOld 48 = .ok (.aload_n 1, 1) := by decide +kernel
theorem dX2_forgetOld_49 : decode cX2_forgetOld 49 = .ok (.getfield 86, 3) := by decide +kernel
theorem dX2_forgetOld_52 : decode cX2_forgetOld 52 = .ok (.if_icmp .lt 9, 3) := by decide +kernel
theorem dX2_forgetOld_55 : decode cX2_forgetOld 55 = .ok (.aload_n 0, 1) := by decide +kernel
theorem dX2_forgetOld_56 : decode cX2_forgetOld 56 = .ok (.iload_n 3, 1) := by decide +kernel
theorem dX2_forgetOld_57 : decode cX2_forgetOld 57 = .ok (.iload_n 2, 1) := by decide +kernel
theorem dX2_forgetOld_58 : decode cX2_forgetOld 58 = .ok (.invokevirtual 97, 3) := by decide +kernel
theorem dX2_forgetOld_61 : decode cX2_forgetOld 61 = .ok (.iinc 3 1, 3) := by decide +kernel
theorem dX2_forgetOld_64 : decode cX2_forgetOld 64 = .ok (.goto (-44), 3) := by decide +kernel
theorem dX2_forgetOld_67 : decode cX2_forgetOld 67 = .ok (.iinc 2 1, 3) := by decide +kernel
theorem dX2_forgetOld_70 : decode cX2_forgetOld 70 = .ok (.goto (-60), 3) := by decide +kernel
theorem dX2_forgetOld_73 : decode cX2_forgetOld 73 = .ok (.return_, 1) := by decide +kernel
theorem dX2_tellOn_0 : decode cX2_tellOn 0 = .ok (.aload_n 0, 1) := by decide +kernel
theorem dX2_tellOn_1 : decode cX2_tellOn 1 = .ok (.getfield 15, 3) := by decide +kernel
theorem dX2_tellOn_4 : decode cX2_tellOn 4 = .ok (.iconst 0, 1) := by decide +kernel
theorem dX2_tellOn_5 : decode cX2_tellOn 5 = .ok (.invokestatic 25, 3) := by decide +kernel
theorem dX2_tellOn_8 : decode cX2_tellOn 8 = .ok (.iconst 0, 1) := by decide +kernel
theorem dX2_tellOn_9 : decode cX2_tellOn 9 = .ok (.istore_n 2, 1) := by decide +kernel
theorem dX2_tellOn_10 : decode cX2_tellOn 10 = .ok (.iload_n 2, 1) := by decide +kernel
theorem dX2_tellOn_11 : decode cX2_tellOn 11 = .ok (.aload_n 1, 1) := by decide +kernel
theorem dX2_tellOn_12 : decode cX2_tellOn 12 = .ok (.getfield 73, 3) := by decide +kernel
theorem dX2_tellOn_15 : decode cX2_tellOn 15 = .ok (.if_icmp .ge 23, 3) := by decide +kernel
theorem dX2_tellOn_18 : decode cX2_tellOn 18 = .ok (.aload_n 1, 1) := by decide +kernel
theorem dX2_tellOn_19 : decode cX2_tellOn 19 = .ok (.iload_n 2, 1) := by decide +kernel
theorem dX2_tellOn_20 : decode cX2_tellOn 20 = .ok (.invokevirtual 101, 3) := by decide +kernel
theorem dX2_tellOn_23 : decode cX2_tellOn 23 = .ok (.ifCond .ne 9, 3) := by decide +kernel
theorem dX2_tellOn_26 : decode cX2_tellOn 26 = .ok (.aload_n 0, 1) := by decide +kernel
theorem dX2_tellOn_27 : decode cX2_tellOn 27 = .ok (.aload_n 1, 1) := by decide +kernel
theorem dX2_tellOn_28 : decode cX2_tellOn 28 = .ok (.iload_n 2, 1) := by decide +kernel
theorem dX2_tellOn_29 : decode cX2_tellOn 29 = .ok (.invokevirtual 105, 3) := by decide +kernel
theorem dX2_tellOn_32 : decode cX2_tellOn 32 = .ok (.iinc 2 1, 3) := by decide +kernel
theorem dX2_tellOn_35 : decode cX2_tellOn 35 = .ok (.goto (-25), 3) := by decide +kernel
theorem dX2_tellOn_38 : decode cX2_tellOn 38 = .ok (.iconst 0, 1) := by decide +kernel
theorem dX2_tellOn_39 : decode cX2_tellOn 39 = .ok (.istore_n 2, 1) := by decide +kernel
theorem dX2_tellOn_40 : decode cX2_tellOn 40 = .ok (.iload_n 2, 1) := by decide +kernel
theorem dX2_tellOn_41 : decode cX2_tellOn 41 = .ok (.aload_n 1, 1) := by decide +kernel
theorem dX2_tellOn_42 : decode cX2_tellOn 42 = .ok (.getfield 31, 3) := by decide +kernel
theorem dX2_tellOn_45 : decode cX2_tellOn 45 = .ok (.if_icmp .ge 53, 3) := by decide +kernel
theorem dX2_tellOn_48 : decode cX2_tellOn 48 = .ok (.iconst 0, 1) := by decide +kernel
theorem dX2_tellOn_49 : decode cX2_tellOn 49 = .ok (.istore_n 3, 1) := by decide +kernel
theorem dX2_tellOn_50 : decode cX2_tellOn 50 = .ok (.aload_n 0, 1) := by decide +kernel
theorem dX2_tellOn_51 : decode cX2_tellOn 51 = .ok (.getfield 15, 3) := by decide +kernel
theorem dX2_tellOn_54 : decode cX2_tellOn 54 = .ok (.iload_n 2, 1) := by decide +kernel
theorem dX2_tellOn_55 : decode cX2_tellOn 55 = .ok (.iaload, 1) := by decide +kernel
theorem dX2_tellOn_56 : decode cX2_tellOn 56 = .ok (.ifCond .eq 36, 3) := by decide +kernel
theorem dX2_tellOn_59 : decode cX2_tellOn 59 = .ok (.iload_n 3, 1) := by decide +kernel
theorem dX2_tellOn_60 : decode cX2_tellOn 60 = .ok (.aload_n 1, 1) := by decide +kernel
theorem dX2_tellOn_61 : decode cX2_tellOn 61 = .ok (.getfield 73, 3) := by decide +kernel
theorem dX2_tellOn_64 : decode cX2_tellOn 64 = .ok (.if_icmp .ge 28, 3) := by decide +kernel
theorem dX2_tellOn_67 : decode cX2_tellOn 67 = .ok (.aload_n 0, 1) := by decide +kernel
theorem dX2_tellOn_68 : decode cX2_tellOn 68 = .ok (.getfield 15, 3) := by decide +kernel
theorem dX2_tellOn_71 : decode cX2_tellOn 71 = .ok (.iload_n 2, 1) := by decide +kernel
theorem dX2_tellOn_72 : decode cX2_tellOn 72 = .ok (.iaload, 1) := by decide +kernel
theorem dX2_tellOn_73 : decode cX2_tellOn 73 = .ok (.iload_n 3, 1) := by decide +kernel
theorem dX2_tellOn_74 : decode cX2_tellOn 74 = .ok (.ishr, 1) := by decide +kernel
theorem dX2_tellOn_75 : decode cX2_tellOn 75 = .ok (.iconst 1, 1) := by decide +kernel
theorem dX2_tellOn_76 : decode cX2_tellOn 76 = .ok (.iand, 1) := by decide +kernel
theorem dX2_tellOn_77 : decode cX2_tellOn 77 = .ok (.ifCond .eq 9, 3) := by decide +kernel
theorem dX2_tellOn_80 : decode cX2_tellOn 80 = .ok (.aload_n 0, 1) := by decide +kernel
theorem dX2_tellOn_81 : decode cX2_tellOn 81 = .ok (.iload_n 3, 1) := by decide +kernel
theorem dX2_tellOn_82 : decode cX2_tellOn 82 = .ok (.iload_n 2, 1) := by decide +kernel
theorem dX2_tellOn_83 : decode cX2_tellOn 83 = .ok (.invokevirtual 109, 3) := by decide +kernel
theorem dX2_tellOn_86 : decode cX2_tellOn 86 = .ok (.iinc 3 1, 3) := by decide +kernel
theorem dX2_tellOn_89 : decode cX2_tellOn 89 = .ok (.goto (-39), 3) := by decide +kernel
theorem dX2_tellOn_92 : decode cX2_tellOn 92 = .ok (.iinc 2 1, 3) := by decide +kernel
theorem dX2_tellOn_95 : decode cX2_tellOn 95 = .ok (.goto (-55), 3) := by decide +kernel
theorem dX2_tellOn_98 : decode cX2_tellOn 98 = .ok (.return_, 1) := by decide +kernel
theorem dX2_chat_0 : decode cX2_chat 0 = .ok (.iconst 0, 1) := by decide +kernel
theorem dX2_chat_1 : decode cX2_chat 1 = .ok (.istore_n 3, 1) := by decide +kernel
theorem dX2_chat_2 : decode cX2_chat 2 = .ok (.iload_n 3, 1) := by decide +kernel
theorem dX2_chat_3 : decode cX2_chat 3 = .ok (.aload_n 1, 1) := by decide +kernel
theorem dX2_chat_4 : decode cX2_chat 4 = .ok (.getfield 31, 3) := by decide +kernel
theorem dX2_chat_7 : decode cX2_chat 7 = .ok (.if_icmp .ge 60, 3) := by decide +kernel
theorem dX2_chat_10 : decode cX2_chat 10 = .ok (.aload_n 0, 1) := by decide +kernel
theorem dX2_chat_11 : decode cX2_chat 11 = .ok (.iload_n 2, 1) := by decide +kernel
theorem dX2_chat_12 : decode cX2_chat 12 = .ok (.iload_n 3, 1) := by decide +kernel
theorem dX2_chat_13 : decode cX2_chat 13 = .ok (.invokevirtual 89, 3) := by decide +kernel
theorem dX2_chat_16 : decode cX2_chat 16 = .ok (.ifCond .eq 21, 3) := by decide +kernel
theorem dX2_chat_19 : decode cX2_chat 19 = .ok (.aload_n 1, 1) := by decide +kernel
theorem dX2_chat_20 : decode cX2_chat 20 = .ok (.getfield 112, 3) := by decide +kernel
theorem dX2_chat_23 : decode cX2_chat 23 = .ok (.iload_n 2, 1) := by decide +kernel
theorem dX2_chat_24 : decode cX2_chat 24 = .ok (.iaload, 1) := by decide +kernel
theorem dX2_chat_25 : decode cX2_chat 25 = .ok (.aload_n 0, 1) := by decide +kernel
theorem dX2_chat_26 : decode cX2_chat 26 = .ok (.getfield 9, 3) := by decide +kernel
theorem dX2_chat_29 : decode cX2_chat 29 = .ok (.iload_n 3, 1) := by decide +kernel
theorem dX2_chat_30 : decode cX2_chat 30 = .ok (.iaload, 1) := by decide +kernel
theorem dX2_chat_31 : decode cX2_chat 31 = .ok (.iconst (-1), 1) := by decide +kernel
theorem dX2_chat_32 : decode cX2_chat 32 = .ok (.ixor, 1) := by decide +kernel
theorem dX2_chat_33 : decode cX2_chat 33 = .ok (.iand, 1) := by decide +kernel
theorem dX2_chat_34 : decode cX2_chat 34 = .ok (.goto 4, 3) := by decide +kernel
theorem dX2_chat_37 : decode cX2_chat 37 = .ok (.iconst 0, 1) := by decide +kernel
theorem dX2_chat_38 : decode cX2_chat 38 = .ok (.istore 4, 2) := by decide +kernel
theorem dX2_chat_40 : decode cX2_chat 40 = .ok (.iload 4, 2) := by decide +kernel
theorem dX2_chat_42 : decode cX2_chat 42 = .ok (.ifCond .eq 19, 3) := by decide +kernel
theorem dX2_chat_45 : decode cX2_chat 45 = .ok (.aload_n 0, 1) := by decide +kernel
theorem dX2_chat_46 : decode cX2_chat 46 = .ok (.getfield 15, 3) := by decide +kernel
theorem dX2_chat_49 : decode cX2_chat 49 = .ok (.iload_n 3, 1) := by decide +kernel
theorem dX2_chat_50 : decode cX2_chat 50 = .ok (.dup2, 1) := by decide +kernel
theorem dX2_chat_51 : decode cX2_chat 51 = .ok (.iaload, 1) := by decide +kernel
theorem dX2_chat_52 : decode cX2_chat 52 = .ok (.iload 4, 2) := by decide +kernel
theorem dX2_chat_54 : decode cX2_chat 54 = .ok (.iload 4, 2) := by decide +kernel
theorem dX2_chat_56 : decode cX2_chat 56 = .ok (.ineg, 1) := by decide +kernel
theorem dX2_chat_57 : decode cX2_chat 57 = .ok (.iand, 1) := by decide +kernel
theorem dX2_chat_58 : decode cX2_chat 58 = .ok (.ior, 1) := by decide +kernel
theorem dX2_chat_59 : decode cX2_chat 59 = .ok (.iastore, 1) := by decide +kernel
theorem dX2_chat_60 : decode cX2_chat 60 = .ok (.return_, 1) := by decide +kernel
theorem dX2_chat_61 : decode cX2_chat 61 = .ok (.iinc 3 1, 3) := by decide +kernel
theorem dX2_chat_64 : decode cX2_chat 64 = .ok (.goto (-62), 3) := by decide +kernel
theorem dX2_chat_67 : decode cX2_chat 67 = .ok (.return_, 1) := by decide +kernel
theorem dX2_changeByDraws_0 : decode cX2_changeByDraws 0 = .ok (.aload_n 0, 1) := by decide +kernel
theorem dX2_changeByDraws_1 : decode cX2_changeByDraws 1 = .ok (.aload_n 1, 1) := by decide +kernel
theorem dX2_changeByDraws_2 : decode cX2_changeByDraws 2 = .ok (.getfield 73, 3) := by decide +kernel
theorem dX2_changeByDraws_5 : decode cX2_changeByDraws 5 = .ok (.invokevirtual 115, 3) := by decide +kernel
theorem dX2_changeByDraws_8 : decode cX2_changeByDraws 8 = .ok (.istore_n 2, 1) := by decide +kernel
theorem dX2_changeByDraws_9 : decode cX2_changeByDraws 9 = .ok (.aload_n 1, 1) := by decide +kernel
theorem dX2_changeByDraws_10 : decode cX2_changeByDraws 10 = .ok (.getfield 31, 3) := by decide +kernel
theorem dX2_changeByDraws_13 : decode cX2_changeByDraws 13 = .ok (.ifCond .ne 4, 3) := by decide +kernel
theorem dX2_changeByDraws_16 : decode cX2_changeByDraws 16 = .ok (.return_, 1) := by decide +kernel
theorem dX2_changeByDraws_17 : decode cX2_changeByDraws 17 = .ok (.aload_n 0, 1) := by decide +kernel
theorem dX2_changeByDraws_18 : decode cX2_changeByDraws 18 = .ok (.aload_n 1, 1) := by decide +kernel
theorem dX2_changeByDraws_19 : decode cX2_changeByDraws 19 = .ok (.getfield 31, 3) := by decide +kernel
theorem dX2_changeByDraws_22 : decode cX2_changeByDraws 22 = .ok (.invokevirtual 115, 3) := by decide +kernel
theorem dX2_changeByDraws_25 : decode cX2_changeByDraws 25 = .ok (.istore_n 3, 1) := by decide +kernel
theorem dX2_changeByDraws_26 : decode cX2_changeByDraws 26 = .ok (.aload_n 0, 1) := by decide +kernel
theorem dX2_changeByDraws_27 : decode cX2_changeByDraws 27 = .ok (.iload_n 2, 1) := by decide +kernel
theorem dX2_changeByDraws_28 : decode cX2_changeByDraws 28 = .ok (.iload_n 3, 1) := by decide +kernel
theorem dX2_changeByDraws_29 : decode cX2_changeByDraws 29 = .ok (.invokevirtual 89, 3) := by decide +kernel
theorem dX2_changeByDraws_32 : decode cX2_changeByDraws 32 = .ok (.ifCond .eq 12, 3) := by decide +kernel
theorem dX2_changeByDraws_35 : decode cX2_changeByDraws 35 = .ok (.aload_n 0, 1) := by decide +kernel
theorem dX2_changeByDraws_36 : decode cX2_changeByDraws 36 = .ok (.iload_n 2, 1) := by decide +kernel
theorem dX2_changeByDraws_37 : decode cX2_changeByDraws 37 = .ok (.iload_n 3, 1) := by decide +kernel
theorem dX2_changeByDraws_38 : decode cX2_changeByDraws 38 = .ok (.invokevirtual 97, 3) := by decide +kernel
theorem dX2_changeByDraws_41 : decode cX2_changeByDraws 41 = .ok (.goto 9, 3) := by decide +kernel
theorem dX2_changeByDraws_44 : decode cX2_changeByDraws 44 = .ok (.aload_n 0, 1) := by decide +kernel
theorem dX2_changeByDraws_45 : decode cX2_changeByDraws 45 = .ok (.iload_n 2, 1) := by decide +kernel
theorem dX2_changeByDraws_46 : decode cX2_changeByDraws 46 = .ok (.iload_n 3, 1) := by decide +kernel
theorem dX2_changeByDraws_47 : decode cX2_changeByDraws 47 = .ok (.invokevirtual 109, 3) := by decide +kernel
theorem dX2_changeByDraws_50 : decode cX2_changeByDraws 50 = .ok (.return_, 1) := by decide +kernel
theorem dX2_drawOf_0 : decode cX2_drawOf 0 = .ok (.aload_n 0, 1) := by decide +kernel
theorem dX2_drawOf_1 : decode cX2_drawOf 1 = .ok (.aload_n 0, 1) := by decide +kernel
theorem dX2_drawOf_2 : decode cX2_drawOf 2 = .ok (.getfield 39, 3) := by decide +kernel
theorem dX2_drawOf_5 : decode cX2_drawOf 5 = .ok (.i2l, 1) := by decide +kernel
theorem dX2_drawOf_6 : decode cX2_drawOf 6 = .ok (.ldc2_w 118, 3) := by decide +kernel
theorem dX2_drawOf_9 : decode cX2_drawOf 9 = .ok (.lmul, 1) := by decide +kernel
theorem dX2_drawOf_10 : decode cX2_drawOf 10 = .ok (.ldc2_w 120, 3) := by decide +kernel
theorem dX2_drawOf_13 : decode cX2_drawOf 13 = .ok (.ladd, 1) := by decide +kernel
theorem dX2_drawOf_14 : decode cX2_drawOf 14 = .ok (.ldc2_w 122, 3) := by decide +kernel
theorem dX2_drawOf_17 : decode cX2_drawOf 17 = .ok (.land, 1) := by decide +kernel
theorem dX2_drawOf_18 : decode cX2_drawOf 18 = .ok (.l2i, 1) := by decide +kernel
theorem dX2_drawOf_19 : decode cX2_drawOf 19 = .ok (.putfield 39, 3) := by decide +kernel
theorem dX2_drawOf_22 : decode cX2_drawOf 22 = .ok (.iload_n 1, 1) := by decide +kernel
theorem dX2_drawOf_23 : decode cX2_drawOf 23 = .ok (.ifCond .le 15, 3) := by decide +kernel
theorem dX2_drawOf_26 : decode cX2_drawOf 26 = .ok (.aload_n 0, 1) := by decide +kernel
theorem dX2_drawOf_27 : decode cX2_drawOf 27 = .ok (.getfield 39, 3) := by decide +kernel
theorem dX2_drawOf_30 : decode cX2_drawOf 30 = .ok (.ldc 124, 2) := by decide +kernel
theorem dX2_drawOf_32 : decode cX2_drawOf 32 = .ok (.idiv, 1) := by decide +kernel
theorem dX2_drawOf_33 : decode cX2_drawOf 33 = .ok (.iload_n 1, 1) := by decide +kernel
theorem dX2_drawOf_34 : decode cX2_drawOf 34 = .ok (.irem, 1) := by decide +kernel
theorem dX2_drawOf_35 : decode cX2_drawOf 35 = .ok (.goto 4, 3) := by decide +kernel
theorem dX2_drawOf_38 : decode cX2_drawOf 38 = .ok (.iconst 0, 1) := by decide +kernel
theorem dX2_drawOf_39 : decode cX2_drawOf 39 = .ok (.ireturn, 1) := by decide +kernel
theorem dX3_init_0 : decode cX3_init 0 = .ok (.aload_n 0, 1) := by decide +kernel
theorem dX3_init_1 : decode cX3_init 1 = .ok (.invokespecial 3, 3) := by decide +kernel
theorem dX3_init_4 : decode cX3_init 4 = .ok (.aload_n 0, 1) := by decide +kernel
theorem dX3_init_5 : decode cX3_init 5 = .ok (.bipush 8, 2) := by decide +kernel
theorem dX3_init_7 : decode cX3_init 7 = .ok (.newarray .int, 2) := by decide +kernel
theorem dX3_init_9 : decode cX3_init 9 = .ok (.putfield 9, 3) := by decide +kernel
theorem dX3_init_12 : decode cX3_init 12 = .ok (.aload_n 0, 1) := by decide +kernel
theorem dX3_init_13 : decode cX3_init 13 = .ok (.bipush 8, 2) := by decide +kernel
theorem dX3_init_15 : decode cX3_init 15 = .ok (.newarray .int, 2) := by decide +kernel
theorem dX3_init_17 : decode cX3_init 17 = .ok (.putfield 15, 3) := by decide +kernel
theorem dX3_init_20 : decode cX3_init 20 = .ok (.aload_n 0, 1) := by decide +kernel
theorem dX3_init_21 : decode cX3_init 21 = .ok (.bipush 8, 2) := by decide +kernel
theorem dX3_init_23 : decode cX3_init 23 = .ok (.newarray .int, 2) := by decide +kernel
theorem dX3_init_25 : decode cX3_init 25 = .ok (.putfield 18, 3) := by decide +kernel
theorem dX3_init_28 : decode cX3_init 28 = .ok (.aload_n 0, 1) := by decide +kernel
theorem dX3_init_29 : decode cX3_init 29 = .ok (.bipush 7, 2) := by decide +kernel
theorem dX3_init_31 : decode cX3_init 31 = .ok (.newarray .int, 2) := by decide +kernel
theorem dX3_init_33 : decode cX3_init 33 = .ok (.putfield 21, 3) := by decide +kernel
theorem dX3_init_36 : decode cX3_init 36 = .ok (.aload_n 0, 1) := by decide +kernel
theorem dX3_init_37 : decode cX3_init 37 = .ok (.bipush 7, 2) := by decide +kernel
theorem dX3_init_39 : decode cX3_init 39 = .ok (.newarray .int, 2) := by decide +kernel
theorem dX3_init_41 : decode cX3_init 41 = .ok (.putfield 24, 3) := by decide +kernel
theorem dX3_init_44 : decode cX3_init 44 = .ok (.aload_n 0, 1) := by decide +kernel
theorem dX3_init_45 : decode cX3_init 45 = .ok (.bipush 12, 2) := by decide +kernel
theorem dX3_init_47 : decode cX3_init 47 = .ok (.newarray .int, 2) := by decide +kernel
theorem dX3_init_49 : decode cX3_init 49 = .ok (.putfield 27, 3) := by decide +kernel
theorem dX3_init_52 : decode cX3_init 52 = .ok (.aload_n 0, 1) := by decide +kernel
theorem dX3_init_53 : decode cX3_init 53 = .ok (.bipush 12, 2) := by decide +kernel
theorem dX3_init_55 : decode cX3_init 55 = .ok (.newarray .int, 2) := by decide +kernel
theorem dX3_init_57 : decode cX3_init 57 = .ok (.putfield 30, 3) := by decide +kernel
theorem dX3_init_60 : decode cX3_init 60 = .ok (.aload_n 0, 1) := by decide +kernel
theorem dX3_init_61 : decode cX3_init 61 = .ok (.iconst 4, 1) := by decide +kernel
theorem dX3_init_62 : decode cX3_init 62 = .ok (.newarray .int, 2) := by decide +kernel
theorem dX3_init_64 : decode cX3_init 64 = .ok (.putfield 33, 3) := by decide +kernel
theorem dX3_init_67 : decode cX3_init 67 = .ok (.return_, 1) := by decide +kernel
theorem dX3_clear_0 : decode cX3_clear 0 = .ok (.aload_n 0, 1) := by decide +kernel
theorem dX3_clear_1 : decode cX3_clear 1 = .ok (.iconst 0, 1) := by decide +kernel
theorem dX3_clear_2 : decode cX3_clear 2 = .ok (.putfield 36, 3) := by decide +kernel
theorem dX3_clear_5 : decode cX3_clear 5 = .ok (.aload_n 0, 1) := by decide +kernel
theorem dX3_clear_6 : decode cX3_clear 6 = .ok (.iconst 0, 1) := by decide +kernel
theorem dX3_clear_7 : decode cX3_clear 7 = .ok (.putfield 40, 3) := by decide +kernel
theorem dX3_clear_10 : decode cX3_clear 10 = .ok (.aload_n 0, 1) := by decide +kernel
theorem dX3_clear_11 : decode cX3_clear 11 = .ok (.iconst 0, 1) := by decide +kernel
theorem dX3_clear_12 : decode cX3_clear 12 = .ok (.putfield 43, 3) := by decide +kernel
theorem dX3_clear_15 : decode cX3_clear 15 = .ok (.aload_n 0, 1) := by decide +kernel
theorem dX3_clear_16 : decode cX3_clear 16 = .ok (.iconst 0, 1) := by decide +kernel
theorem dX3_clear_17 : decode cX3_clear 17 = .ok (.putfield 46, 3) := by decide +kernel
theorem dX3_clear_20 : decode cX3_clear 20 = .ok (.aload_n 0, 1) := by decide +kernel
theorem dX3_clear_21 : decode cX3_clear 21 = .ok (.iconst 0, 1) := by decide +kernel
theorem dX3_clear_22 : decode cX3_clear 22 = .ok (.putfield 49, 3) := by decide +kernel
theorem dX3_clear_25 : decode cX3_clear 25 = .ok (.aload_n 0, 1) := by decide +kernel
theorem dX3_clear_26 : decode cX3_clear 26 = .ok (.iconst 0, 1) := by decide +kernel
theorem dX3_clear_27 : decode cX3_clear 27 = .ok (.putfield 52, 3) := by decide +kernel
theorem dX3_clear_30 : decode cX3_clear 30 = .ok (.aload_n 0, 1) := by decide +kernel
theorem dX3_clear_31 : decode cX3_clear 31 = .ok (.iconst 0, 1) := by decide +kernel
theorem dX3_clear_32 : decode cX3_clear 32 = .ok (.putfield 55, 3) := by decide +kernel
theorem dX3_clear_35 : decode cX3_clear 35 = .ok (.aload_n 0, 1) := by decide +kernel
theorem dX3_clear_36 : decode cX3_clear 36 = .ok (.iconst 0, 1) := by decide +kernel
theorem dX3_clear_37 : decode cX3_clear 37 = .ok (.putfield 58, 3) := by decide +kernel
theorem dX3_clear_40 : decode cX3_clear 40 = .ok (.aload_n 0, 1) := by decide +kernel
theorem dX3_clear_41 : decode cX3_clear 41 = .ok (.getfield 18, 3) := by decide +kernel
theorem dX3_clear_44 : decode cX3_clear 44 = .ok (.iconst 0, 1) := by decide +kernel
theorem dX3_clear_45 : decode cX3_clear 45 = .ok (.invokestatic 61, 3) := by decide +kernel
theorem dX3_clear_48 : decode cX3_clear 48 = .ok (.aload_n 0, 1) := by decide +kernel
theorem dX3_clear_49 : decode cX3_clear 49 = .ok (.getfield 21, 3) := by decide +kernel
theorem dX3_clear_52 : decode cX3_clear 52 = .ok (.iconst 0, 1) := by decide +kernel
theorem dX3_clear_53 : decode cX3_clear 53 = .ok (.invokestatic 61, 3) := by decide +kernel
theorem dX3_clear_56 : decode cX3_clear 56 = .ok (.aload_n 0, 1) := by decide +kernel
theorem dX3_clear_57 : decode cX3_clear 57 = .ok (.getfield 24, 3) := by decide +kernel
theorem dX3_clear_60 : decode cX3_clear 60 = .ok (.iconst 0, 1) := by decide +kernel
theorem dX3_clear_61 : decode cX3_clear 61 = .ok (.invokestatic 61, 3) := by decide +kernel
theorem dX3_clear_64 : decode cX3_clear 64 = .ok (.return_, 1) := by decide +kernel
theorem dX3_hasPerson_0 : decode cX3_hasPerson 0 = .ok (.iload_n 1, 1) := by decide +kernel
theorem dX3_hasPerson_1 : decode cX3_hasPerson 1 = .ok (.ifCond .lt 15, 3) := by decide +kernel
theorem dX3_hasPerson_4 : decode cX3_hasPerson 4 = .ok (.iload_n 1, 1) := by decide +kernel
theorem dX3_hasPerson_5 : decode cX3_hasPerson 5 = .ok (.aload_n 0, 1) := by decide +kernel
theorem dX3_hasPerson_6 : decode cX3_hasPerson 6 = .ok (.getfield 36, 3) := by decide +kernel
theorem dX3_hasPerson_9 : decode cX3_hasPerson 9 = .ok (.if_icmp .ge 7, 3) := by decide +kernel
theorem dX3_hasPerson_12 : decode cX3_hasPerson 12 = .ok (.iconst 1, 1) := by decide +kernel
theorem dX3_hasPerson_13 : decode cX3_hasPerson 13 = .ok (.goto 4, 3) := by decide +kernel
theorem dX3_hasPerson_16 : decode cX3_hasPerson 16 = .ok (.iconst 0, 1) := by decide +kernel
theorem dX3_hasPerson_17 : decode cX3_hasPerson 17 = .ok (.ireturn, 1) := by decide +kernel
theorem dX3_hasPeople_0 : decode cX3_hasPeople 0 = .ok (.iload_n 1, 1) := by decide +kernel
theorem dX3_hasPeople_1 : decode cX3_hasPeople 1 = .ok (.aload_n 0, 1) := by decide +kernel
theorem dX3_hasPeople_2 : decode cX3_hasPeople 2 = .ok (.invokevirtual 67, 3) := by decide +kernel
theorem dX3_hasPeople_5 : decode cX3_hasPeople 5 = .ok (.iconst (-1), 1) := by decide +kernel
theorem dX3_hasPeople_6 : decode cX3_hasPeople 6 = .ok (.ixor, 1) := by decide +kernel
theorem dX3_hasPeople_7 : decode cX3_hasPeople 7 = .ok (.iand, 1) := by decide +kernel
theorem dX3_hasPeople_8 : decode cX3_hasPeople 8 = .ok (.ifCond .ne 7, 3) := by decide +kernel
theorem dX3_hasPeople_11 : decode cX3_hasPeople 11 = .ok (.iconst 1, 1) := by decide +kernel
theorem dX3_hasPeople_12 : decode cX3_hasPeople 12 = .ok (.goto 4, 3) := by decide +kernel
theorem dX3_hasPeople_15 : decode cX3_hasPeople 15 = .ok (.iconst 0, 1) := by decide +kernel
theorem dX3_hasPeople_16 : decode cX3_hasPeople 16 = .ok (.ireturn, 1) := by decide +kernel
theorem dX3_hasFact_0 : decode cX3_hasFact 0 = .ok (.iload_n 1, 1) := by decide +kernel
theorem dX3_hasFact_1 : decode cX3_hasFact 1 = .ok (.ifCond .lt 15, 3) := by decide +kernel
theorem dX3_hasFact_4 : decode cX3_hasFact 4 = .ok (.iload_n 1, 1) := by decide +kernel
theorem dX3_hasFact_5 : decode cX3_hasFact 5 = .ok (.aload_n 0, 1) := by decide +kernel
theorem dX3_hasFact_6 : decode cX3_hasFact 6 = .ok (.getfield 40, 3) := by decide +kernel
theorem dX3_hasFact_9 : decode cX3_hasFact 9 = .ok (.if_icmp .ge 7, 3) := by decide +kernel
theorem dX3_hasFact_12 : decode cX3_hasFact 12 = .ok (.iconst 1, 1) := by decide +kernel
theorem dX3_hasFact_13 : decode cX3_hasFact 13 = .ok (.goto 4, 3) := by decide +kernel
theorem dX3_hasFact_16 : decode cX3_hasFact 16 = .ok (.iconst 0, 1) := by decide +kernel
theorem dX3_hasFact_17 : decode cX3_hasFact 17 = .ok (.ireturn, 1) := by decide +kernel
theorem dX3_hasFactOrNone_0 : decode cX3_hasFactOrNone 0 = .ok (.iload_n 1, 1) := by decide +kernel
theorem dX3_hasFactOrNone_1 : decode cX3_hasFactOrNone 1 = .ok (.iconst (-1), 1) := by decide +kernel
theorem dX3_hasFactOrNone_2 : decode cX3_hasFactOrNone 2 = .ok (.if_icmp .eq 11, 3) := by decide +kernel
theorem dX3_hasFactOrNone_5 : decode cX3_hasFactOrNone 5 = .ok (.aload_n 0, 1) := by decide +kernel
theorem dX3_hasFactOrNone_6 : decode cX3_hasFactOrNone 6 = .ok (.iload_n 1, 1) := by decide +kernel
theorem dX3_hasFactOrNone_7 : decode cX3_hasFactOrNone 7 = .ok (.invokevirtual 71, 3) := by decide +kernel
theorem dX3_hasFactOrNone_10 : decode cX3_hasFactOrNone 10 = .ok (.ifCond .eq 7, 3) := by decide +kernel
theorem dX3_hasFactOrNone_13 : decode cX3_hasFactOrNone 13 = .ok (.iconst 1, 1) := by decide +kernel
theorem dX3_hasFactOrNone_14 : decode cX3_hasFactOrNone 14 = .ok (.goto 4, 3) := by decide +kernel
theorem dX3_hasFactOrNone_17 : decode cX3_hasFactOrNone 17 = .ok (.iconst 0, 1) := by decide +kernel
theorem dX3_hasFactOrNone_18 : decode cX3_hasFactOrNone 18 = .ok (.ireturn, 1) := by decide +kernel
theorem dX3_hasBridge_0 : decode cX3_hasBridge 0 = .ok (.iload_n 1, 1) := by decide +kernel
theorem dX3_hasBridge_1 : decode cX3_hasBridge 1 = .ok (.ifCond .lt 15, 3) := by decide +kernel
theorem dX3_hasBridge_4 : decode cX3_hasBridge 4 = .ok (.iload_n 1, 1) := by decide +kernel
theorem dX3_hasBridge_5 : decode cX3_hasBridge 5 = .ok (.aload_n 0, 1) := by decide +kernel
theorem dX3_hasBridge_6 : decode cX3_hasBridge 6 = .ok (.getfield 46, 3) := by decide +kernel
theorem dX3_hasBridge_9 : decode cX3_hasBridge 9 = .ok (.if_icmp .ge 7, 3) := by decide +kernel
theorem dX3_hasBridge_12 : decode cX3_hasBridge 12 = .ok (.iconst 1, 1) := by decide +kernel
theorem dX3_hasBridge_13 : decode cX3_hasBridge 13 = .ok (.goto 4, 3) := by decide +kernel
theorem dX3_hasBridge_16 : decode cX3_hasBridge 16 = .ok (.iconst 0, 1) := by decide +kernel
theorem dX3_hasBridge_17 : decode cX3_hasBridge 17 = .ok (.ireturn, 1) := by decide +kernel
theorem dX3_everybody_0 : decode cX3_everybody 0 = .ok (.iconst 1, 1) := by decide +kernel
theorem dX3_everybody_1 : decode cX3_everybody 1 = .ok (.aload_n 0, 1) := by decide +kernel
theorem dX3_everybody_2 : decode cX3_everybody 2 = .ok (.getfield 36, 3) := by decide +kernel
theorem dX3_everybody_5 : decode cX3_everybody 5 = .ok (.ishl, 1) := by decide +kernel
theorem dX3_everybody_6 : decode cX3_everybody 6 = .ok (.iconst 1, 1) := by decide +kernel
theorem dX3_everybody_7 : decode cX3_everybody 7 = .ok (.isub, 1) := by decide +kernel
theorem dX3_everybody_8 : decode cX3_everybody 8 = .ok (.ireturn, 1) := by decide +kernel
theorem dX3_isLie_0 : decode cX3_isLie 0 = .ok (.aload_n 0, 1) := by decide +kernel
theorem dX3_isLie_1 : decode cX3_isLie 1 = .ok (.getfield 55, 3) := by decide +kernel
theorem dX3_isLie_4 : decode cX3_isLie 4 = .ok (.iload_n 1, 1) := by decide +kernel
theorem dX3_isLie_5 : decode cX3_isLie 5 = .ok (.ishr, 1) := by decide +kernel
theorem dX3_isLie_6 : decode cX3_isLie 6 = .ok (.iconst 1, 1) := by decide +kernel
theorem dX3_isLie_7 : decode cX3_isLie 7 = .ok (.iand, 1) := by decide +kernel
theorem dX3_isLie_8 : decode cX3_isLie 8 = .ok (.ifCond .eq 7, 3) := by decide +kernel
theorem dX3_isLie_11 : decode cX3_isLie 11 = .ok (.iconst 1, 1) := by decide +kernel
theorem dX3_isLie_12 : decode cX3_isLie 12 = .ok (.goto 4, 3) := by decide +kernel
theorem dX3_isLie_15 : decode cX3_isLie 15 = .ok (.iconst 0, 1) := by decide +kernel
theorem dX3_isLie_16 : decode cX3_isLie 16 = .ok (.ireturn, 1) := by decide +kernel
theorem dX3_isQuiet_0 : decode cX3_isQuiet 0 = .ok (.aload_n 0, 1) := by decide +kernel
theorem dX3_isQuiet_1 : decode cX3_isQuiet 1 = .ok (.getfield 52, 3) := by decide +kernel
theorem dX3_isQuiet_4 : decode cX3_isQuiet 4 = .ok (.iload_n 1, 1) := by decide +kernel
theorem dX3_isQuiet_5 : decode cX3_isQuiet 5 = .ok (.ishr, 1) := by decide +kernel
theorem dX3_isQuiet_6 : decode cX3_isQuiet 6 = .ok (.iconst 1, 1) := by decide +kernel
theorem dX3_isQuiet_7 : decode cX3_isQuiet 7 = .ok (.iand, 1) := by decide +kernel
theorem dX3_isQuiet_8 : decode cX3_isQuiet 8 = .ok (.ifCond .eq 7, 3) := by decide +kernel
theorem dX3_isQuiet_11 : decode cX3_isQuiet 11 = .ok (.iconst 1, 1) := by decide +kernel
theorem dX3_isQuiet_12 : decode cX3_isQuiet 12 = .ok (.goto 4, 3) := by decide +kernel
theorem dX3_isQuiet_15 : decode cX3_isQuiet 15 = .ok (.iconst 0, 1) := by decide +kernel
theorem dX3_isQuiet_16 : decode cX3_isQuiet 16 = .ok (.ireturn, 1) := by decide +kernel
theorem dX3_pull_0 : decode cX3_pull 0 = .ok (.aload_n 0, 1) := by decide +kernel
theorem dX3_pull_1 : decode cX3_pull 1 = .ok (.iload_n 1, 1) := by decide +kernel
theorem dX3_pull_2 : decode cX3_pull 2 = .ok (.invokevirtual 75, 3) := by decide +kernel
theorem dX3_pull_5 : decode cX3_pull 5 = .ok (.ifCond .eq 13, 3) := by decide +kernel
theorem dX3_pull_8 : decode cX3_pull 8 = .ok (.aload_n 0, 1) := by decide +kernel
theorem dX3_pull_9 : decode cX3_pull 9 = .ok (.getfield 15, 3) := by decide +kernel
theorem dX3_pull_12 : decode cX3_pull 12 = .ok (.iload_n 1, 1) := by decide +kernel
theorem dX3_pull_13 : decode cX3_pull 13 = .ok (.iaload, 1) := by decide +kernel
theorem dX3_pull_14 : decode cX3_pull 14 = .ok (.ineg, 1) := by decide +kernel
theorem dX3_pull_15 : decode cX3_pull 15 = .ok (.goto 9, 3) := by decide +kernel
theorem dX3_pull_18 : decode cX3_pull 18 = .ok (.aload_n 0, 1) := by decide +kernel
theorem dX3_pull_19 : decode cX3_pull 19 = .ok (.getfield 15, 3) := by decide +kernel
theorem dX3_pull_22 : decode cX3_pull 22 = .ok (.iload_n 1, 1) := by decide +kernel
theorem dX3_pull_23 : decode cX3_pull 23 = .ok (.iaload, 1) := by decide +kernel
theorem dX3_pull_24 : decode cX3_pull 24 = .ok (.ireturn, 1) := by decide +kernel
theorem dX3_addFact_0 : decode cX3_addFact 0 = .ok (.aload_n 0, 1) := by decide +kernel
theorem dX3_addFact_1 : decode cX3_addFact 1 = .ok (.getfield 9, 3) := by decide +kernel
theorem dX3_addFact_4 : decode cX3_addFact 4 = .ok (.aload_n 0, 1) := by decide +kernel
theorem dX3_addFact_5 : decode cX3_addFact 5 = .ok (.getfield 40, 3) := by decide +kernel
theorem dX3_addFact_8 : decode cX3_addFact 8 = .ok (.iload_n 1, 1) := by decide +kernel
theorem dX3_addFact_9 : decode cX3_addFact 9 = .ok (.iastore, 1) := by decide +kernel
theorem dX3_addFact_10 : decode cX3_addFact 10 = .ok (.aload_n 0, 1) := by decide +kernel
theorem dX3_addFact_11 : decode cX3_addFact 11 = .ok (.getfield 15, 3) := by decide +kernel
theorem dX3_addFact_14 : decode cX3_addFact 14 = .ok (.aload_n 0, 1) := by decide +kernel
theorem dX3_addFact_15 : decode cX3_addFact 15 = .ok (.getfield 40, 3) := by decide +kernel
theorem dX3_addFact_18 : decode cX3_addFact 18 = .ok (.iload_n 2, 1) := by decide +kernel
theorem dX3_addFact_19 : decode cX3_addFact 19 = .ok (.iastore, 1) := by decide +kernel
theorem dX3_addFact_20 : decode cX3_addFact 20 = .ok (.aload_n 0, 1) := by decide +kernel
theorem dX3_addFact_21 : decode cX3_addFact 21 = .ok (.getfield 21, 3) := by decide +kernel
theorem dX3_addFact_24 : decode cX3_addFact 24 = .ok (.iload_n 1, 1) := by decide +kernel
theorem dX3_addFact_25 : decode cX3_addFact 25 = .ok (.dup2, 1) := by decide +kernel
theorem dX3_addFact_26 : decode cX3_addFact 26 = .ok (.iaload, 1) := by decide +kernel
theorem dX3_addFact_27 : decode cX3_addFact 27 = .ok (.iconst 1, 1) := by decide +kernel
theorem dX3_addFact_28 : decode cX3_addFact 28 = .ok (.aload_n 0, 1) := by decide +kernel
theorem dX3_addFact_29 : decode cX3_addFact 29 = .ok (.getfield 40, 3) := by decide +kernel
theorem dX3_addFact_32 : decode cX3_addFact 32 = .ok (.ishl, 1) := by decide +kernel
theorem dX3_addFact_33 : decode cX3_addFact 33 = .ok (.ior, 1) := by decide +kernel
theorem dX3_addFact_34 : decode cX3_addFact 34 = .ok (.iastore, 1) := by decide +kernel
theorem dX3_addFact_35 : decode cX3_addFact 35 = .ok (.aload_n 0, 1) := by decide +kernel
theorem dX3_addFact_36 : decode cX3_addFact 36 = .ok (.dup, 1) := by decide +kernel
theorem dX3_addFact_37 : decode cX3_addFact 37 = .ok (.getfield 55, 3) := by decide +kernel
theorem dX3_addFact_40 : decode cX3_addFact 40 = .ok (.iload_n 3, 1) := by decide +kernel
theorem dX3_addFact_41 : decode cX3_addFact 41 = .ok (.aload_n 0, 1) := by decide +kernel
theorem dX3_addFact_42 : decode cX3_addFact 42 = .ok (.getfield 40, 3) := by decide +kernel
theorem dX3_addFact_45 : decode cX3_addFact 45 = .ok (.ishl, 1) := by decide +kernel
theorem dX3_addFact_46 : decode cX3_addFact 46 = .ok (.ior, 1) := by decide +kernel
theorem dX3_addFact_47 : decode cX3_addFact 47 = .ok (.putfield 55, 3) := by decide +kernel
theorem dX3_addFact_50 : decode cX3_addFact 50 = .ok (.aload_n 0, 1) := by decide +kernel
theorem dX3_addFact_51 : decode cX3_addFact 51 = .ok (.dup, 1) := by decide +kernel
theorem dX3_addFact_52 : decode cX3_addFact 52 = .ok (.getfield 40, 3) := by decide +kernel
theorem dX3_addFact_55 : decode cX3_addFact 55 = .ok (.iconst 1, 1) := by decide +kernel
theorem dX3_addFact_56 : decode cX3_addFact 56 = .ok (.iadd, 1) := by decide +kernel
theorem dX3_addFact_57 : decode cX3_addFact 57 = .ok (.putfield 40, 3) := by decide +kernel
theorem dX3_addFact_60 : decode cX3_addFact 60 = .ok (.return_, 1) := by decide +kernel
theorem dX3_addFriendship_0 : decode cX3_addFriendship 0 = .ok (.aload_n 0, 1) := by decide +kernel
theorem dX3_addFriendship_1 : decode cX3_addFriendship 1 = .ok (.getfield 27, 3) := by decide +kernel
theorem dX3_addFriendship_4 : decode cX3_addFriendship 4 = .ok (.aload_n 0, 1) := by decide +kernel
theorem dX3_addFriendship_5 : decode cX3_addFriendship 5 = .ok (.getfield 43, 3) := by decide +kernel
theorem dX3_addFriendship_8 : decode cX3_addFriendship 8 = .ok (.iload_n 1, 1) := by decide +kernel
theorem dX3_addFriendship_9 : decode cX3_addFriendship 9 = .ok (.iastore, 1) := by decide +kernel
theorem dX3_addFriendship_10 : decode cX3_addFriendship 10 = .ok (.aload_n 0, 1) := by decide +kernel
theorem dX3_addFriendship_11 : decode cX3_addFriendship 11 = .ok (.getfield 30, 3) := by decide +kernel
theorem dX3_addFriendship_14 : decode cX3_addFriendship 14 = .ok (.aload_n 0, 1) := by decide +kernel
theorem dX3_addFriendship_15 : decode cX3_addFriendship 15 = .ok (.getfield 43, 3) := by decide +kernel
theorem dX3_addFriendship_18 : decode cX3_addFriendship 18 = .ok (.iload_n 2, 1) := by decide +kernel
theorem dX3_addFriendship_19 : decode cX3_addFriendship 19 = .ok (.iastore, 1) := by decide +kernel
theorem dX3_addFriendship_20 : decode cX3_addFriendship 20 = .ok (.aload_n 0, 1) := by decide +kernel
theorem dX3_addFriendship_21 : decode cX3_addFriendship 21 = .ok (.getfield 24, 3) := by decide +kernel
theorem dX3_addFriendship_24 : decode cX3_addFriendship 24 = .ok (.iload_n 1, 1) := by decide +kernel
theorem dX3_addFriendship_25 : decode cX3_addFriendship 25 = .ok (.dup2, 1) := by decide +kernel
theorem dX3_addFriendship_26 : decode cX3_addFriendship 26 = .ok (.iaload, 1) := by decide +kernel
theorem dX3_addFriendship_27 : decode cX3_addFriendship 27 = .ok (.iconst 1, 1) := by decide +kernel
theorem dX3_addFriendship_28 : decode cX3_addFriendship 28 = .ok (.iload_n 2, 1) := by decide +kernel
theorem dX3_addFriendship_29 : decode cX3_addFriendship 29 = .ok (.ishl, 1) := by decide +kernel
theorem dX3_addFriendship_30 : decode cX3_addFriendship 30 = .ok (.ior, 1) := by decide +kernel
theorem dX3_addFriendship_31 : decode cX3_addFriendship 31 = .ok (.iastore, 1) := by decide +kernel
theorem dX3_addFriendship_32 : decode cX3_addFriendship 32 = .ok (.aload_n 0, 1) := by decide +kernel
theorem dX3_addFriendship_33 : decode cX3_addFriendship 33 = .ok (.getfield 24, 3) := by decide +kernel
theorem dX3_addFriendship_36 : decode cX3_addFriendship 36 = .ok (.iload_n 2, 1) := by decide +kernel
theorem dX3_addFriendship_37 : decode cX3_addFriendship 37 = .ok (.dup2, 1) := by decide +kernel
theorem dX3_addFriendship_38 : decode cX3_addFriendship 38 = .ok (.iaload, 1) := by decide +kernel
theorem dX3_addFriendship_39 : decode cX3_addFriendship 39 = .ok (.iconst 1, 1) := by decide +kernel
theorem dX3_addFriendship_40 : decode cX3_addFriendship 40 = .ok (.iload_n 1, 1) := by decide +kernel
theorem dX3_addFriendship_41 : decode cX3_addFriendship 41 = .ok (.ishl, 1) := by decide +kernel
theorem dX3_addFriendship_42 : decode cX3_addFriendship 42 = .ok (.ior, 1) := by decide +kernel
theorem dX3_addFriendship_43 : decode cX3_addFriendship 43 = .ok (.iastore, 1) := by decide +kernel
theorem dX3_addFriendship_44 : decode cX3_addFriendship 44 = .ok (.aload_n 0, 1) := by decide +kernel
theorem dX3_addFriendship_45 : decode cX3_addFriendship 45 = .ok (.dup, 1) := by decide +kernel
theorem dX3_addFriendship_46 : decode cX3_addFriendship 46 = .ok (.getfield 43, 3) := by decide +kernel
theorem dX3_addFriendship_49 : decode cX3_addFriendship 49 = .ok (.iconst 1, 1) := by decide +kernel
theorem dX3_addFriendship_50 : decode cX3_addFriendship 50 = .ok (.iadd, 1) := by decide +kernel
theorem dX3_addFriendship_51 : decode cX3_addFriendship 51 = .ok (.putfield 43, 3) := by decide +kernel
theorem dX3_addFriendship_54 : decode cX3_addFriendship 54 = .ok (.return_, 1) := by decide +kernel
theorem dX3_waysOut_0 : decode cX3_waysOut 0 = .ok (.iload_n 1, 1) := by decide +kernel
theorem dX3_waysOut_1 : decode cX3_waysOut 1 = .ok (.aload_n 0, 1) := by decide +kernel
theorem dX3_waysOut_2 : decode cX3_waysOut 2 = .ok (.getfield 52, 3) := by decide +kernel
theorem dX3_waysOut_5 : decode cX3_waysOut 5 = .ok (.iconst (-1), 1) := by decide +kernel
theorem dX3_waysOut_6 : decode cX3_waysOut 6 = .ok (.ixor, 1) := by decide +kernel
theorem dX3_waysOut_7 : decode cX3_waysOut 7 = .ok (.iand, 1) := by decide +kernel
theorem dX3_waysOut_8 : decode cX3_waysOut 8 = .ok (.istore_n 2, 1) := by decide +kernel
theorem dX3_waysOut_9 : decode cX3_waysOut 9 = .ok (.iconst 0, 1) := by decide +kernel
theorem dX3_waysOut_10 : decode cX3_waysOut 10 = .ok (.istore_n 3, 1) := by decide +kernel
theorem dX3_waysOut_11 : decode cX3_waysOut 11 = .ok (.iconst 0, 1) := by decide +kernel
theorem dX3_waysOut_12 : decode cX3_waysOut 12 = .ok (.istore 4, 2) := by decide +kernel
theorem dX3_waysOut_14 : decode cX3_waysOut 14 = .ok (.iload 4, 2) := by decide +kernel
theorem dX3_waysOut_16 : decode cX3_waysOut 16 = .ok (.aload_n 0, 1) := by decide +kernel
theorem dX3_waysOut_17 : decode cX3_waysOut 17 = .ok (.getfield 43, 3) := by decide +kernel
theorem dX3_waysOut_20 : decode cX3_waysOut 20 = .ok (.if_icmp .ge 94, 3) := by decide +kernel
theorem dX3_waysOut_23 : decode cX3_waysOut 23 = .ok (.aload_n 0, 1) := by decide +kernel
theorem dX3_waysOut_24 : decode cX3_waysOut 24 = .ok (.getfield 27, 3) := by decide +kernel
theorem dX3_waysOut_27 : decode cX3_waysOut 27 = .ok (.iload 4, 2) := by decide +kernel
theorem dX3_waysOut_29 : decode cX3_waysOut 29 = .ok (.iaload, 1) := by decide +kernel
theorem dX3_waysOut_30 : decode cX3_waysOut 30 = .ok (.istore 5, 2) := by decide +kernel
theorem dX3_waysOut_32 : decode cX3_waysOut 32 = .ok (.aload_n 0, 1) := by decide +kernel
theorem dX3_waysOut_33 : decode cX3_waysOut 33 = .ok (.getfield 30, 3) := by decide +kernel
theorem dX3_waysOut_36 : decode cX3_waysOut 36 = .ok (.iload 4, 2) := by decide +kernel
theorem dX3_waysOut_38 : decode cX3_waysOut 38 = .ok (.iaload, 1) := by decide +kernel
theorem dX3_waysOut_39 : decode cX3_waysOut 39 = .ok (.istore 6, 2) := by decide +kernel
theorem dX3_waysOut_41 : decode cX3_waysOut 41 = .ok (.iload_n 2, 1) := by decide +kernel
theorem dX3_waysOut_42 : decode cX3_waysOut 42 = .ok (.iload 5, 2) := by decide +kernel
theorem dX3_waysOut_44 : decode cX3_waysOut 44 = .ok (.ishr, 1) := by decide +kernel
theorem dX3_waysOut_45 : decode cX3_waysOut 45 = .ok (.iconst 1, 1) := by decide +kernel
theorem dX3_waysOut_46 : decode cX3_waysOut 46 = .ok (.iand, 1) := by decide +kernel
theorem dX3_waysOut_47 : decode cX3_waysOut 47 = .ok (.ifCond .eq 16, 3) := by decide +kernel
theorem dX3_waysOut_50 : decode cX3_waysOut 50 = .ok (.iload_n 1, 1) := by decide +kernel
theorem dX3_waysOut_51 : decode cX3_waysOut 51 = .ok (.iload 6, 2) := by decide +kernel
theorem dX3_waysOut_53 : decode cX3_waysOut 53 = .ok (.ishr, 1) := by decide +kernel
theorem dX3_waysOut_54 : decode cX3_waysOut 54 = .ok (.iconst 1, 1) := by decide +kernel
theorem dX3_waysOut_55 : decode cX3_waysOut 55 = .ok (.iand, 1) := by decide +kernel
theorem dX3_waysOut_56 : decode cX3_waysOut 56 = .ok (.ifCond .ne 7, 3) := by decide +kernel
theorem dX3_waysOut_59 : decode cX3_waysOut 59 = .ok (.iconst 1, 1) := by decide +kernel
theorem dX3_waysOut_60 : decode cX3_waysOut 60 = .ok (.goto 4, 3) := by decide +kernel
theorem dX3_waysOut_63 : decode cX3_waysOut 63 = .ok (.iconst 0, 1) := by decide +kernel
theorem dX3_waysOut_64 : decode cX3_waysOut 64 = .ok (.istore 7, 2) := by decide +kernel
theorem dX3_waysOut_66 : decode cX3_waysOut 66 = .ok (.iload_n 2, 1) := by decide +kernel
theorem dX3_waysOut_67 : decode cX3_waysOut 67 = .ok (.iload 6, 2) := by decide +kernel
theorem dX3_waysOut_69 : decode cX3_waysOut 69 = .ok (.ishr, 1) := by decide +kernel
theorem dX3_waysOut_70 : decode cX3_waysOut 70 = .ok (.iconst 1, 1) := by decide +kernel
theorem dX3_waysOut_71 : decode cX3_waysOut 71 = .ok (.iand, 1) := by decide +kernel
theorem dX3_waysOut_72 : decode cX3_waysOut 72 = .ok (.ifCond .eq 16, 3) := by decide +kernel
theorem dX3_waysOut_75 : decode cX3_waysOut 75 = .ok (.iload_n 1, 1) := by decide +kernel
theorem dX3_waysOut_76 : decode cX3_waysOut 76 = .ok (.iload 5, 2) := by decide +kernel
theorem dX3_waysOut_78 : decode cX3_waysOut 78 = .ok (.ishr, 1) := by decide +kernel
theorem dX3_waysOut_79 : decode cX3_waysOut 79 = .ok (.iconst 1, 1) := by decide +kernel
theorem dX3_waysOut_80 : decode cX3_waysOut 80 = .ok (.iand, 1) := by decide +kernel
theorem dX3_waysOut_81 : decode cX3_waysOut 81 = .ok (.ifCond .ne 7, 3) := by decide +kernel
theorem dX3_waysOut_84 : decode cX3_waysOut 84 = .ok (.iconst 1, 1) := by decide +kernel
theorem dX3_waysOut_85 : decode cX3_waysOut 85 = .ok (.goto 4, 3) := by decide +kernel
theorem dX3_waysOut_88 : decode cX3_waysOut 88 = .ok (.iconst 0, 1) := by decide +kernel
theorem dX3_waysOut_89 : decode cX3_waysOut 89 = .ok (.istore 8, 2) := by decide +kernel
theorem dX3_waysOut_91 : decode cX3_waysOut 91 = .ok (.iload 7, 2) := by decide +kernel
theorem dX3_waysOut_93 : decode cX3_waysOut 93 = .ok (.ifCond .ne 8, 3) := by decide +kernel
theorem dX3_waysOut_96 : decode cX3_waysOut 96 = .ok (.iload 8, 2) := by decide +kernel
theorem dX3_waysOut_98 : decode cX3_waysOut 98 = .ok (.ifCond .eq 10, 3) := by decide +kernel
theorem dX3_waysOut_101 : decode cX3_waysOut 101 = .ok (.iload_n 3, 1) := by decide +kernel
theorem dX3_waysOut_102 : decode cX3_waysOut 102 = .ok (.iconst 1, 1) := by decide +kernel
theorem dX3_waysOut_103 : decode cX3_waysOut 103 = .ok (.iload 4, 2) := by decide +kernel
theorem dX3_waysOut_105 : decode cX3_waysOut 105 = .ok (.ishl, 1) := by decide +kernel
theorem dX3_waysOut_106 : decode cX3_waysOut 106 = .ok (.ior, 1) := by decide +kernel
theorem dX3_waysOut_107 : decode cX3_waysOut 107 = .ok (.istore_n 3, 1) := by decide +kernel
theorem dX3_waysOut_108 : decode cX3_waysOut 108 = .ok (.iinc 4 1, 3) := by decide +kernel
theorem dX3_waysOut_111 : decode cX3_waysOut 111 = .ok (.goto (-97), 3) := by decide +kernel
theorem dX3_waysOut_114 : decode cX3_waysOut 114 = .ok (.iload_n 3, 1) := by decide +kernel
theorem dX3_waysOut_115 : decode cX3_waysOut 115 = .ok (.ireturn, 1) := by decide +kernel
theorem dX4_init_0 : decode cX4_init 0 = .ok (.aload_n 0, 1) := by decide +kernel
theorem dX4_init_1 : decode cX4_init 1 = .ok (.invokespecial 3, 3) := by decide +kernel
theorem dX4_init_4 : decode cX4_init 4 = .ok (.aload_n 0, 1) := by decide +kernel
theorem dX4_init_5 : decode cX4_init 5 = .ok (.sipush 250, 3) := by decide +kernel
theorem dX4_init_8 : decode cX4_init 8 = .ok (.newarray .int, 2) := by decide +kernel
theorem dX4_init_10 : decode cX4_init 10 = .ok (.putfield 9, 3) := by decide +kernel
theorem dX4_init_13 : decode cX4_init 13 = .ok (.aload_n 0, 1) := by decide +kernel
theorem dX4_init_14 : decode cX4_init 14 = .ok (.iconst (-1), 1) := by decide +kernel
theorem dX4_init_15 : decode cX4_init 15 = .ok (.putfield 15, 3) := by decide +kernel
theorem dX4_init_18 : decode cX4_init 18 = .ok (.return_, 1) := by decide +kernel
theorem dX4_add_0 : decode cX4_add 0 = .ok (.aload_n 0, 1) := by decide +kernel
theorem dX4_add_1 : decode cX4_add 1 = .ok (.getfield 19, 3) := by decide +kernel
theorem dX4_add_4 : decode cX4_add 4 = .ok (.sipush 250, 3) := by decide +kernel
theorem dX4_add_7 : decode cX4_add 7 = .ok (.if_icmp .lt 6, 3) := by decide +kernel
theorem dX4_add_10 : decode cX4_add 10 = .ok (.ldc 22, 2) := by decide +kernel
theorem dX4_add_12 : decode cX4_add 12 = .ok (.ireturn, 1) := by decide +kernel
theorem dX4_add_13 : decode cX4_add 13 = .ok (.aload_n 0, 1) := by decide +kernel
theorem dX4_add_14 : decode cX4_add 14 = .ok (.getfield 9, 3) := by decide +kernel
theorem dX4_add_17 : decode cX4_add 17 = .ok (.aload_n 0, 1) := by decide +kernel
theorem dX4_add_18 : decode cX4_add 18 = .ok (.getfield 19, 3) := by decide +kernel
theorem dX4_add_21 : decode cX4_add 21 = .ok (.iload_n 1, 1) := by decide +kernel
theorem dX4_add_22 : decode cX4_add 22 = .ok (.iastore, 1) := by decide +kernel
theorem dX4_add_23 : decode cX4_add 23 = .ok (.aload_n 0, 1) := by decide +kernel
theorem dX4_add_24 : decode cX4_add 24 = .ok (.dup, 1) := by decide +kernel
theorem dX4_add_25 : decode cX4_add 25 = .ok (.getfield 19, 3) := by decide +kernel
theorem dX4_add_28 : decode cX4_add 28 = .ok (.iconst 1, 1) := by decide +kernel
theorem dX4_add_29 : decode cX4_add 29 = .ok (.iadd, 1) := by decide +kernel
theorem dX4_add_30 : decode cX4_add 30 = .ok (.putfield 19, 3) := by decide +kernel
theorem dX4_add_33 : decode cX4_add 33 = .ok (.aload_n 0, 1) := by decide +kernel
theorem dX4_add_34 : decode cX4_add 34 = .ok (.getfield 19, 3) := by decide +kernel
theorem dX4_add_37 : decode cX4_add 37 = .ok (.ireturn, 1) := by decide +kernel
theorem dX4_readInto_0 : decode cX4_readInto 0 = .ok (.aload_n 1, 1) := by decide +kernel
theorem dX4_readInto_1 : decode cX4_readInto 1 = .ok (.invokevirtual 23, 3) := by decide +kernel
theorem dX4_readInto_4 : decode cX4_readInto 4 = .ok (.aload_n 0, 1) := by decide +kernel
theorem dX4_readInto_5 : decode cX4_readInto 5 = .ok (.iconst 0, 1) := by decide +kernel
theorem dX4_readInto_6 : decode cX4_readInto 6 = .ok (.putfield 28, 3) := by decide +kernel
theorem dX4_readInto_9 : decode cX4_readInto 9 = .ok (.aload_n 0, 1) := by decide +kernel
theorem dX4_readInto_10 : decode cX4_readInto 10 = .ok (.iconst 0, 1) := by decide +kernel
theorem dX4_readInto_11 : decode cX4_readInto 11 = .ok (.putfield 31, 3) := by decide +kernel
theorem dX4_readInto_14 : decode cX4_readInto 14 = .ok (.aload_n 0, 1) := by decide +kernel
theorem dX4_readInto_15 : decode cX4_readInto 15 = .ok (.iconst (-1), 1) := by decide +kernel
theorem dX4_readInto_16 : decode cX4_readInto 16 = .ok (.putfield 15, 3) := by decide +kernel
theorem dX4_readInto_19 : decode cX4_readInto 19 = .ok (.aload_n 0, 1) := by decide +kernel
theorem dX4_readInto_20 : decode cX4_readInto 20 = .ok (.invokevirtual 34, 3) := by decide +kernel
theorem dX4_readInto_23 : decode cX4_readInto 23 = .ok (.iconst 0, 1) := by decide +kernel
theorem dX4_readInto_24 : decode cX4_readInto 24 = .ok (.istore_n 2, 1) := by decide +kernel
theorem dX4_readInto_25 : decode cX4_readInto 25 = .ok (.iload_n 2, 1) := by decide +kernel
theorem dX4_readInto_26 : decode cX4_readInto 26 = .ok (.sipush 250, 3) := by decide +kernel
theorem dX4_readInto_29 : decode cX4_readInto 29 = .ok (.if_icmp .ge 36, 3) := by decide +kernel
theorem dX4_readInto_32 : decode cX4_readInto 32 = .ok (.aload_n 0, 1) := by decide +kernel
theorem dX4_readInto_33 : decode cX4_readInto 33 = .ok (.getfield 28, 3) := by decide +kernel
theorem dX4_readInto_36 : decode cX4_readInto 36 = .ok (.aload_n 0, 1) := by decide +kernel
theorem dX4_readInto_37 : decode cX4_readInto 37 = .ok (.getfield 19, 3) := by decide +kernel
theorem dX4_readInto_40 : decode cX4_readInto 40 = .ok (.if_icmp .ge 25, 3) := by decide +kernel
theorem dX4_readInto_43 : decode cX4_readInto 43 = .ok (.aload_n 0, 1) := by decide +kernel
theorem dX4_readInto_44 : decode cX4_readInto 44 = .ok (.getfield 31, 3) := by decide +kernel
theorem dX4_readInto_47 : decode cX4_readInto 47 = .ok (.ifCond .ne 18, 3) := by decide +kernel
theorem dX4_readInto_50 : decode cX4_readInto 50 = .ok (.aload_n 0, 1) := by decide +kernel
theorem dX4_readInto_51 : decode cX4_readInto 51 = .ok (.aload_n 1, 1) := by decide +kernel
theorem dX4_readInto_52 : decode cX4_readInto 52 = .ok (.invokevirtual 37, 3) := by decide +kernel
theorem dX4_readInto_55 : decode cX4_readInto 55 = .ok (.aload_n 0, 1) := by decide +kernel
theorem dX4_readInto_56 : decode cX4_readInto 56 = .ok (.invokevirtual 34, 3) := by decide +kernel
theorem dX4_readInto_59 : decode cX4_readInto 59 = .ok (.iinc 2 1, 3) := by decide +kernel
theorem dX4_readInto_62 : decode cX4_readInto 62 = .ok (.goto (-37), 3) := by decide +kernel
theorem dX4_readInto_65 : decode cX4_readInto 65 = .ok (.aload_n 0, 1) := by decide +kernel
theorem dX4_readInto_66 : decode cX4_readInto 66 = .ok (.getfield 31, 3) := by decide +kernel
theorem dX4_readInto_69 : decode cX4_readInto 69 = .ok (.ireturn, 1) := by decide +kernel
theorem dX4_blame_0 : decode cX4_blame 0 = .ok (.aload_n 0, 1) := by decide +kernel
theorem dX4_blame_1 : decode cX4_blame 1 = .ok (.getfield 31, 3) := by decide +kernel
theorem dX4_blame_4 : decode cX4_blame 4 = .ok (.ifCond .ne 13, 3) := by decide +kernel
theorem dX4_blame_7 : decode cX4_blame 7 = .ok (.aload_n 0, 1) := by decide +kernel
theorem dX4_blame_8 : decode cX4_blame 8 = .ok (.iload_n 1, 1) := by decide +kernel
theorem dX4_blame_9 : decode cX4_blame 9 = .ok (.putfield 31, 3) := by decide +kernel
theorem dX4_blame_12 : decode cX4_blame 12 = .ok (.aload_n 0, 1) := by decide +kernel
theorem dX4_blame_13 : decode cX4_blame 13 = .ok (.iload_n 2, 1) := by decide +kernel
theorem dX4_blame_14 : decode cX4_blame 14 = .ok (.putfield 15, 3) := by decide +kernel
theorem dX4_blame_17 : decode cX4_blame 17 = .ok (.return_, 1) := by decide +kernel
theorem dX4_letterHere_0 : decode cX4_letterHere 0 = .ok (.aload_n 0, 1) := by decide +kernel
theorem dX4_letterHere_1 : decode cX4_letterHere 1 = .ok (.getfield 28, 3) := by decide +kernel
theorem dX4_letterHere_4 : decode cX4_letterHere 4 = .ok (.ifCond .lt 26, 3) := by decide +kernel
theorem dX4_letterHere_7 : decode cX4_letterHere 7 = .ok (.aload_n 0, 1) := by decide +kernel
theorem dX4_letterHere_8 : decode cX4_letterHere 8 = .ok (.getfield 28, 3) := by decide +kernel
theorem dX4_letterHere_11 : decode cX4_letterHere 11 = .ok (.aload_n 0, 1) := by decide +kernel
theorem dX4_letterHere_12 : decode cX4_letterHere 12 = .ok (.getfield 19, 3) := by decide +kernel
theorem dX4_letterHere_15 : decode cX4_letterHere 15 = .ok (.if_icmp .ge 15, 3) := by decide +kernel
theorem dX4_letterHere_18 : decode cX4_letterHere 18 = .ok (.aload_n 0, 1) := by decide +kernel
theorem dX4_letterHere_19 : decode cX4_letterHere 19 = .ok (.getfield 9, 3) := by decide +kernel
theorem dX4_letterHere_22 : decode cX4_letterHere 22 = .ok (.aload_n 0, 1) := by decide +kernel
theorem dX4_letterHere_23 : decode cX4_letterHere 23 = .ok (.getfield 28, 3) := by decide +kernel
theorem dX4_letterHere_26 : decode cX4_letterHere 26 = .ok (.iaload, 1) := by decide +kernel
theorem dX4_letterHere_27 : decode cX4_letterHere 27 = .ok (.goto 4, 3) := by decide +kernel
theorem dX4_letterHere_30 : decode cX4_letterHere 30 = .ok (.iconst (-1), 1) := by decide +kernel
theorem dX4_letterHere_31 : decode cX4_letterHere 31 = .ok (.ireturn, 1) := by decide +kernel
theorem dX4_isFigureHere_0 : decode cX4_isFigureHere 0 = .ok (.aload_n 0, 1) := by decide +kernel
theorem dX4_isFigureHere_1 : decode cX4_isFigureHere 1 = .ok (.invokevirtual 41, 3) := by decide +kernel
theorem dX4_isFigureHere_4 : decode cX4_isFigureHere 4 = .ok (.bipush 48, 2) := by decide +kernel
theorem dX4_isFigureHere_6 : decode cX4_isFigureHere 6 = .ok (.if_icmp .lt 16, 3) := by decide +kernel
theorem dX4_isFigureHere_9 : decode cX4_isFigureHere 9 = .ok (.aload_n 0, 1) := by decide +kernel
theorem dX4_isFigureHere_10 : decode cX4_isFigureHere 10 = .ok (.invokevirtual 41, 3) := by decide +kernel
theorem dX4_isFigureHere_13 : decode cX4_isFigureHere 13 = .ok (.bipush 57, 2) := by decide +kernel
theorem dX4_isFigureHere_15 : decode cX4_isFigureHere 15 = .ok (.if_icmp .gt 7, 3) := by decide +kernel
theorem dX4_isFigureHere_18 : decode cX4_isFigureHere 18 = .ok (.iconst 1, 1) := by decide +kernel
theorem dX4_isFigureHere_19 : decode cX4_isFigureHere 19 = .ok (.goto 4, 3) := by decide +kernel
theorem dX4_isFigureHere_22 : decode cX4_isFigureHere 22 = .ok (.iconst 0, 1) := by decide +kernel
theorem dX4_isFigureHere_23 : decode cX4_isFigureHere 23 = .ok (.ireturn, 1) := by decide +kernel
theorem dX4_skipBlanks_0 : decode cX4_skipBlanks 0 = .ok (.aload_n 0, 1) := by decide +kernel
theorem dX4_skipBlanks_1 : decode cX4_skipBlanks 1 = .ok (.getfield 28, 3) := by decide +kernel
theorem dX4_skipBlanks_4 : decode cX4_skipBlanks 4 = .ok (.aload_n 0, 1) := by decide +kernel
theorem dX4_skipBlanks_5 : decode cX4_skipBlanks 5 = .ok (.getfield 19, 3) := by decide +kernel
theorem dX4_skipBlanks_8 : decode cX4_skipBlanks 8 = .ok (.if_icmp .ge 25, 3) := by decide +kernel
theorem dX4_skipBlanks_11 : decode cX4_skipBlanks 11 = .ok (.aload_n 0, 1) := by decide +kernel
theorem dX4_skipBlanks_12 : decode cX4_skipBlanks 12 = .ok (.invokevirtual 41, 3) := by decide +kernel
theorem dX4_skipBlanks_15 : decode cX4_skipBlanks 15 = .ok (.bipush 32, 2) := by decide +kernel
theorem dX4_skipBlanks_17 : decode cX4_skipBlanks 17 = .ok (.if_icmp .ne 16, 3) := by decide +kernel
theorem dX4_skipBlanks_20 : decode cX4_skipBlanks 20 = .ok (.aload_n 0, 1) := by decide +kernel
theorem dX4_skipBlanks_21 : decode cX4_skipBlanks 21 = .ok (.dup, 1) := by decide +kernel
theorem dX4_skipBlanks_22 : decode cX4_skipBlanks 22 = .ok (.getfield 28, 3) := by decide +kernel
theorem dX4_skipBlanks_25 : decode cX4_skipBlanks 25 = .ok (.iconst 1, 1) := by decide +kernel
theorem dX4_skipBlanks_26 : decode cX4_skipBlanks 26 = .ok (.iadd, 1) := by decide +kernel
theorem dX4_skipBlanks_27 : decode cX4_skipBlanks 27 = .ok (.putfield 28, 3) := by decide +kernel
theorem dX4_skipBlanks_30 : decode cX4_skipBlanks 30 = .ok (.goto (-30), 3) := by decide +kernel
theorem dX4_skipBlanks_33 : decode cX4_skipBlanks 33 = .ok (.return_, 1) := by decide +kernel
theorem dX4_readClause_0 : decode cX4_readClause 0 = .ok (.aload_n 0, 1) := by decide +kernel
theorem dX4_readClause_1 : decode cX4_readClause 1 = .ok (.invokevirtual 41, 3) := by decide +kernel
theorem dX4_readClause_4 : decode cX4_readClause 4 = .ok (.istore_n 2, 1) := by decide +kernel
theorem dX4_readClause_5 : decode cX4_readClause 5 = .ok (.aload_n 0, 1) := by decide +kernel
theorem dX4_readClause_6 : decode cX4_readClause 6 = .ok (.aload_n 1, 1) := by decide +kernel
theorem dX4_readClause_7 : decode cX4_readClause 7 = .ok (.iload_n 2, 1) := by decide +kernel
theorem dX4_readClause_8 : decode cX4_readClause 8 = .ok (.invokevirtual 45, 3) := by decide +kernel
theorem dX4_readClause_11 : decode cX4_readClause 11 = .ok (.istore_n 3, 1) := by decide +kernel
theorem dX4_readClause_12 : decode cX4_readClause 12 = .ok (.iload_n 3, 1) := by decide +kernel
theorem dX4_readClause_13 : decode cX4_readClause 13 = .ok (.ifCond .eq 13, 3) := by decide +kernel
theorem dX4_readClause_16 : decode cX4_readClause 16 = .ok (.aload_n 0, 1) := by decide +kernel
theorem dX4_readClause_17 : decode cX4_readClause 17 = .ok (.iload_n 3, 1) := by decide +kernel
theorem dX4_readClause_18 : decode cX4_readClause 18 = .ok (.aload_n 0, 1) := by decide +kernel
theorem dX4_readClause_19 : decode cX4_readClause 19 = .ok (.getfield 28, 3) := by decide +kernel
theorem dX4_readClause_22 : decode cX4_readClause 22 = .ok (.invokevirtual 49, 3) := by decide +kernel
theorem dX4_readClause_25 : decode cX4_readClause 25 = .ok (.return_, 1) := by decide +kernel
theorem dX4_readClause_26 : decode cX4_readClause 26 = .ok (.aload_n 0, 1) := by decide +kernel
theorem dX4_readClause_27 : decode cX4_readClause 27 = .ok (.dup, 1) := by decide +kernel
theorem dX4_readClause_28 : decode cX4_readClause 28 = .ok (.getfield 28, 3) := by decide +kernel
theorem dX4_readClause_31 : decode cX4_readClause 31 = .ok (.iconst 1, 1) := by decide +kernel
theorem dX4_readClause_32 : decode cX4_readClause 32 = .ok (.iadd, 1) := by decide +kernel
theorem dX4_readClause_33 : decode cX4_readClause 33 = .ok (.putfield 28, 3) := by decide +kernel
theorem dX4_readClause_36 : decode cX4_readClause 36 = .ok (.iload_n 2, 1) := by decide +kernel
theorem dX4_readClause_37 : decode cX4_readClause 37 = .ok (.lookupswitch 107 #[(98, 99), (102, 67), (107, 75), (109, 91), (116, 59), (119, 83)], 59) := by decide +kernel
theorem dX4_readClause_96 : decode cX4_readClause 96 = .ok (.aload_n 0, 1) := by decide +kernel
theorem dX4_readClause_97 : decode cX4_readClause 97 = .ok (.aload_n 1, 1) := by decide +kernel
theorem dX4_readClause_98 : decode cX4_readClause 98 = .ok (.invokevirtual 53, 3) := by decide +kernel
theorem dX4_readClause_101 : decode cX4_readClause 101 = .ok (.goto 48, 3) := by decide +kernel
theorem dX4_readClause_104 : decode cX4_readClause 104 = .ok (.aload_n 0, 1) := by decide +kernel
theorem dX4_readClause_105 : decode cX4_readClause 105 = .ok (.aload_n 1, 1) := by decide +kernel
theorem dX4_readClause_106 : decode cX4_readClause 106 = .ok (.invokevirtual 56, 3) := by decide +kernel
theorem dX4_readClause_109 : decode cX4_readClause 109 = .ok (.goto 40, 3) := by decide +kernel
theorem dX4_readClause_112 : decode cX4_readClause 112 = .ok (.aload_n 0, 1) := by decide +kernel
theorem dX4_readClause_113 : decode cX4_readClause 113 = .ok (.aload_n 1, 1) := by decide +kernel
theorem dX4_readClause_114 : decode cX4_readClause 114 = .ok (.invokevirtual 59, 3) := by decide +kernel
theorem dX4_readClause_117 : decode cX4_readClause 117 = .ok (.goto 32, 3) := by decide +kernel
theorem dX4_readClause_120 : decode cX4_readClause 120 = .ok (.aload_n 0, 1) := by decide +kernel
theorem dX4_readClause_121 : decode cX4_readClause 121 = .ok (.aload_n 1, 1) := by decide +kernel
theorem dX4_readClause_122 : decode cX4_readClause 122 = .ok (.invokevirtual 62, 3) := by decide +kernel
theorem dX4_readClause_125 : decode cX4_readClause 125 = .ok (.goto 24, 3) := by decide +kernel
theorem dX4_readClause_128 : decode cX4_readClause 128 = .ok (.aload_n 0, 1) := by decide +kernel
theorem dX4_readClause_129 : decode cX4_readClause 129 = .ok (.aload_n 1, 1) := by decide +kernel
theorem dX4_readClause_130 : decode cX4_readClause 130 = .ok (.invokevirtual 65, 3) := by decide +kernel
theorem dX4_readClause_133 : decode cX4_readClause 133 = .ok (.goto 16, 3) := by decide +kernel
theorem dX4_readClause_136 : decode cX4_readClause 136 = .ok (.aload_n 0, 1) := by decide +kernel
theorem dX4_readClause_137 : decode cX4_readClause 137 = .ok (.aload_n 1, 1) := by decide +kernel
theorem dX4_readClause_138 : decode cX4_readClause 138 = .ok (.invokevirtual 68, 3) := by decide +kernel
theorem dX4_readClause_141 : decode cX4_readClause 141 = .ok (.goto 8, 3) := by decide +kernel
theorem dX4_readClause_144 : decode cX4_readClause 144 = .ok (.aload_n 0, 1) := by decide +kernel
theorem dX4_readClause_145 : decode cX4_readClause 145 = .ok (.aload_n 1, 1) := by decide +kernel
theorem dX4_readClause_146 : decode cX4_readClause 146 = .ok (.invokevirtual 71, 3) := by decide +kernel
theorem dX4_readClause_149 : decode cX4_readClause 149 = .ok (.aload_n 0, 1) := by decide +kernel
theorem dX4_readClause_150 : decode cX4_readClause 150 = .ok (.invokevirtual 74, 3) := by decide +kernel
theorem dX4_readClause_153 : decode cX4_readClause 153 = .ok (.return_, 1) := by decide +kernel
theorem dX4_faultOfWord_0 : decode cX4_faultOfWord 0 = .ok (.aload_n 1, 1) := by decide +kernel
theorem dX4_faultOfWord_1 : decode cX4_faultOfWord 1 = .ok (.getfield 77, 3) := by decide +kernel
theorem dX4_faultOfWord_4 : decode cX4_faultOfWord 4 = .ok (.ifCond .ne 15, 3) := by decide +kernel
theorem dX4_faultOfWord_7 : decode cX4_faultOfWord 7 = .ok (.iload_n 2, 1) := by decide +kernel
theorem dX4_faultOfWord_8 : decode cX4_faultOfWord 8 = .ok (.bipush 116, 2) := by decide +kernel
theorem dX4_faultOfWord_10 : decode cX4_faultOfWord 10 = .ok (.if_icmp .ne 7, 3) := by decide +kernel
theorem dX4_faultOfWord_13 : decode cX4_faultOfWord 13 = .ok (.iconst 0, 1) := by decide +kernel
theorem dX4_faultOfWord_14 : decode cX4_faultOfWord 14 = .ok (.goto 4, 3) := by decide +kernel
theorem dX4_faultOfWord_17 : decode cX4_faultOfWord 17 = .ok (.iconst 1, 1) := by decide +kernel
theorem dX4_faultOfWord_18 : decode cX4_faultOfWord 18 = .ok (.ireturn, 1) := by decide +kernel
theorem dX4_faultOfWord_19 : decode cX4_faultOfWord 19 = .ok (.iload_n 2, 1) := by decide +kernel
theorem dX4_faultOfWord_20 : decode cX4_faultOfWord 20 = .ok (.tableswitch 167 98 119 #[136, 167, 167, 167, 106, 150, 167, 167, 167, 163, 167, 165, 167, 167, 167, 167, 167, 167, 104, 167, 167, 121], 104) := by decide +kernel
theorem dX4_faultOfWord_124 : decode cX4_faultOfWord 124 = .ok (.iconst 3, 1) := by decide +kernel
theorem dX4_faultOfWord_125 : decode cX4_faultOfWord 125 = .ok (.ireturn, 1) := by decide +kernel
theorem dX4_faultOfWord_126 : decode cX4_faultOfWord 126 = .ok (.aload_n 1, 1) := by decide +kernel
theorem dX4_faultOfWord_127 : decode cX4_faultOfWord 127 = .ok (.getfield 80, 3) := by decide +kernel
theorem dX4_faultOfWord_130 : decode cX4_faultOfWord 130 = .ok (.bipush 8, 2) := by decide +kernel
theorem dX4_faultOfWord_132 : decode cX4_faultOfWord 132 = .ok (.if_icmp .ge 7, 3) := by decide +kernel
theorem dX4_faultOfWord_135 : decode cX4_faultOfWord 135 = .ok (.iconst 0, 1) := by decide +kernel
theorem dX4_faultOfWord_136 : decode cX4_faultOfWord 136 = .ok (.goto 4, 3) := by decide +kernel
theorem dX4_faultOfWord_139 : decode cX4_faultOfWord 139 = .ok (.iconst 3, 1) := by decide +kernel
theorem dX4_faultOfWord_140 : decode cX4_faultOfWord 140 = .ok (.ireturn, 1) := by decide +kernel
theorem dX4_faultOfWord_141 : decode cX4_faultOfWord 141 = .ok (.aload_n 1, 1) := by decide +kernel
theorem dX4_faultOfWord_142 : decode cX4_faultOfWord 142 = .ok (.getfield 83, 3) := by decide +kernel
theorem dX4_faultOfWord_145 : decode cX4_faultOfWord 145 = .ok (.bipush 12, 2) := by decide +kernel
theorem dX4_faultOfWord_147 : decode cX4_faultOfWord 147 = .ok (.if_icmp .ge 7, 3) := by decide +kernel
theorem dX4_faultOfWord_150 : decode cX4_faultOfWord 150 = .ok (.iconst 0, 1) := by decide +kernel
theorem dX4_faultOfWord_151 : decode cX4_faultOfWord 151 = .ok (.goto 4, 3) := by decide +kernel
theorem dX4_faultOfWord_154 : decode cX4_faultOfWord 154 = .ok (.iconst 3, 1) := by decide +kernel
theorem dX4_faultOfWord_155 : decode cX4_faultOfWord 155 = .ok (.ireturn, 1) := by decide +kernel
theorem dX4_faultOfWord_156 : decode cX4_faultOfWord 156 = .ok (.aload_n 1, 1) := by decide +kernel
theorem dX4_faultOfWord_157 : decode cX4_faultOfWord 157 = .ok (.getfield 86, 3) := by decide +kernel
theorem dX4_faultOfWord_160 : decode cX4_faultOfWord 160 = .ok (.iconst 4, 1) := by decide +kernel
theorem dX4_faultOfWord_161 : decode cX4_faultOfWord 161 = .ok (.if_icmp .ge 7, 3) := by decide +kernel
theorem dX4_faultOfWord_164 : decode cX4_faultOfWord 164 = .ok (.iconst 0, 1) := by decide +kernel
theorem dX4_faultOfWord_165 : decode cX4_faultOfWord 165 = .ok (.goto 4, 3) := by decide +kernel
theorem dX4_faultOfWord_168 : decode cX4_faultOfWord 168 = .ok (.iconst 3, 1) := by decide +kernel
theorem dX4_faultOfWord_169 : decode cX4_faultOfWord 169 = .ok (.ireturn, 1) := by decide +kernel
theorem dX4_faultOfWord_170 : decode cX4_faultOfWord 170 = .ok (.aload_n 1, 1) := by decide +kernel
theorem dX4_faultOfWord_171 : decode cX4_faultOfWord 171 = .ok (.getfield 89, 3) := by decide +kernel
theorem dX4_faultOfWord_174 : decode cX4_faultOfWord 174 = .ok (.ifCond .ne 7, 3) := by decide +kernel
theorem dX4_faultOfWord_177 : decode cX4_faultOfWord 177 = .ok (.iconst 0, 1) := by decide +kernel
theorem dX4_faultOfWord_178 : decode cX4_faultOfWord 178 = .ok (.goto 4, 3) := by decide +kernel
theorem dX4_faultOfWord_181 : decode cX4_faultOfWord 181 = .ok (.iconst 3, 1) := by decide +kernel
theorem dX4_faultOfWord_182 : decode cX4_faultOfWord 182 = .ok (.ireturn, 1) := by decide +kernel
theorem dX4_faultOfWord_183 : decode cX4_faultOfWord 183 = .ok (.iconst 0, 1) := by decide +kernel
theorem dX4_faultOfWord_184 : decode cX4_faultOfWord 184 = .ok (.ireturn, 1) := by decide +kernel
theorem dX4_faultOfWord_185 : decode cX4_faultOfWord 185 = .ok (.iconst 0, 1) := by decide +kernel
theorem dX4_faultOfWord_186 : decode cX4_faultOfWord 186 = .ok (.ireturn, 1) := by decide +kernel
theorem dX4_faultOfWord_187 : decode cX4_faultOfWord 187 = .ok (.iconst 1, 1) := by decide +kernel
theorem dX4_faultOfWord_188 : decode cX4_faultOfWord 188 = .ok (.ireturn, 1) := by decide +kernel
theorem dX4_readEnd_0 : decode cX4_readEnd 0 = .ok (.aload_n 0, 1) := by decide +kernel
theorem dX4_readEnd_1 : decode cX4_readEnd 1 = .ok (.invokevirtual 34, 3) := by decide +kernel
theorem dX4_readEnd_4 : decode cX4_readEnd 4 = .ok (.aload_n 0, 1) := by decide +kernel
theorem dX4_readEnd_5 : decode cX4_readEnd 5 = .ok (.invokevirtual 41, 3) := by decide +kernel
theorem dX4_readEnd_8 : decode cX4_readEnd 8 = .ok (.bipush 59, 2) := by decide +kernel
theorem dX4_readEnd_10 : decode cX4_readEnd 10 = .ok (.if_icmp .eq 12, 3) := by decide +kernel
theorem dX4_readEnd_13 : decode cX4_readEnd 13 = .ok (.aload_n 0, 1) := by decide +kernel
theorem dX4_readEnd_14 : decode cX4_readEnd 14 = .ok (.iconst 1, 1) := by decide +kernel
theorem dX4_readEnd_15 : decode cX4_readEnd 15 = .ok (.aload_n 0, 1) := by decide +kernel
theorem dX4_readEnd_16 : decode cX4_readEnd 16 = .ok (.getfield 28, 3) := by decide +kernel
theorem dX4_readEnd_19 : decode cX4_readEnd 19 = .ok (.invokevirtual 49, 3) := by decide +kernel
theorem dX4_readEnd_22 : decode cX4_readEnd 22 = .ok (.aload_n 0, 1) := by decide +kernel
theorem dX4_readEnd_23 : decode cX4_readEnd 23 = .ok (.dup, 1) := by decide +kernel
theorem dX4_readEnd_24 : decode cX4_readEnd 24 = .ok (.getfield 28, 3) := by decide +kernel
theorem dX4_readEnd_27 : decode cX4_readEnd 27 = .ok (.iconst 1, 1) := by decide +kernel
theorem dX4_readEnd_28 : decode cX4_readEnd 28 = .ok (.iadd, 1) := by decide +kernel
theorem dX4_readEnd_29 : decode cX4_readEnd 29 = .ok (.putfield 28, 3) := by decide +kernel
theorem dX4_readEnd_32 : decode cX4_readEnd 32 = .ok (.return_, 1) := by decide +kernel
theorem dX4_readNumber_0 : decode cX4_readNumber 0 = .ok (.aload_n 0, 1) := by decide +kernel
theorem dX4_readNumber_1 : decode cX4_readNumber 1 = .ok (.invokevirtual 34, 3) := by decide +kernel
theorem dX4_readNumber_4 : decode cX4_readNumber 4 = .ok (.aload_n 0, 1) := by decide +kernel
theorem dX4_readNumber_5 : decode cX4_readNumber 5 = .ok (.aload_n 0, 1) := by decide +kernel
theorem dX4_readNumber_6 : decode cX4_readNumber 6 = .ok (.getfield 28, 3) := by decide +kernel
theorem dX4_readNumber_9 : decode cX4_readNumber 9 = .ok (.putfield 92, 3) := by decide +kernel
theorem dX4_readNumber_12 : decode cX4_readNumber 12 = .ok (.aload_n 0, 1) := by decide +kernel
theorem dX4_readNumber_13 : decode cX4_readNumber 13 = .ok (.invokevirtual 95, 3) := by decide +kernel
theorem dX4_readNumber_16 : decode cX4_readNumber 16 = .ok (.ifCond .ne 14, 3) := by decide +kernel
theorem dX4_readNumber_19 : decode cX4_readNumber 19 = .ok (.aload_n 0, 1) := by decide +kernel
theorem dX4_readNumber_20 : decode cX4_readNumber 20 = .ok (.iconst 1, 1) := by decide +kernel
theorem dX4_readNumber_21 : decode cX4_readNumber 21 = .ok (.aload_n 0, 1) := by decide +kernel
theorem dX4_readNumber_22 : decode cX4_readNumber 22 = .ok (.getfield 28, 3) := by decide +kernel
theorem dX4_readNumber_25 : decode cX4_readNumber 25 = .ok (.invokevirtual 49, 3) := by decide +kernel
theorem dX4_readNumber_28 : decode cX4_readNumber 28 = .ok (.iconst (-1), 1) := by decide +kernel
theorem dX4_readNumber_29 : decode cX4_readNumber 29 = .ok (.ireturn, 1) := by decide +kernel
theorem dX4_readNumber_30 : decode cX4_readNumber 30 = .ok (.iconst 0, 1) := by decide +kernel
theorem dX4_readNumber_31 : decode cX4_readNumber 31 = .ok (.istore_n 3, 1) := by decide +kernel
theorem dX4_readNumber_32 : decode cX4_readNumber 32 = .ok (.aload_n 0, 1) := by decide +kernel
theorem dX4_readNumber_33 : decode cX4_readNumber 33 = .ok (.getfield 28, 3) := by decide +kernel
theorem dX4_readNumber_36 : decode cX4_readNumber 36 = .ok (.aload_n 0, 1) := by decide +kernel
theorem dX4_readNumber_37 : decode cX4_readNumber 37 = .ok (.getfield 19, 3) := by decide +kernel
theorem dX4_readNumber_40 : decode cX4_readNumber 40 = .ok (.if_icmp .ge 53, 3) := by decide +kernel
theorem dX4_readNumber_43 : decode cX4_readNumber 43 = .ok (.aload_n 0, 1) := by decide +kernel
theorem dX4_readNumber_44 : decode cX4_readNumber 44 = .ok (.invokevirtual 95, 3) := by decide +kernel
theorem dX4_readNumber_47 : decode cX4_readNumber 47 = .ok (.ifCond .eq 46, 3) := by decide +kernel
theorem dX4_readNumber_50 : decode cX4_readNumber 50 = .ok (.aload_n 0, 1) := by decide +kernel
theorem dX4_readNumber_51 : decode cX4_readNumber 51 = .ok (.getfield 28, 3) := by decide +kernel
theorem dX4_readNumber_54 : decode cX4_readNumber 54 = .ok (.aload_n 0, 1) := by decide +kernel
theorem dX4_readNumber_55 : decode cX4_readNumber 55 = .ok (.getfield 92, 3) := by decide +kernel
theorem dX4_readNumber_58 : decode cX4_readNumber 58 = .ok (.isub, 1) := by decide +kernel
theorem dX4_readNumber_59 : decode cX4_readNumber 59 = .ok (.iconst 3, 1) := by decide +kernel
theorem dX4_readNumber_60 : decode cX4_readNumber 60 = .ok (.if_icmp .ge 18, 3) := by decide +kernel
theorem dX4_readNumber_63 : decode cX4_readNumber 63 = .ok (.iload_n 3, 1) := by decide +kernel
theorem dX4_readNumber_64 : decode cX4_readNumber 64 = .ok (.bipush 10, 2) := by decide +kernel
theorem dX4_readNumber_66 : decode cX4_readNumber 66 = .ok (.imul, 1) := by decide +kernel
theorem dX4_readNumber_67 : decode cX4_readNumber 67 = .ok (.aload_n 0, 1) := by decide +kernel
theorem dX4_readNumber_68 : decode cX4_readNumber 68 = .ok (.invokevirtual 41, 3) := by decide +kernel
theorem dX4_readNumber_71 : decode cX4_readNumber 71 = .ok (.iadd, 1) := by decide +kernel
theorem dX4_readNumber_72 : decode cX4_readNumber 72 = .ok (.bipush 48, 2) := by decide +kernel
theorem dX4_readNumber_74 : decode cX4_readNumber 74 = .ok (.isub, 1) := by decide +kernel
theorem dX4_readNumber_75 : decode cX4_readNumber 75 = .ok (.goto 4, 3) := by decide +kernel
theorem dX4_readNumber_78 : decode cX4_readNumber 78 = .ok (.iload_n 3, 1) := by decide +kernel
theorem dX4_readNumber_79 : decode cX4_readNumber 79 = .ok (.istore_n 3, 1) := by decide +kernel
theorem dX4_readNumber_80 : decode cX4_readNumber 80 = .ok (.aload_n 0, 1) := by decide +kernel
theorem dX4_readNumber_81 : decode cX4_readNumber 81 = .ok (.dup, 1) := by decide +kernel
theorem dX4_readNumber_82 : decode cX4_readNumber 82 = .ok (.getfield 28, 3) := by decide +kernel
theorem dX4_readNumber_85 : decode cX4_readNumber 85 = .ok (.iconst 1, 1) := by decide +kernel
theorem dX4_readNumber_86 : decode cX4_readNumber 86 = .ok (.iadd, 1) := by decide +kernel
theorem dX4_readNumber_87 : decode cX4_readNumber 87 = .ok (.putfield 28, 3) := by decide +kernel
theorem dX4_readNumber_90 : decode cX4_readNumber 90 = .ok (.goto (-58), 3) := by decide +kernel
theorem dX4_readNumber_93 : decode cX4_readNumber 93 = .ok (.aload_n 0, 1) := by decide +kernel
theorem dX4_readNumber_94 : decode cX4_readNumber 94 = .ok (.getfield 28, 3) := by decide +kernel
theorem dX4_readNumber_97 : decode cX4_readNumber 97 = .ok (.aload_n 0, 1) := by decide +kernel
theorem dX4_readNumber_98 : decode cX4_readNumber 98 = .ok (.getfield 92, 3) := by decide +kernel
theorem dX4_readNumber_101 : decode cX4_readNumber 101 = .ok (.isub, 1) := by decide +kernel
theorem dX4_readNumber_102 : decode cX4_readNumber 102 = .ok (.iconst 3, 1) := by decide +kernel
theorem dX4_readNumber_103 : decode cX4_readNumber 103 = .ok (.if_icmp .gt 13, 3) := by decide +kernel
theorem dX4_readNumber_106 : decode cX4_readNumber 106 = .ok (.iload_n 3, 1) := by decide +kernel
theorem dX4_readNumber_107 : decode cX4_readNumber 107 = .ok (.iload_n 1, 1) := by decide +kernel
theorem dX4_readNumber_108 : decode cX4_readNumber 108 = .ok (.if_icmp .lt 8, 3) := by decide +kernel
theorem dX4_readNumber_111 : decode cX4_readNumber 111 = .ok (.iload_n 3, 1) := by decide +kernel
theorem dX4_readNumber_112 : decode cX4_readNumber 112 = .ok (.iload_n 2, 1) := by decide +kernel
theorem dX4_readNumber_113 : decode cX4_readNumber 113 = .ok (.if_icmp .le 12, 3) := by decide +kernel
theorem dX4_readNumber_116 : decode cX4_readNumber 116 = .ok (.aload_n 0, 1) := by decide +kernel
theorem dX4_readNumber_117 : decode cX4_readNumber 117 = .ok (.iconst 2, 1) := by decide +kernel
theorem dX4_readNumber_118 : decode cX4_readNumber 118 = .ok (.aload_n 0, 1) := by decide +kernel
theorem dX4_readNumber_119 : decode cX4_readNumber 119 = .ok (.getfield 92, 3) := by decide +kernel
theorem dX4_readNumber_122 : decode cX4_readNumber 122 = .ok (.invokevirtual 49, 3) := by decide +kernel
theorem dX4_readNumber_125 : decode cX4_readNumber 125 = .ok (.iload_n 3, 1) := by decide +kernel
theorem dX4_readNumber_126 : decode cX4_readNumber 126 = .ok (.ireturn, 1) := by decide +kernel
theorem dX4_readPerson_0 : decode cX4_readPerson 0 = .ok (.aload_n 0, 1) := by decide +kernel
theorem dX4_readPerson_1 : decode cX4_readPerson 1 = .ok (.iconst 0, 1) := by decide +kernel
theorem dX4_readPerson_2 : decode cX4_readPerson 2 = .ok (.aload_n 1, 1) := by decide +kernel
theorem dX4_readPerson_3 : decode cX4_readPerson 3 = .ok (.getfield 77, 3) := by decide +kernel
theorem dX4_readPerson_6 : decode cX4_readPerson 6 = .ok (.iconst 1, 1) := by decide +kernel
theorem dX4_readPerson_7 : decode cX4_readPerson 7 = .ok (.isub, 1) := by decide +kernel
theorem dX4_readPerson_8 : decode cX4_readPerson 8 = .ok (.invokevirtual 99, 3) := by decide +kernel
theorem dX4_readPerson_11 : decode cX4_readPerson 11 = .ok (.ireturn, 1) := by decide +kernel
theorem dX4_readPeople_0 : decode cX4_readPeople 0 = .ok (.aload_n 0, 1) := by decide +kernel
theorem dX4_readPeople_1 : decode cX4_readPeople 1 = .ok (.iconst 1, 1) := by decide +kernel
theorem dX4_readPeople_2 : decode cX4_readPeople 2 = .ok (.bipush 7, 2) := by decide +kernel
theorem dX4_readPeople_4 : decode cX4_readPeople 4 = .ok (.invokevirtual 99, 3) := by decide +kernel
theorem dX4_readPeople_7 : decode cX4_readPeople 7 = .ok (.istore_n 2, 1) := by decide +kernel
theorem dX4_readPeople_8 : decode cX4_readPeople 8 = .ok (.aload_n 0, 1) := by decide +kernel
theorem dX4_readPeople_9 : decode cX4_readPeople 9 = .ok (.getfield 31, 3) := by decide +kernel
theorem dX4_readPeople_12 : decode cX4_readPeople 12 = .ok (.ifCond .ne 8, 3) := by decide +kernel
theorem dX4_readPeople_15 : decode cX4_readPeople 15 = .ok (.aload_n 1, 1) := by decide +kernel
theorem dX4_readPeople_16 : decode cX4_readPeople 16 = .ok (.iload_n 2, 1) := by decide +kernel
theorem dX4_readPeople_17 : decode cX4_readPeople 17 = .ok (.putfield 77, 3) := by decide +kernel
theorem dX4_readPeople_20 : decode cX4_readPeople 20 = .ok (.return_, 1) := by decide +kernel
theorem dX4_readFact_0 : decode cX4_readFact 0 = .ok (.aload_n 0, 1) := by decide +kernel
theorem dX4_readFact_1 : decode cX4_readFact 1 = .ok (.aload_n 1, 1) := by decide +kernel
theorem dX4_readFact_2 : decode cX4_readFact 2 = .ok (.invokevirtual 103, 3) := by decide +kernel
theorem dX4_readFact_5 : decode cX4_readFact 5 = .ok (.istore_n 2, 1) := by decide +kernel
theorem dX4_readFact_6 : decode cX4_readFact 6 = .ok (.aload_n 0, 1) := by decide +kernel
theorem dX4_readFact_7 : decode cX4_readFact 7 = .ok (.iconst 1, 1) := by decide +kernel
theorem dX4_readFact_8 : decode cX4_readFact 8 = .ok (.bipush 9, 2) := by decide +kernel
theorem dX4_readFact_10 : decode cX4_readFact 10 = .ok (.invokevirtual 99, 3) := by decide +kernel
theorem dX4_readFact_13 : decode cX4_readFact 13 = .ok (.istore_n 3, 1) := by decide +kernel
theorem dX4_readFact_14 : decode cX4_readFact 14 = .ok (.aload_n 0, 1) := by decide +kernel
theorem dX4_readFact_15 : decode cX4_readFact 15 = .ok (.iconst 0, 1) := by decide +kernel
theorem dX4_readFact_16 : decode cX4_readFact 16 = .ok (.iconst 1, 1) := by decide +kernel
theorem dX4_readFact_17 : decode cX4_readFact 17 = .ok (.invokevirtual 99, 3) := by decide +kernel
theorem dX4_readFact_20 : decode cX4_readFact 20 = .ok (.istore 4, 2) := by decide +kernel
theorem dX4_readFact_22 : decode cX4_readFact 22 = .ok (.aload_n 0, 1) := by decide +kernel
theorem dX4_readFact_23 : decode cX4_readFact 23 = .ok (.getfield 31, 3) := by decide +kernel
theorem dX4_readFact_26 : decode cX4_readFact 26 = .ok (.ifCond .ne 11, 3) := by decide +kernel
theorem dX4_readFact_29 : decode cX4_readFact 29 = .ok (.aload_n 1, 1) := by decide +kernel
theorem dX4_readFact_30 : decode cX4_readFact 30 = .ok (.iload_n 2, 1) := by decide +kernel
theorem dX4_readFact_31 : decode cX4_readFact 31 = .ok (.iload_n 3, 1) := by decide +kernel
theorem dX4_readFact_32 : decode cX4_readFact 32 = .ok (.iload 4, 2) := by decide +kernel
theorem dX4_readFact_34 : decode cX4_readFact 34 = .ok (.invokevirtual 107, 3) := by decide +kernel
theorem dX4_readFact_37 : decode cX4_readFact 37 = .ok (.return_, 1) := by decide +kernel
theorem dX4_readKnowers_0 : decode cX4_readKnowers 0 = .ok (.aload_n 0, 1) := by decide +kernel
theorem dX4_readKnowers_1 : decode cX4_readKnowers 1 = .ok (.iconst 0, 1) := by decide +kernel
theorem dX4_readKnowers_2 : decode cX4_readKnowers 2 = .ok (.aload_n 1, 1) := by decide +kernel
theorem dX4_readKnowers_3 : decode cX4_readKnowers 3 = .ok (.getfield 80, 3) := by decide +kernel
theorem dX4_readKnowers_6 : decode cX4_readKnowers 6 = .ok (.iconst 1, 1) := by decide +kernel
theorem dX4_readKnowers_7 : decode cX4_readKnowers 7 = .ok (.isub, 1) := by decide +kernel
theorem dX4_readKnowers_8 : decode cX4_readKnowers 8 = .ok (.invokevirtual 99, 3) := by decide +kernel
theorem dX4_readKnowers_11 : decode cX4_readKnowers 11 = .ok (.istore_n 2, 1) := by decide +kernel
theorem dX4_readKnowers_12 : decode cX4_readKnowers 12 = .ok (.aload_n 0, 1) := by decide +kernel
theorem dX4_readKnowers_13 : decode cX4_readKnowers 13 = .ok (.getfield 31, 3) := by decide +kernel
theorem dX4_readKnowers_16 : decode cX4_readKnowers 16 = .ok (.ifCond .ne 23, 3) := by decide +kernel
theorem dX4_readKnowers_19 : decode cX4_readKnowers 19 = .ok (.aload_n 1, 1) := by decide +kernel
theorem dX4_readKnowers_20 : decode cX4_readKnowers 20 = .ok (.getfield 111, 3) := by decide +kernel
theorem dX4_readKnowers_23 : decode cX4_readKnowers 23 = .ok (.iload_n 2, 1) := by decide +kernel
theorem dX4_readKnowers_24 : decode cX4_readKnowers 24 = .ok (.ishr, 1) := by decide +kernel
theorem dX4_readKnowers_25 : decode cX4_readKnowers 25 = .ok (.iconst 1, 1) := by decide +kernel
theorem dX4_readKnowers_26 : decode cX4_readKnowers 26 = .ok (.iand, 1) := by decide +kernel
theorem dX4_readKnowers_27 : decode cX4_readKnowers 27 = .ok (.ifCond .eq 12, 3) := by decide +kernel
theorem dX4_readKnowers_30 : decode cX4_readKnowers 30 = .ok (.aload_n 0, 1) := by decide +kernel
theorem dX4_readKnowers_31 : decode cX4_readKnowers 31 = .ok (.iconst 4, 1) := by decide +kernel
theorem dX4_readKnowers_32 : decode cX4_readKnowers 32 = .ok (.aload_n 0, 1) := by decide +kernel
theorem dX4_readKnowers_33 : decode cX4_readKnowers 33 = .ok (.getfield 92, 3) := by decide +kernel
theorem dX4_readKnowers_36 : decode cX4_readKnowers 36 = .ok (.invokevirtual 49, 3) := by decide +kernel
theorem dX4_readKnowers_39 : decode cX4_readKnowers 39 = .ok (.aload_n 0, 1) := by decide +kernel
theorem dX4_readKnowers_40 : decode cX4_readKnowers 40 = .ok (.iconst 0, 1) := by decide +kernel
theorem dX4_readKnowers_41 : decode cX4_readKnowers 41 = .ok (.aload_n 1, 1) := by decide +kernel
theorem dX4_readKnowers_42 : decode cX4_readKnowers 42 = .ok (.invokevirtual 114, 3) := by decide +kernel
theorem dX4_readKnowers_45 : decode cX4_readKnowers 45 = .ok (.invokevirtual 99, 3) := by decide +kernel
theorem dX4_readKnowers_48 : decode cX4_readKnowers 48 = .ok (.istore_n 3, 1) := by decide +kernel
theorem dX4_readKnowers_49 : decode cX4_readKnowers 49 = .ok (.aload_n 0, 1) := by decide +kernel
theorem dX4_readKnowers_50 : decode cX4_readKnowers 50 = .ok (.getfield 31, 3) := by decide +kernel
theorem dX4_readKnowers_53 : decode cX4_readKnowers 53 = .ok (.ifCond .ne 22, 3) := by decide +kernel
theorem dX4_readKnowers_56 : decode cX4_readKnowers 56 = .ok (.aload_n 1, 1) := by decide +kernel
theorem dX4_readKnowers_57 : decode cX4_readKnowers 57 = .ok (.dup, 1) := by decide +kernel
theorem dX4_readKnowers_58 : decode cX4_readKnowers 58 = .ok (.getfield 111, 3) := by decide +kernel
theorem dX4_readKnowers_61 : decode cX4_readKnowers 61 = .ok (.iconst 1, 1) := by decide +kernel
theorem dX4_readKnowers_62 : decode cX4_readKnowers 62 = .ok (.iload_n 2, 1) := by decide +kernel
theorem dX4_readKnowers_63 : decode cX4_readKnowers 63 = .ok (.ishl, 1) := by decide +kernel
theorem dX4_readKnowers_64 : decode cX4_readKnowers 64 = .ok (.ior, 1) := by decide +kernel
theorem dX4_readKnowers_65 : decode cX4_readKnowers 65 = .ok (.putfield 111, 3) := by decide +kernel
theorem dX4_readKnowers_68 : decode cX4_readKnowers 68 = .ok (.aload_n 1, 1) := by decide +kernel
theorem dX4_readKnowers_69 : decode cX4_readKnowers 69 = .ok (.getfield 117, 3) := by decide +kernel
theorem dX4_readKnowers_72 : decode cX4_readKnowers 72 = .ok (.iload_n 2, 1) := by decide +kernel
theorem dX4_readKnowers_73 : decode cX4_readKnowers 73 = .ok (.iload_n 3, 1) := by decide +kernel
theorem dX4_readKnowers_74 : decode cX4_readKnowers 74 = .ok (.iastore, 1) := by decide +kernel
theorem dX4_readKnowers_75 : decode cX4_readKnowers 75 = .ok (.return_, 1) := by decide +kernel
theorem dX4_readFriendship_0 : decode cX4_readFriendship 0 = .ok (.aload_n 0, 1) := by decide +kernel
theorem dX4_readFriendship_1 : decode cX4_readFriendship 1 = .ok (.aload_n 1, 1) := by decide +kernel
theorem dX4_readFriendship_2 : decode cX4_readFriendship 2 = .ok (.invokevirtual 103, 3) := by decide +kernel
theorem dX4_readFriendship_5 : decode cX4_readFriendship 5 = .ok (.istore_n 2, 1) := by decide +kernel
theorem dX4_readFriendship_6 : decode cX4_readFriendship 6 = .ok (.aload_n 0, 1) := by decide +kernel
theorem dX4_readFriendship_7 : decode cX4_readFriendship 7 = .ok (.aload_n 1, 1) := by decide +kernel
theorem dX4_readFriendship_8 : decode cX4_readFriendship 8 = .ok (.invokevirtual 103, 3) := by decide +kernel
theorem dX4_readFriendship_11 : decode cX4_readFriendship 11 = .ok (.istore_n 3, 1) := by decide +kernel
theorem dX4_readFriendship_12 : decode cX4_readFriendship 12 = .ok (.aload_n 0, 1) := by decide +kernel
theorem dX4_readFriendship_13 : decode cX4_readFriendship 13 = .ok (.getfield 31, 3) := by decide +kernel
theorem dX4_readFriendship_16 : decode cX4_readFriendship 16 = .ok (.ifCond .ne 30, 3) := by decide +kernel
theorem dX4_readFriendship_19 : decode cX4_readFriendship 19 = .ok (.iload_n 2, 1) := by decide +kernel
theorem dX4_readFriendship_20 : decode cX4_readFriendship 20 = .ok (.iload_n 3, 1) := by decide +kernel
theorem dX4_readFriendship_21 : decode cX4_readFriendship 21 = .ok (.if_icmp .eq 16, 3) := by decide +kernel
theorem dX4_readFriendship_24 : decode cX4_readFriendship 24 = .ok (.aload_n 1, 1) := by decide +kernel
theorem dX4_readFriendship_25 : decode cX4_readFriendship 25 = .ok (.getfield 120, 3) := by decide +kernel
theorem dX4_readFriendship_28 : decode cX4_readFriendship 28 = .ok (.iload_n 2, 1) := by decide +kernel
theorem dX4_readFriendship_29 : decode cX4_readFriendship 29 = .ok (.iaload, 1) := by decide +kernel
theorem dX4_readFriendship_30 : decode cX4_readFriendship 30 = .ok (.iload_n 3, 1) := by decide +kernel
theorem dX4_readFriendship_31 : decode cX4_readFriendship 31 = .ok (.ishr, 1) := by decide +kernel
theorem dX4_readFriendship_32 : decode cX4_readFriendship 32 = .ok (.iconst 1, 1) := by decide +kernel
theorem dX4_readFriendship_33 : decode cX4_readFriendship 33 = .ok (.iand, 1) := by decide +kernel
theorem dX4_readFriendship_34 : decode cX4_readFriendship 34 = .ok (.ifCond .eq 12, 3) := by decide +kernel
theorem dX4_readFriendship_37 : decode cX4_readFriendship 37 = .ok (.aload_n 0, 1) := by decide +kernel
theorem dX4_readFriendship_38 : decode cX4_readFriendship 38 = .ok (.iconst 4, 1) := by decide +kernel
theorem dX4_readFriendship_39 : decode cX4_readFriendship 39 = .ok (.aload_n 0, 1) := by decide +kernel
theorem dX4_readFriendship_40 : decode cX4_readFriendship 40 = .ok (.getfield 92, 3) := by decide +kernel
theorem dX4_readFriendship_43 : decode cX4_readFriendship 43 = .ok (.invokevirtual 49, 3) := by decide +kernel
theorem dX4_readFriendship_46 : decode cX4_readFriendship 46 = .ok (.aload_n 0, 1) := by decide +kernel
theorem dX4_readFriendship_47 : decode cX4_readFriendship 47 = .ok (.getfield 31, 3) := by decide +kernel
theorem dX4_readFriendship_50 : decode cX4_readFriendship 50 = .ok (.ifCond .ne 9, 3) := by decide +kernel
theorem dX4_readFriendship_53 : decode cX4_readFriendship 53 = .ok (.aload_n 1, 1) := by decide +kernel
theorem dX4_readFriendship_54 : decode cX4_readFriendship 54 = .ok (.iload_n 2, 1) := by decide +kernel
theorem dX4_readFriendship_55 : decode cX4_readFriendship 55 = .ok (.iload_n 3, 1) := by decide +kernel
theorem dX4_readFriendship_56 : decode cX4_readFriendship 56 = .ok (.invokevirtual 123, 3) := by decide +kernel
theorem dX4_readFriendship_59 : decode cX4_readFriendship 59 = .ok (.return_, 1) := by decide +kernel
theorem dX4_readQuiet_0 : decode cX4_readQuiet 0 = .ok (.aload_n 0, 1) := by decide +kernel
theorem dX4_readQuiet_1 : decode cX4_readQuiet 1 = .ok (.aload_n 1, 1) := by decide +kernel
theorem dX4_readQuiet_2 : decode cX4_readQuiet 2 = .ok (.invokevirtual 103, 3) := by decide +kernel
theorem dX4_readQuiet_5 : decode cX4_readQuiet 5 = .ok (.istore_n 2, 1) := by decide +kernel
theorem dX4_readQuiet_6 : decode cX4_readQuiet 6 = .ok (.aload_n 0, 1) := by decide +kernel
theorem dX4_readQuiet_7 : decode cX4_readQuiet 7 = .ok (.getfield 31, 3) := by decide +kernel
theorem dX4_readQuiet_10 : decode cX4_readQuiet 10 = .ok (.ifCond .ne 20, 3) := by decide +kernel
theorem dX4_readQuiet_13 : decode cX4_readQuiet 13 = .ok (.aload_n 1, 1) := by decide +kernel
theorem dX4_readQuiet_14 : decode cX4_readQuiet 14 = .ok (.iload_n 2, 1) := by decide +kernel
theorem dX4_readQuiet_15 : decode cX4_readQuiet 15 = .ok (.invokevirtual 126, 3) := by decide +kernel
theorem dX4_readQuiet_18 : decode cX4_readQuiet 18 = .ok (.ifCond .eq 12, 3) := by decide +kernel
theorem dX4_readQuiet_21 : decode cX4_readQuiet 21 = .ok (.aload_n 0, 1) := by decide +kernel
theorem dX4_readQuiet_22 : decode cX4_readQuiet 22 = .ok (.iconst 4, 1) := by decide +kernel
theorem dX4_readQuiet_23 : decode cX4_readQuiet 23 = .ok (.aload_n 0, 1) := by decide +kernel
theorem dX4_readQuiet_24 : decode cX4_readQuiet 24 = .ok (.getfield 92, 3) := by decide +kernel
theorem dX4_readQuiet_27 : decode cX4_readQuiet 27 = .ok (.invokevirtual 49, 3) := by decide +kernel
theorem dX4_readQuiet_30 : decode cX4_readQuiet 30 = .ok (.aload_n 0, 1) := by decide +kernel
theorem dX4_readQuiet_31 : decode cX4_readQuiet 31 = .ok (.getfield 31, 3) := by decide +kernel
theorem dX4_readQuiet_34 : decode cX4_readQuiet 34 = .ok (.ifCond .ne 15, 3) := by decide +kernel
theorem dX4_readQuiet_37 : decode cX4_readQuiet 37 = .ok (.aload_n 1, 1) := by decide +kernel
theorem dX4_readQuiet_38 : decode cX4_readQuiet 38 = .ok (.dup, 1) := by decide +kernel
theorem dX4_readQuiet_39 : decode cX4_readQuiet 39 = .ok (.getfield 130, 3) := by decide +kernel
theorem dX4_readQuiet_42 : decode cX4_readQuiet 42 = .ok (.iconst 1, 1) := by decide +kernel
theorem dX4_readQuiet_43 : decode cX4_readQuiet 43 = .ok (.iload_n 2, 1) := by decide +kernel
theorem dX4_readQuiet_44 : decode cX4_readQuiet 44 = .ok (.ishl, 1) := by decide +kernel
theorem dX4_readQuiet_45 : decode cX4_readQuiet 45 = .ok (.ior, 1) := by decide +kernel
theorem dX4_readQuiet_46 : decode cX4_readQuiet 46 = .ok (.putfield 130, 3) := by decide +kernel
theorem dX4_readQuiet_49 : decode cX4_readQuiet 49 = .ok (.return_, 1) := by decide +kernel
theorem dX4_readBridge_0 : decode cX4_readBridge 0 = .ok (.aload_n 0, 1) := by decide +kernel
theorem dX4_readBridge_1 : decode cX4_readBridge 1 = .ok (.iconst 0, 1) := by decide +kernel
theorem dX4_readBridge_2 : decode cX4_readBridge 2 = .ok (.sipush 999, 3) := by decide +kernel
theorem dX4_readBridge_5 : decode cX4_readBridge 5 = .ok (.invokevirtual 99, 3) := by decide +kernel
theorem dX4_readBridge_8 : decode cX4_readBridge 8 = .ok (.istore_n 2, 1) := by decide +kernel
theorem dX4_readBridge_9 : decode cX4_readBridge 9 = .ok (.aload_n 0, 1) := by decide +kernel
theorem dX4_readBridge_10 : decode cX4_readBridge 10 = .ok (.getfield 31, 3) := by decide +kernel
theorem dX4_readBridge_13 : decode cX4_readBridge 13 = .ok (.ifCond .ne 23, 3) := by decide +kernel
theorem dX4_readBridge_16 : decode cX4_readBridge 16 = .ok (.aload_n 1, 1) := by decide +kernel
theorem dX4_readBridge_17 : decode cX4_readBridge 17 = .ok (.getfield 133, 3) := by decide +kernel
theorem dX4_readBridge_20 : decode cX4_readBridge 20 = .ok (.aload_n 1, 1) := by decide +kernel
theorem dX4_readBridge_21 : decode cX4_readBridge 21 = .ok (.getfield 86, 3) := by decide +kernel
theorem dX4_readBridge_24 : decode cX4_readBridge 24 = .ok (.iload_n 2, 1) := by decide +kernel
theorem dX4_readBridge_25 : decode cX4_readBridge 25 = .ok (.iastore, 1) := by decide +kernel
theorem dX4_readBridge_26 : decode cX4_readBridge 26 = .ok (.aload_n 1, 1) := by decide +kernel
theorem dX4_readBridge_27 : decode cX4_readBridge 27 = .ok (.dup, 1) := by decide +kernel
theorem dX4_readBridge_28 : decode cX4_readBridge 28 = .ok (.getfield 86, 3) := by decide +kernel
theorem dX4_readBridge_31 : decode cX4_readBridge 31 = .ok (.iconst 1, 1) := by decide +kernel
theorem dX4_readBridge_32 : decode cX4_readBridge 32 = .ok (.iadd, 1) := by decide +kernel
theorem dX4_readBridge_33 : decode cX4_readBridge 33 = .ok (.putfield 86, 3) := by decide +kernel
theorem dX4_readBridge_36 : decode cX4_readBridge 36 = .ok (.return_, 1) := by decide +kernel
theorem dX4_readMemory_0 : decode cX4_readMemory 0 = .ok (.aload_n 0, 1) := by decide +kernel
theorem dX4_readMemory_1 : decode cX4_readMemory 1 = .ok (.iconst 1, 1) := by decide +kernel
theorem dX4_readMemory_2 : decode cX4_readMemory 2 = .ok (.bipush 99, 2) := by decide +kernel
theorem dX4_readMemory_4 : decode cX4_readMemory 4 = .ok (.invokevirtual 99, 3) := by decide +kernel
theorem dX4_readMemory_7 : decode cX4_readMemory 7 = .ok (.istore_n 2, 1) := by decide +kernel
theorem dX4_readMemory_8 : decode cX4_readMemory 8 = .ok (.aload_n 0, 1) := by decide +kernel
theorem dX4_readMemory_9 : decode cX4_readMemory 9 = .ok (.getfield 31, 3) := by decide +kernel
theorem dX4_readMemory_12 : decode cX4_readMemory 12 = .ok (.ifCond .ne 8, 3) := by decide +kernel
theorem dX4_readMemory_15 : decode cX4_readMemory 15 = .ok (.aload_n 1, 1) := by decide +kernel
theorem dX4_readMemory_16 : decode cX4_readMemory 16 = .ok (.iload_n 2, 1) := by decide +kernel
theorem dX4_readMemory_17 : decode cX4_readMemory 17 = .ok (.putfield 89, 3) := by decide +kernel
theorem dX4_readMemory_20 : decode cX4_readMemory 20 = .ok (.return_, 1) := by decide +kernel
theorem dX5_init_0 : decode cX5_init 0 = .ok (.aload_n 0, 1) := by decide +kernel
theorem dX5_init_1 : decode cX5_init 1 = .ok (.invokespecial 3, 3) := by decide +kernel
theorem dX5_init_4 : decode cX5_init 4 = .ok (.aload_n 0, 1) := by decide +kernel
theorem dX5_init_5 : decode cX5_init 5 = .ok (.bipush 73, 2) := by decide +kernel
theorem dX5_init_7 : decode cX5_init 7 = .ok (.newarray .int, 2) := by decide +kernel
theorem dX5_init_9 : decode cX5_init 9 = .ok (.putfield 9, 3) := by decide +kernel
theorem dX5_init_12 : decode cX5_init 12 = .ok (.aload_n 0, 1) := by decide +kernel
theorem dX5_init_13 : decode cX5_init 13 = .ok (.bipush 73, 2) := by decide +kernel
theorem dX5_init_15 : decode cX5_init 15 = .ok (.newarray .int, 2) := by decide +kernel
theorem dX5_init_17 : decode cX5_init 17 = .ok (.putfield 15, 3) := by decide +kernel
theorem dX5_init_20 : decode cX5_init 20 = .ok (.return_, 1) := by decide +kernel
theorem dX5_agree_0 : decode cX5_agree 0 = .ok (.aload_n 1, 1) := by decide +kernel
theorem dX5_agree_1 : decode cX5_agree 1 = .ok (.iload_n 2, 1) := by decide +kernel
theorem dX5_agree_2 : decode cX5_agree 2 = .ok (.aload_n 0, 1) := by decide +kernel
theorem dX5_agree_3 : decode cX5_agree 3 = .ok (.getfield 9, 3) := by decide +kernel
theorem dX5_agree_6 : decode cX5_agree 6 = .ok (.invokestatic 18, 3) := by decide +kernel
theorem dX5_agree_9 : decode cX5_agree 9 = .ok (.aload_n 1, 1) := by decide +kernel
theorem dX5_agree_10 : decode cX5_agree 10 = .ok (.iload_n 3, 1) := by decide +kernel
theorem dX5_agree_11 : decode cX5_agree 11 = .ok (.aload_n 0, 1) := by decide +kernel
theorem dX5_agree_12 : decode cX5_agree 12 = .ok (.getfield 15, 3) := by decide +kernel
theorem dX5_agree_15 : decode cX5_agree 15 = .ok (.invokestatic 18, 3) := by decide +kernel
theorem dX5_agree_18 : decode cX5_agree 18 = .ok (.bipush 72, 2) := by decide +kernel
theorem dX5_agree_20 : decode cX5_agree 20 = .ok (.istore 4, 2) := by decide +kernel
theorem dX5_agree_22 : decode cX5_agree 22 = .ok (.iload 4, 2) := by decide +kernel
theorem dX5_agree_24 : decode cX5_agree 24 = .ok (.ifCond .le 34, 3) := by decide +kernel
theorem dX5_agree_27 : decode cX5_agree 27 = .ok (.aload_n 0, 1) := by decide +kernel
theorem dX5_agree_28 : decode cX5_agree 28 = .ok (.getfield 9, 3) := by decide +kernel
theorem dX5_agree_31 : decode cX5_agree 31 = .ok (.iload 4, 2) := by decide +kernel
theorem dX5_agree_33 : decode cX5_agree 33 = .ok (.iaload, 1) := by decide +kernel
theorem dX5_agree_34 : decode cX5_agree 34 = .ok (.iconst (-1), 1) := by decide +kernel
theorem dX5_agree_35 : decode cX5_agree 35 = .ok (.if_icmp .eq 17, 3) := by decide +kernel
theorem dX5_agree_38 : decode cX5_agree 38 = .ok (.aload_n 0, 1) := by decide +kernel
theorem dX5_agree_39 : decode cX5_agree 39 = .ok (.getfield 15, 3) := by decide +kernel
theorem dX5_agree_42 : decode cX5_agree 42 = .ok (.iload 4, 2) := by decide +kernel
theorem dX5_agree_44 : decode cX5_agree 44 = .ok (.iaload, 1) := by decide +kernel
theorem dX5_agree_45 : decode cX5_agree 45 = .ok (.iconst (-1), 1) := by decide +kernel
theorem dX5_agree_46 : decode cX5_agree 46 = .ok (.if_icmp .eq 6, 3) := by decide +kernel
theorem dX5_agree_49 : decode cX5_agree 49 = .ok (.iload 4, 2) := by decide +kernel
theorem dX5_agree_51 : decode cX5_agree 51 = .ok (.ireturn, 1) := by decide +kernel
theorem dX5_agree_52 : decode cX5_agree 52 = .ok (.iinc 4 (-1), 3) := by decide +kernel
theorem dX5_agree_55 : decode cX5_agree 55 = .ok (.goto (-33), 3) := by decide +kernel
theorem dX5_agree_58 : decode cX5_agree 58 = .ok (.iconst 0, 1) := by decide +kernel
theorem dX5_agree_59 : decode cX5_agree 59 = .ok (.ireturn, 1) := by decide +kernel
theorem dX5_findParts_0 : decode cX5_findParts 0 = .ok (.aload_n 2, 1) := by decide +kernel
theorem dX5_findParts_1 : decode cX5_findParts 1 = .ok (.iconst (-1), 1) := by decide +kernel
theorem dX5_findParts_2 : decode cX5_findParts 2 = .ok (.invokestatic 22, 3) := by decide +kernel
theorem dX5_findParts_5 : decode cX5_findParts 5 = .ok (.iconst 0, 1) := by decide +kernel
theorem dX5_findParts_6 : decode cX5_findParts 6 = .ok (.istore_n 3, 1) := by decide +kernel
theorem dX5_findParts_7 : decode cX5_findParts 7 = .ok (.iload_n 3, 1) := by decide +kernel
theorem dX5_findParts_8 : decode cX5_findParts 8 = .ok (.iload_n 1, 1) := by decide +kernel
theorem dX5_findParts_9 : decode cX5_findParts 9 = .ok (.if_icmp .gt 37, 3) := by decide +kernel
theorem dX5_findParts_12 : decode cX5_findParts 12 = .ok (.iload_n 3, 1) := by decide +kernel
theorem dX5_findParts_13 : decode cX5_findParts 13 = .ok (.iload_n 1, 1) := by decide +kernel
theorem dX5_findParts_14 : decode cX5_findParts 14 = .ok (.iconst (-1), 1) := by decide +kernel
theorem dX5_findParts_15 : decode cX5_findParts 15 = .ok (.ixor, 1) := by decide +kernel
theorem dX5_findParts_16 : decode cX5_findParts 16 = .ok (.iand, 1) := by decide +kernel
theorem dX5_findParts_17 : decode cX5_findParts 17 = .ok (.ifCond .ne 23, 3) := by decide +kernel
theorem dX5_findParts_20 : decode cX5_findParts 20 = .ok (.aload_n 0, 1) := by decide +kernel
theorem dX5_findParts_21 : decode cX5_findParts 21 = .ok (.iload_n 3, 1) := by decide +kernel
theorem dX5_findParts_22 : decode cX5_findParts 22 = .ok (.invokestatic 28, 3) := by decide +kernel
theorem dX5_findParts_25 : decode cX5_findParts 25 = .ok (.istore 4, 2) := by decide +kernel
theorem dX5_findParts_27 : decode cX5_findParts 27 = .ok (.aload_n 2, 1) := by decide +kernel
theorem dX5_findParts_28 : decode cX5_findParts 28 = .ok (.iload 4, 2) := by decide +kernel
theorem dX5_findParts_30 : decode cX5_findParts 30 = .ok (.iaload, 1) := by decide +kernel
theorem dX5_findParts_31 : decode cX5_findParts 31 = .ok (.iconst (-1), 1) := by decide +kernel
theorem dX5_findParts_32 : decode cX5_findParts 32 = .ok (.if_icmp .ne 8, 3) := by decide +kernel
theorem dX5_findParts_35 : decode cX5_findParts 35 = .ok (.aload_n 2, 1) := by decide +kernel
theorem dX5_findParts_36 : decode cX5_findParts 36 = .ok (.iload 4, 2) := by decide +kernel
theorem dX5_findParts_38 : decode cX5_findParts 38 = .ok (.iload_n 3, 1) := by decide +kernel
theorem dX5_findParts_39 : decode cX5_findParts 39 = .ok (.iastore, 1) := by decide +kernel
theorem dX5_findParts_40 : decode cX5_findParts 40 = .ok (.iinc 3 1, 3) := by decide +kernel
theorem dX5_findParts_43 : decode cX5_findParts 43 = .ok (.goto (-36), 3) := by decide +kernel
theorem dX5_findParts_46 : decode cX5_findParts 46 = .ok (.return_, 1) := by decide +kernel
theorem dX5_gramsAHead_0 : decode cX5_gramsAHead 0 = .ok (.iconst 0, 1) := by decide +kernel
theorem dX5_gramsAHead_1 : decode cX5_gramsAHead 1 = .ok (.istore_n 2, 1) := by decide +kernel
theorem dX5_gramsAHead_2 : decode cX5_gramsAHead 2 = .ok (.iconst 0, 1) := by decide +kernel
theorem dX5_gramsAHead_3 : decode cX5_gramsAHead 3 = .ok (.istore_n 3, 1) := by decide +kernel
theorem dX5_gramsAHead_4 : decode cX5_gramsAHead 4 = .ok (.iload_n 3, 1) := by decide +kernel
theorem dX5_gramsAHead_5 : decode cX5_gramsAHead 5 = .ok (.aload_n 0, 1) := by decide +kernel
theorem dX5_gramsAHead_6 : decode cX5_gramsAHead 6 = .ok (.getfield 32, 3) := by decide +kernel
theorem dX5_gramsAHead_9 : decode cX5_gramsAHead 9 = .ok (.if_icmp .ge 24, 3) := by decide +kernel
theorem dX5_gramsAHead_12 : decode cX5_gramsAHead 12 = .ok (.iload_n 2, 1) := by decide +kernel
theorem dX5_gramsAHead_13 : decode cX5_gramsAHead 13 = .ok (.iload_n 1, 1) := by decide +kernel
theorem dX5_gramsAHead_14 : decode cX5_gramsAHead 14 = .ok (.iload_n 3, 1) := by decide +kernel
theorem dX5_gramsAHead_15 : decode cX5_gramsAHead 15 = .ok (.ishr, 1) := by decide +kernel
theorem dX5_gramsAHead_16 : decode cX5_gramsAHead 16 = .ok (.iconst 1, 1) := by decide +kernel
theorem dX5_gramsAHead_17 : decode cX5_gramsAHead 17 = .ok (.iand, 1) := by decide +kernel
theorem dX5_gramsAHead_18 : decode cX5_gramsAHead 18 = .ok (.aload_n 0, 1) := by decide +kernel
theorem dX5_gramsAHead_19 : decode cX5_gramsAHead 19 = .ok (.getfield 38, 3) := by decide +kernel
theorem dX5_gramsAHead_22 : decode cX5_gramsAHead 22 = .ok (.iload_n 3, 1) := by decide +kernel
theorem dX5_gramsAHead_23 : decode cX5_gramsAHead 23 = .ok (.iaload, 1) := by decide +kernel
theorem dX5_gramsAHead_24 : decode cX5_gramsAHead 24 = .ok (.imul, 1) := by decide +kernel
theorem dX5_gramsAHead_25 : decode cX5_gramsAHead 25 = .ok (.iadd, 1) := by decide +kernel
theorem dX5_gramsAHead_26 : decode cX5_gramsAHead 26 = .ok (.istore_n 2, 1) := by decide +kernel
theorem dX5_gramsAHead_27 : decode cX5_gramsAHead 27 = .ok (.iinc 3 1, 3) := by decide +kernel
theorem dX5_gramsAHead_30 : decode cX5_gramsAHead 30 = .ok (.goto (-26), 3) := by decide +kernel
theorem dX5_gramsAHead_33 : decode cX5_gramsAHead 33 = .ok (.iload_n 2, 1) := by decide +kernel
theorem dX5_gramsAHead_34 : decode cX5_gramsAHead 34 = .ok (.ireturn, 1) := by decide +kernel
theorem dX6_init_0 : decode cX6_init 0 = .ok (.aload_n 0, 1) := by decide +kernel
theorem dX6_init_1 : decode cX6_init 1 = .ok (.invokespecial 3, 3) := by decide +kernel
theorem dX6_init_4 : decode cX6_init 4 = .ok (.aload_n 0, 1) := by decide +kernel
theorem dX6_init_5 : decode cX6_init 5 = .ok (.bipush 15, 2) := by decide +kernel
theorem dX6_init_7 : decode cX6_init 7 = .ok (.newarray .int, 2) := by decide +kernel
theorem dX6_init_9 : decode cX6_init 9 = .ok (.putfield 9, 3) := by decide +kernel
theorem dX6_init_12 : decode cX6_init 12 = .ok (.aload_n 0, 1) := by decide +kernel
theorem dX6_init_13 : decode cX6_init 13 = .ok (.bipush 15, 2) := by decide +kernel
theorem dX6_init_15 : decode cX6_init 15 = .ok (.newarray .int, 2) := by decide +kernel
theorem dX6_init_17 : decode cX6_init 17 = .ok (.putfield 15, 3) := by decide +kernel
theorem dX6_init_20 : decode cX6_init 20 = .ok (.return_, 1) := by decide +kernel
theorem dX6_add_0 : decode cX6_add 0 = .ok (.aload_n 0, 1) := by decide +kernel
theorem dX6_add_1 : decode cX6_add 1 = .ok (.getfield 18, 3) := by decide +kernel
theorem dX6_add_4 : decode cX6_add 4 = .ok (.bipush 15, 2) := by decide +kernel
theorem dX6_add_6 : decode cX6_add 6 = .ok (.if_icmp .lt 6, 3) := by decide +kernel
theorem dX6_add_9 : decode cX6_add 9 = .ok (.ldc 22, 2) := by decide +kernel
theorem dX6_add_11 : decode cX6_add 11 = .ok (.ireturn, 1) := by decide +kernel
theorem dX6_add_12 : decode cX6_add 12 = .ok (.aload_n 0, 1) := by decide +kernel
theorem dX6_add_13 : decode cX6_add 13 = .ok (.getfield 9, 3) := by decide +kernel
theorem dX6_add_16 : decode cX6_add 16 = .ok (.aload_n 0, 1) := by decide +kernel
theorem dX6_add_17 : decode cX6_add 17 = .ok (.getfield 18, 3) := by decide +kernel
theorem dX6_add_20 : decode cX6_add 20 = .ok (.iload_n 1, 1) := by decide +kernel
theorem dX6_add_21 : decode cX6_add 21 = .ok (.iastore, 1) := by decide +kernel
theorem dX6_add_22 : decode cX6_add 22 = .ok (.aload_n 0, 1) := by decide +kernel
theorem dX6_add_23 : decode cX6_add 23 = .ok (.getfield 15, 3) := by decide +kernel
theorem dX6_add_26 : decode cX6_add 26 = .ok (.aload_n 0, 1) := by decide +kernel
theorem dX6_add_27 : decode cX6_add 27 = .ok (.getfield 18, 3) := by decide +kernel
theorem dX6_add_30 : decode cX6_add 30 = .ok (.iload_n 2, 1) := by decide +kernel
theorem dX6_add_31 : decode cX6_add 31 = .ok (.iastore, 1) := by decide +kernel
theorem dX6_add_32 : decode cX6_add 32 = .ok (.aload_n 0, 1) := by decide +kernel
theorem dX6_add_33 : decode cX6_add 33 = .ok (.dup, 1) := by decide +kernel
theorem dX6_add_34 : decode cX6_add 34 = .ok (.getfield 18, 3) := by decide +kernel
theorem dX6_add_37 : decode cX6_add 37 = .ok (.iconst 1, 1) := by decide +kernel
theorem dX6_add_38 : decode cX6_add 38 = .ok (.iadd, 1) := by decide +kernel
theorem dX6_add_39 : decode cX6_add 39 = .ok (.putfield 18, 3) := by decide +kernel
theorem dX6_add_42 : decode cX6_add 42 = .ok (.aload_n 0, 1) := by decide +kernel
theorem dX6_add_43 : decode cX6_add 43 = .ok (.getfield 18, 3) := by decide +kernel
theorem dX6_add_46 : decode cX6_add 46 = .ok (.ireturn, 1) := by decide +kernel
theorem dX6_firstWrong_0 : decode cX6_firstWrong 0 = .ok (.iconst 0, 1) := by decide +kernel
theorem dX6_firstWrong_1 : decode cX6_firstWrong 1 = .ok (.istore_n 3, 1) := by decide +kernel
theorem dX6_firstWrong_2 : decode cX6_firstWrong 2 = .ok (.iload_n 3, 1) := by decide +kernel
theorem dX6_firstWrong_3 : decode cX6_firstWrong 3 = .ok (.aload_n 0, 1) := by decide +kernel
theorem dX6_firstWrong_4 : decode cX6_firstWrong 4 = .ok (.getfield 18, 3) := by decide +kernel
theorem dX6_firstWrong_7 : decode cX6_firstWrong 7 = .ok (.if_icmp .ge 31, 3) := by decide +kernel
theorem dX6_firstWrong_10 : decode cX6_firstWrong 10 = .ok (.aload_n 2, 1) := by decide +kernel
theorem dX6_firstWrong_11 : decode cX6_firstWrong 11 = .ok (.aload_n 1, 1) := by decide +kernel
theorem dX6_firstWrong_12 : decode cX6_firstWrong 12 = .ok (.aload_n 0, 1) := by decide +kernel
theorem dX6_firstWrong_13 : decode cX6_firstWrong 13 = .ok (.getfield 9, 3) := by decide +kernel
theorem dX6_firstWrong_16 : decode cX6_firstWrong 16 = .ok (.iload_n 3, 1) := by decide +kernel
theorem dX6_firstWrong_17 : decode cX6_firstWrong 17 = .ok (.iaload, 1) := by decide +kernel
theorem dX6_firstWrong_18 : decode cX6_firstWrong 18 = .ok (.invokevirtual 23, 3) := by decide +kernel
theorem dX6_firstWrong_21 : decode cX6_firstWrong 21 = .ok (.aload_n 0, 1) := by decide +kernel
theorem dX6_firstWrong_22 : decode cX6_firstWrong 22 = .ok (.getfield 15, 3) := by decide +kernel
theorem dX6_firstWrong_25 : decode cX6_firstWrong 25 = .ok (.iload_n 3, 1) := by decide +kernel
theorem dX6_firstWrong_26 : decode cX6_firstWrong 26 = .ok (.iaload, 1) := by decide +kernel
theorem dX6_firstWrong_27 : decode cX6_firstWrong 27 = .ok (.if_icmp .eq 5, 3) := by decide +kernel
theorem dX6_firstWrong_30 : decode cX6_firstWrong 30 = .ok (.iload_n 3, 1) := by decide +kernel
theorem dX6_firstWrong_31 : decode cX6_firstWrong 31 = .ok (.ireturn, 1) := by decide +kernel
theorem dX6_firstWrong_32 : decode cX6_firstWrong 32 = .ok (.iinc 3 1, 3) := by decide +kernel
theorem dX6_firstWrong_35 : decode cX6_firstWrong 35 = .ok (.goto (-33), 3) := by decide +kernel
theorem dX6_firstWrong_38 : decode cX6_firstWrong 38 = .ok (.iconst (-1), 1) := by decide +kernel
theorem dX6_firstWrong_39 : decode cX6_firstWrong 39 = .ok (.ireturn, 1) := by decide +kernel
theorem dX7_init_0 : decode cX7_init 0 = .ok (.aload_n 0, 1) := by decide +kernel
theorem dX7_init_1 : decode cX7_init 1 = .ok (.invokespecial 3, 3) := by decide +kernel
theorem dX7_init_4 : decode cX7_init 4 = .ok (.aload_n 0, 1) := by decide +kernel
theorem dX7_init_5 : decode cX7_init 5 = .ok (.sipush 433, 3) := by decide +kernel
theorem dX7_init_8 : decode cX7_init 8 = .ok (.newarray .int, 2) := by decide +kernel
theorem dX7_init_10 : decode cX7_init 10 = .ok (.putfield 9, 3) := by decide +kernel
theorem dX7_init_13 : decode cX7_init 13 = .ok (.return_, 1) := by decide +kernel
theorem dX7_spread_0 : decode cX7_spread 0 = .ok (.aload_n 0, 1) := by decide +kernel
theorem dX7_spread_1 : decode cX7_spread 1 = .ok (.getfield 9, 3) := by decide +kernel
theorem dX7_spread_4 : decode cX7_spread 4 = .ok (.iconst 0, 1) := by decide +kernel
theorem dX7_spread_5 : decode cX7_spread 5 = .ok (.invokestatic 15, 3) := by decide +kernel
theorem dX7_spread_8 : decode cX7_spread 8 = .ok (.aload_n 0, 1) := by decide +kernel
theorem dX7_spread_9 : decode cX7_spread 9 = .ok (.getfield 9, 3) := by decide +kernel
theorem dX7_spread_12 : decode cX7_spread 12 = .ok (.iconst 0, 1) := by decide +kernel
theorem dX7_spread_13 : decode cX7_spread 13 = .ok (.iconst 1, 1) := by decide +kernel
theorem dX7_spread_14 : decode cX7_spread 14 = .ok (.iastore, 1) := by decide +kernel
theorem dX7_spread_15 : decode cX7_spread 15 = .ok (.aload_n 0, 1) := by decide +kernel
theorem dX7_spread_16 : decode cX7_spread 16 = .ok (.iconst 0, 1) := by decide +kernel
theorem dX7_spread_17 : decode cX7_spread 17 = .ok (.putfield 21, 3) := by decide +kernel
theorem dX7_spread_20 : decode cX7_spread 20 = .ok (.aload_n 0, 1) := by decide +kernel
theorem dX7_spread_21 : decode cX7_spread 21 = .ok (.iconst 0, 1) := by decide +kernel
theorem dX7_spread_22 : decode cX7_spread 22 = .ok (.putfield 25, 3) := by decide +kernel
theorem dX7_spread_25 : decode cX7_spread 25 = .ok (.aload_n 1, 1) := by decide +kernel
theorem dX7_spread_26 : decode cX7_spread 26 = .ok (.getfield 28, 3) := by decide +kernel
theorem dX7_spread_29 : decode cX7_spread 29 = .ok (.iconst 1, 1) := by decide +kernel
theorem dX7_spread_30 : decode cX7_spread 30 = .ok (.isub, 1) := by decide +kernel
theorem dX7_spread_31 : decode cX7_spread 31 = .ok (.istore_n 3, 1) := by decide +kernel
theorem dX7_spread_32 : decode cX7_spread 32 = .ok (.iconst 0, 1) := by decide +kernel
theorem dX7_spread_33 : decode cX7_spread 33 = .ok (.istore 4, 2) := by decide +kernel
theorem dX7_spread_35 : decode cX7_spread 35 = .ok (.iload 4, 2) := by decide +kernel
theorem dX7_spread_37 : decode cX7_spread 37 = .ok (.aload_n 1, 1) := by decide +kernel
theorem dX7_spread_38 : decode cX7_spread 38 = .ok (.getfield 33, 3) := by decide +kernel
theorem dX7_spread_41 : decode cX7_spread 41 = .ok (.if_icmp .ge 61, 3) := by decide +kernel
theorem dX7_spread_44 : decode cX7_spread 44 = .ok (.iload_n 2, 1) := by decide +kernel
theorem dX7_spread_45 : decode cX7_spread 45 = .ok (.iload 4, 2) := by decide +kernel
theorem dX7_spread_47 : decode cX7_spread 47 = .ok (.ishr, 1) := by decide +kernel
theorem dX7_spread_48 : decode cX7_spread 48 = .ok (.iconst 1, 1) := by decide +kernel
theorem dX7_spread_49 : decode cX7_spread 49 = .ok (.iand, 1) := by decide +kernel
theorem dX7_spread_50 : decode cX7_spread 50 = .ok (.ifCond .eq 46, 3) := by decide +kernel
theorem dX7_spread_53 : decode cX7_spread 53 = .ok (.aload_n 0, 1) := by decide +kernel
theorem dX7_spread_54 : decode cX7_spread 54 = .ok (.dup, 1) := by decide +kernel
theorem dX7_spread_55 : decode cX7_spread 55 = .ok (.getfield 21, 3) := by decide +kernel
theorem dX7_spread_58 : decode cX7_spread 58 = .ok (.aload_n 1, 1) := by decide +kernel
theorem dX7_spread_59 : decode cX7_spread 59 = .ok (.iload 4, 2) := by decide +kernel
theorem dX7_spread_61 : decode cX7_spread 61 = .ok (.invokevirtual 36, 3) := by decide +kernel
theorem dX7_spread_64 : decode cX7_spread 64 = .ok (.ifCond .eq 15, 3) := by decide +kernel
theorem dX7_spread_67 : decode cX7_spread 67 = .ok (.aload_n 1, 1) := by decide +kernel
theorem dX7_spread_68 : decode cX7_spread 68 = .ok (.getfield 40, 3) := by decide +kernel
theorem dX7_spread_71 : decode cX7_spread 71 = .ok (.iload 4, 2) := by decide +kernel
theorem dX7_spread_73 : decode cX7_spread 73 = .ok (.iaload, 1) := by decide +kernel
theorem dX7_spread_74 : decode cX7_spread 74 = .ok (.iload_n 3, 1) := by decide +kernel
theorem dX7_spread_75 : decode cX7_spread 75 = .ok (.imul, 1) := by decide +kernel
theorem dX7_spread_76 : decode cX7_spread 76 = .ok (.goto 4, 3) := by decide +kernel
theorem dX7_spread_79 : decode cX7_spread 79 = .ok (.iconst 0, 1) := by decide +kernel
theorem dX7_spread_80 : decode cX7_spread 80 = .ok (.isub, 1) := by decide +kernel
theorem dX7_spread_81 : decode cX7_spread 81 = .ok (.putfield 21, 3) := by decide +kernel
theorem dX7_spread_84 : decode cX7_spread 84 = .ok (.aload_n 0, 1) := by decide +kernel
theorem dX7_spread_85 : decode cX7_spread 85 = .ok (.aload_n 1, 1) := by decide +kernel
theorem dX7_spread_86 : decode cX7_spread 86 = .ok (.getfield 40, 3) := by decide +kernel
theorem dX7_spread_89 : decode cX7_spread 89 = .ok (.iload 4, 2) := by decide +kernel
theorem dX7_spread_91 : decode cX7_spread 91 = .ok (.iaload, 1) := by decide +kernel
theorem dX7_spread_92 : decode cX7_spread 92 = .ok (.iload_n 3, 1) := by decide +kernel
theorem dX7_spread_93 : decode cX7_spread 93 = .ok (.invokevirtual 43, 3) := by decide +kernel
theorem dX7_spread_96 : decode cX7_spread 96 = .ok (.iinc 4 1, 3) := by decide +kernel
theorem dX7_spread_99 : decode cX7_spread 99 = .ok (.goto (-64), 3) := by decide +kernel
theorem dX7_spread_102 : decode cX7_spread 102 = .ok (.return_, 1) := by decide +kernel
theorem dX7_addFact_0 : decode cX7_addFact 0 = .ok (.aload_n 0, 1) := by decide +kernel
theorem dX7_addFact_1 : decode cX7_addFact 1 = .ok (.sipush 432, 3) := by decide +kernel
theorem dX7_addFact_4 : decode cX7_addFact 4 = .ok (.aload_n 0, 1) := by decide +kernel
theorem dX7_addFact_5 : decode cX7_addFact 5 = .ok (.getfield 25, 3) := by decide +kernel
theorem dX7_addFact_8 : decode cX7_addFact 8 = .ok (.iload_n 1, 1) := by decide +kernel
theorem dX7_addFact_9 : decode cX7_addFact 9 = .ok (.iload_n 2, 1) := by decide +kernel
theorem dX7_addFact_10 : decode cX7_addFact 10 = .ok (.imul, 1) := by decide +kernel
theorem dX7_addFact_11 : decode cX7_addFact 11 = .ok (.iadd, 1) := by decide +kernel
theorem dX7_addFact_12 : decode cX7_addFact 12 = .ok (.invokestatic 47, 3) := by decide +kernel
theorem dX7_addFact_15 : decode cX7_addFact 15 = .ok (.putfield 25, 3) := by decide +kernel
theorem dX7_addFact_18 : decode cX7_addFact 18 = .ok (.aload_n 0, 1) := by decide +kernel
theorem dX7_addFact_19 : decode cX7_addFact 19 = .ok (.getfield 25, 3) := by decide +kernel
theorem dX7_addFact_22 : decode cX7_addFact 22 = .ok (.istore_n 3, 1) := by decide +kernel
theorem dX7_addFact_23 : decode cX7_addFact 23 = .ok (.iload_n 3, 1) := by decide +kernel
theorem dX7_addFact_24 : decode cX7_addFact 24 = .ok (.ifCond .lt 59, 3) := by decide +kernel
theorem dX7_addFact_27 : decode cX7_addFact 27 = .ok (.iconst 0, 1) := by decide +kernel
theorem dX7_addFact_28 : decode cX7_addFact 28 = .ok (.istore 4, 2) := by decide +kernel
theorem dX7_addFact_30 : decode cX7_addFact 30 = .ok (.iconst 0, 1) := by decide +kernel
theorem dX7_addFact_31 : decode cX7_addFact 31 = .ok (.istore 5, 2) := by decide +kernel
theorem dX7_addFact_33 : decode cX7_addFact 33 = .ok (.iload 5, 2) := by decide +kernel
theorem dX7_addFact_35 : decode cX7_addFact 35 = .ok (.iload_n 2, 1) := by decide +kernel
theorem dX7_addFact_36 : decode cX7_addFact 36 = .ok (.if_icmp .gt 33, 3) := by decide +kernel
theorem dX7_addFact_39 : decode cX7_addFact 39 = .ok (.iload 5, 2) := by decide +kernel
theorem dX7_addFact_41 : decode cX7_addFact 41 = .ok (.iload_n 1, 1) := by decide +kernel
theorem dX7_addFact_42 : decode cX7_addFact 42 = .ok (.imul, 1) := by decide +kernel
theorem dX7_addFact_43 : decode cX7_addFact 43 = .ok (.iload_n 3, 1) := by decide +kernel
theorem dX7_addFact_44 : decode cX7_addFact 44 = .ok (.if_icmp .gt 25, 3) := by decide +kernel
theorem dX7_addFact_47 : decode cX7_addFact 47 = .ok (.iload 4, 2) := by decide +kernel
theorem dX7_addFact_49 : decode cX7_addFact 49 = .ok (.aload_n 0, 1) := by decide +kernel
theorem dX7_addFact_50 : decode cX7_addFact 50 = .ok (.getfield 9, 3) := by decide +kernel
theorem dX7_addFact_53 : decode cX7_addFact 53 = .ok (.iload_n 3, 1) := by decide +kernel
theorem dX7_addFact_54 : decode cX7_addFact 54 = .ok (.iload 5, 2) := by decide +kernel
theorem dX7_addFact_56 : decode cX7_addFact 56 = .ok (.iload_n 1, 1) := by decide +kernel
theorem dX7_addFact_57 : decode cX7_addFact 57 = .ok (.imul, 1) := by decide +kernel
theorem dX7_addFact_58 : decode cX7_addFact 58 = .ok (.isub, 1) := by decide +kernel
theorem dX7_addFact_59 : decode cX7_addFact 59 = .ok (.iaload, 1) := by decide +kernel
theorem dX7_addFact_60 : decode cX7_addFact 60 = .ok (.iadd, 1) := by decide +kernel
theorem dX7_addFact_61 : decode cX7_addFact 61 = .ok (.istore 4, 2) := by decide +kernel
theorem dX7_addFact_63 : decode cX7_addFact 63 = .ok (.iinc 5 1, 3) := by decide +kernel
theorem dX7_addFact_66 : decode cX7_addFact 66 = .ok (.goto (-33), 3) := by decide +kernel
theorem dX7_addFact_69 : decode cX7_addFact 69 = .ok (.aload_n 0, 1) := by decide +kernel
theorem dX7_addFact_70 : decode cX7_addFact 70 = .ok (.getfield 9, 3) := by decide +kernel
theorem dX7_addFact_73 : decode cX7_addFact 73 = .ok (.iload_n 3, 1) := by decide +kernel
theorem dX7_addFact_74 : decode cX7_addFact 74 = .ok (.iload 4, 2) := by decide +kernel
theorem dX7_addFact_76 : decode cX7_addFact 76 = .ok (.iastore, 1) := by decide +kernel
theorem dX7_addFact_77 : decode cX7_addFact 77 = .ok (.iinc 3 (-1), 3) := by decide +kernel
theorem dX7_addFact_80 : decode cX7_addFact 80 = .ok (.goto (-57), 3) := by decide +kernel
theorem dX7_addFact_83 : decode cX7_addFact 83 = .ok (.return_, 1) := by decide +kernel
theorem dX7_countAt_0 : decode cX7_countAt 0 = .ok (.iload_n 1, 1) := by decide +kernel
theorem dX7_countAt_1 : decode cX7_countAt 1 = .ok (.aload_n 0, 1) := by decide +kernel
theorem dX7_countAt_2 : decode cX7_countAt 2 = .ok (.getfield 21, 3) := by decide +kernel
theorem dX7_countAt_5 : decode cX7_countAt 5 = .ok (.isub, 1) := by decide +kernel
theorem dX7_countAt_6 : decode cX7_countAt 6 = .ok (.istore_n 2, 1) := by decide +kernel
theorem dX7_countAt_7 : decode cX7_countAt 7 = .ok (.iload_n 2, 1) := by decide +kernel
theorem dX7_countAt_8 : decode cX7_countAt 8 = .ok (.ifCond .lt 20, 3) := by decide +kernel
theorem dX7_countAt_11 : decode cX7_countAt 11 = .ok (.iload_n 2, 1) := by decide +kernel
theorem dX7_countAt_12 : decode cX7_countAt 12 = .ok (.aload_n 0, 1) := by decide +kernel
theorem dX7_countAt_13 : decode cX7_countAt 13 = .ok (.getfield 25, 3) := by decide +kernel
theorem dX7_countAt_16 : decode cX7_countAt 16 = .ok (.if_icmp .gt 12, 3) := by decide +kernel
theorem dX7_countAt_19 : decode cX7_countAt 19 = .ok (.aload_n 0, 1) := by decide +kernel
theorem dX7_countAt_20 : decode cX7_countAt 20 = .ok (.getfield 9, 3) := by decide +kernel
theorem dX7_countAt_23 : decode cX7_countAt 23 = .ok (.iload_n 2, 1) := by decide +kernel
theorem dX7_countAt_24 : decode cX7_countAt 24 = .ok (.iaload, 1) := by decide +kernel
theorem dX7_countAt_25 : decode cX7_countAt 25 = .ok (.goto 4, 3) := by decide +kernel
theorem dX7_countAt_28 : decode cX7_countAt 28 = .ok (.iconst 0, 1) := by decide +kernel
theorem dX7_countAt_29 : decode cX7_countAt 29 = .ok (.ireturn, 1) := by decide +kernel
theorem dX7_fewestHeads_0 : decode cX7_fewestHeads 0 = .ok (.iconst 0, 1) := by decide +kernel
theorem dX7_fewestHeads_1 : decode cX7_fewestHeads 1 = .ok (.istore 4, 2) := by decide +kernel
theorem dX7_fewestHeads_3 : decode cX7_fewestHeads 3 = .ok (.iload 4, 2) := by decide +kernel
theorem dX7_fewestHeads_5 : decode cX7_fewestHeads 5 = .ok (.aload_n 1, 1) := by decide +kernel
theorem dX7_fewestHeads_6 : decode cX7_fewestHeads 6 = .ok (.getfield 28, 3) := by decide +kernel
theorem dX7_fewestHeads_9 : decode cX7_fewestHeads 9 = .ok (.if_icmp .ge 29, 3) := by decide +kernel
theorem dX7_fewestHeads_12 : decode cX7_fewestHeads 12 = .ok (.aload_n 0, 1) := by decide +kernel
theorem dX7_fewestHeads_13 : decode cX7_fewestHeads 13 = .ok (.iload_n 3, 1) := by decide +kernel
theorem dX7_fewestHeads_14 : decode cX7_fewestHeads 14 = .ok (.iload 4, 2) := by decide +kernel
theorem dX7_fewestHeads_16 : decode cX7_fewestHeads 16 = .ok (.aload_n 1, 1) := by decide +kernel
theorem dX7_fewestHeads_17 : decode cX7_fewestHeads 17 = .ok (.iload_n 2, 1) := by decide +kernel
theorem dX7_fewestHeads_18 : decode cX7_fewestHeads 18 = .ok (.invokevirtual 53, 3) := by decide +kernel
theorem dX7_fewestHeads_21 : decode cX7_fewestHeads 21 = .ok (.imul, 1) := by decide +kernel
theorem dX7_fewestHeads_22 : decode cX7_fewestHeads 22 = .ok (.isub, 1) := by decide +kernel
theorem dX7_fewestHeads_23 : decode cX7_fewestHeads 23 = .ok (.invokevirtual 57, 3) := by decide +kernel
theorem dX7_fewestHeads_26 : decode cX7_fewestHeads 26 = .ok (.ifCond .le 6, 3) := by decide +kernel
theorem dX7_fewestHeads_29 : decode cX7_fewestHeads 29 = .ok (.iload 4, 2) := by decide +kernel
theorem dX7_fewestHeads_31 : decode cX7_fewestHeads 31 = .ok (.ireturn, 1) := by decide +kernel
theorem dX7_fewestHeads_32 : decode cX7_fewestHeads 32 = .ok (.iinc 4 1, 3) := by decide +kernel
theorem dX7_fewestHeads_35 : decode cX7_fewestHeads 35 = .ok (.goto (-32), 3) := by decide +kernel
theorem dX7_fewestHeads_38 : decode cX7_fewestHeads 38 = .ok (.iconst (-1), 1) := by decide +kernel
theorem dX7_fewestHeads_39 : decode cX7_fewestHeads 39 = .ok (.ireturn, 1) := by decide +kernel
theorem dX7_mostHeads_0 : decode cX7_mostHeads 0 = .ok (.aload_n 1, 1) := by decide +kernel
theorem dX7_mostHeads_1 : decode cX7_mostHeads 1 = .ok (.getfield 28, 3) := by decide +kernel
theorem dX7_mostHeads_4 : decode cX7_mostHeads 4 = .ok (.iconst 1, 1) := by decide +kernel
theorem dX7_mostHeads_5 : decode cX7_mostHeads 5 = .ok (.isub, 1) := by decide +kernel
theorem dX7_mostHeads_6 : decode cX7_mostHeads 6 = .ok (.istore 4, 2) := by decide +kernel
theorem dX7_mostHeads_8 : decode cX7_mostHeads 8 = .ok (.iload 4, 2) := by decide +kernel
theorem dX7_mostHeads_10 : decode cX7_mostHeads 10 = .ok (.ifCond .lt 29, 3) := by decide +kernel
theorem dX7_mostHeads_13 : decode cX7_mostHeads 13 = .ok (.aload_n 0, 1) := by decide +kernel
theorem dX7_mostHeads_14 : decode cX7_mostHeads 14 = .ok (.iload_n 3, 1) := by decide +kernel
theorem dX7_mostHeads_15 : decode cX7_mostHeads 15 = .ok (.iload 4, 2) := by decide +kernel
theorem dX7_mostHeads_17 : decode cX7_mostHeads 17 = .ok (.aload_n 1, 1) := by decide +kernel
theorem dX7_mostHeads_18 : decode cX7_mostHeads 18 = .ok (.iload_n 2, 1) := by decide +kernel
theorem dX7_mostHeads_19 : decode cX7_mostHeads 19 = .ok (.invokevirtual 53, 3) := by decide +kernel
theorem dX7_mostHeads_22 : decode cX7_mostHeads 22 = .ok (.imul, 1) := by decide +kernel
theorem dX7_mostHeads_23 : decode cX7_mostHeads 23 = .ok (.isub, 1) := by decide +kernel
theorem dX7_mostHeads_24 : decode cX7_mostHeads 24 = .ok (.invokevirtual 57, 3) := by decide +kernel
theorem dX7_mostHeads_27 : decode cX7_mostHeads 27 = .ok (.ifCond .le 6, 3) := by decide +kernel
theorem dX7_mostHeads_30 : decode cX7_mostHeads 30 = .ok (.iload 4, 2) := by decide +kernel
theorem dX7_mostHeads_32 : decode cX7_mostHeads 32 = .ok (.ireturn, 1) := by decide +kernel
theorem dX7_mostHeads_33 : decode cX7_mostHeads 33 = .ok (.iinc 4 (-1), 3) := by decide +kernel
theorem dX7_mostHeads_36 : decode cX7_mostHeads 36 = .ok (.goto (-28), 3) := by decide +kernel
theorem dX7_mostHeads_39 : decode cX7_mostHeads 39 = .ok (.iconst (-1), 1) := by decide +kernel
theorem dX7_mostHeads_40 : decode cX7_mostHeads 40 = .ok (.ireturn, 1) := by decide +kernel
theorem dX8_init_0 : decode cX8_init 0 = .ok (.aload_n 0, 1) := by decide +kernel
theorem dX8_init_1 : decode cX8_init 1 = .ok (.invokespecial 3, 3) := by decide +kernel
theorem dX8_init_4 : decode cX8_init 4 = .ok (.aload_n 0, 1) := by decide +kernel
theorem dX8_init_5 : decode cX8_init 5 = .ok (.new 9, 3) := by decide +kernel
theorem dX8_init_8 : decode cX8_init 8 = .ok (.dup, 1) := by decide +kernel
theorem dX8_init_9 : decode cX8_init 9 = .ok (.invokespecial 11, 3) := by decide +kernel
theorem dX8_init_12 : decode cX8_init 12 = .ok (.putfield 12, 3) := by decide +kernel
theorem dX8_init_15 : decode cX8_init 15 = .ok (.aload_n 0, 1) := by decide +kernel
theorem dX8_init_16 : decode cX8_init 16 = .ok (.new 16, 3) := by decide +kernel
theorem dX8_init_19 : decode cX8_init 19 = .ok (.dup, 1) := by decide +kernel
theorem dX8_init_20 : decode cX8_init 20 = .ok (.invokespecial 18, 3) := by decide +kernel
theorem dX8_init_23 : decode cX8_init 23 = .ok (.putfield 19, 3) := by decide +kernel
theorem dX8_init_26 : decode cX8_init 26 = .ok (.aload_n 0, 1) := by decide +kernel
theorem dX8_init_27 : decode cX8_init 27 = .ok (.new 16, 3) := by decide +kernel
theorem dX8_init_30 : decode cX8_init 30 = .ok (.dup, 1) := by decide +kernel
theorem dX8_init_31 : decode cX8_init 31 = .ok (.invokespecial 18, 3) := by decide +kernel
theorem dX8_init_34 : decode cX8_init 34 = .ok (.putfield 23, 3) := by decide +kernel
theorem dX8_init_37 : decode cX8_init 37 = .ok (.aload_n 0, 1) := by decide +kernel
theorem dX8_init_38 : decode cX8_init 38 = .ok (.new 26, 3) := by decide +kernel
theorem dX8_init_41 : decode cX8_init 41 = .ok (.dup, 1) := by decide +kernel
theorem dX8_init_42 : decode cX8_init 42 = .ok (.invokespecial 28, 3) := by decide +kernel
theorem dX8_init_45 : decode cX8_init 45 = .ok (.putfield 29, 3) := by decide +kernel
theorem dX8_init_48 : decode cX8_init 48 = .ok (.aload_n 0, 1) := by decide +kernel
theorem dX8_init_49 : decode cX8_init 49 = .ok (.new 26, 3) := by decide +kernel
theorem dX8_init_52 : decode cX8_init 52 = .ok (.dup, 1) := by decide +kernel
theorem dX8_init_53 : decode cX8_init 53 = .ok (.invokespecial 28, 3) := by decide +kernel
theorem dX8_init_56 : decode cX8_init 56 = .ok (.putfield 33, 3) := by decide +kernel
theorem dX8_init_59 : decode cX8_init 59 = .ok (.aload_n 0, 1) := by decide +kernel
theorem dX8_init_60 : decode cX8_init 60 = .ok (.iconst 2, 1) := by decide +kernel
theorem dX8_init_61 : decode cX8_init 61 = .ok (.anewarray 26, 3) := by decide +kernel
theorem dX8_init_64 : decode cX8_init 64 = .ok (.dup, 1) := by decide +kernel
theorem dX8_init_65 : decode cX8_init 65 = .ok (.iconst 0, 1) := by decide +kernel
theorem dX8_init_66 : decode cX8_init 66 = .ok (.new 26, 3) := by decide +kernel
theorem dX8_init_69 : decode cX8_init 69 = .ok (.dup, 1) := by decide +kernel
theorem dX8_init_70 : decode cX8_init 70 = .ok (.invokespecial 28, 3) := by decide +kernel
theorem dX8_init_73 : decode cX8_init 73 = .ok (.aastore, 1) := by decide +kernel
theorem dX8_init_74 : decode cX8_init 74 = .ok (.dup, 1) := by decide +kernel
theorem dX8_init_75 : decode cX8_init 75 = .ok (.iconst 1, 1) := by decide +kernel
theorem dX8_init_76 : decode cX8_init 76 = .ok (.new 26, 3) := by decide +kernel
theorem dX8_init_79 : decode cX8_init 79 = .ok (.dup, 1) := by decide +kernel
theorem dX8_init_80 : decode cX8_init 80 = .ok (.invokespecial 28, 3) := by decide +kernel
theorem dX8_init_83 : decode cX8_init 83 = .ok (.aastore, 1) := by decide +kernel
theorem dX8_init_84 : decode cX8_init 84 = .ok (.putfield 36, 3) := by decide +kernel
theorem dX8_init_87 : decode cX8_init 87 = .ok (.aload_n 0, 1) := by decide +kernel
theorem dX8_init_88 : decode cX8_init 88 = .ok (.new 40, 3) := by decide +kernel
theorem dX8_init_91 : decode cX8_init 91 = .ok (.dup, 1) := by decide +kernel
theorem dX8_init_92 : decode cX8_init 92 = .ok (.invokespecial 42, 3) := by decide +kernel
theorem dX8_init_95 : decode cX8_init 95 = .ok (.putfield 43, 3) := by decide +kernel
theorem dX8_init_98 : decode cX8_init 98 = .ok (.aload_n 0, 1) := by decide +kernel
theorem dX8_init_99 : decode cX8_init 99 = .ok (.new 47, 3) := by decide +kernel
theorem dX8_init_102 : decode cX8_init 102 = .ok (.dup, 1) := by decide +kernel
theorem dX8_init_103 : decode cX8_init 103 = .ok (.invokespecial 49, 3) := by decide +kernel
theorem dX8_init_106 : decode cX8_init 106 = .ok (.putfield 50, 3) := by decide +kernel
theorem dX8_init_109 : decode cX8_init 109 = .ok (.aload_n 0, 1) := by decide +kernel
theorem dX8_init_110 : decode cX8_init 110 = .ok (.new 54, 3) := by decide +kernel
theorem dX8_init_113 : decode cX8_init 113 = .ok (.dup, 1) := by decide +kernel
theorem dX8_init_114 : decode cX8_init 114 = .ok (.invokespecial 56, 3) := by decide +kernel
theorem dX8_init_117 : decode cX8_init 117 = .ok (.putfield 57, 3) := by decide +kernel
theorem dX8_init_120 : decode cX8_init 120 = .ok (.aload_n 0, 1) := by decide +kernel
theorem dX8_init_121 : decode cX8_init 121 = .ok (.new 61, 3) := by decide +kernel
theorem dX8_init_124 : decode cX8_init 124 = .ok (.dup, 1) := by decide +kernel
theorem dX8_init_125 : decode cX8_init 125 = .ok (.invokespecial 63, 3) := by decide +kernel
theorem dX8_init_128 : decode cX8_init 128 = .ok (.putfield 64, 3) := by decide +kernel
theorem dX8_init_131 : decode cX8_init 131 = .ok (.aload_n 0, 1) := by decide +kernel
theorem dX8_init_132 : decode cX8_init 132 = .ok (.new 68, 3) := by decide +kernel
theorem dX8_init_135 : decode cX8_init 135 = .ok (.dup, 1) := by decide +kernel
theorem dX8_init_136 : decode cX8_init 136 = .ok (.invokespecial 70, 3) := by decide +kernel
theorem dX8_init_139 : decode cX8_init 139 = .ok (.putfield 71, 3) := by decide +kernel
theorem dX8_init_142 : decode cX8_init 142 = .ok (.return_, 1) := by decide +kernel
theorem dX8_feed_0 : decode cX8_feed 0 = .ok (.iload_n 1, 1) := by decide +kernel
theorem dX8_feed_1 : decode cX8_feed 1 = .ok (.ifCond .lt 10, 3) := by decide +kernel
theorem dX8_feed_4 : decode cX8_feed 4 = .ok (.iload_n 1, 1) := by decide +kernel
theorem dX8_feed_5 : decode cX8_feed 5 = .ok (.sipush 255, 3) := by decide +kernel
theorem dX8_feed_8 : decode cX8_feed 8 = .ok (.if_icmp .le 6, 3) := by decide +kernel
theorem dX8_feed_11 : decode cX8_feed 11 = .ok (.ldc 75, 2) := by decide +kernel
theorem dX8_feed_13 : decode cX8_feed 13 = .ok (.ireturn, 1) := by decide +kernel
theorem dX8_feed_14 : decode cX8_feed 14 = .ok (.aload_n 0, 1) := by decide +kernel
theorem dX8_feed_15 : decode cX8_feed 15 = .ok (.getfield 12, 3) := by decide +kernel
theorem dX8_feed_18 : decode cX8_feed 18 = .ok (.iload_n 1, 1) := by decide +kernel
theorem dX8_feed_19 : decode cX8_feed 19 = .ok (.invokevirtual 76, 3) := by decide +kernel
theorem dX8_feed_22 : decode cX8_feed 22 = .ok (.ireturn, 1) := by decide +kernel
theorem dX8_land_0 : decode cX8_land 0 = .ok (.aload_n 0, 1) := by decide +kernel
theorem dX8_land_1 : decode cX8_land 1 = .ok (.getfield 12, 3) := by decide +kernel
theorem dX8_land_4 : decode cX8_land 4 = .ok (.aload_n 0, 1) := by decide +kernel
theorem dX8_land_5 : decode cX8_land 5 = .ok (.getfield 23, 3) := by decide +kernel
theorem dX8_land_8 : decode cX8_land 8 = .ok (.invokevirtual 80, 3) := by decide +kernel
theorem dX8_land_11 : decode cX8_land 11 = .ok (.istore_n 1, 1) := by decide +kernel
theorem dX8_land_12 : decode cX8_land 12 = .ok (.aload_n 0, 1) := by decide +kernel
theorem dX8_land_13 : decode cX8_land 13 = .ok (.getfield 12, 3) := by decide +kernel
theorem dX8_land_16 : decode cX8_land 16 = .ok (.iconst 0, 1) := by decide +kernel
theorem dX8_land_17 : decode cX8_land 17 = .ok (.putfield 84, 3) := by decide +kernel
theorem dX8_land_20 : decode cX8_land 20 = .ok (.iload_n 1, 1) := by decide +kernel
theorem dX8_land_21 : decode cX8_land 21 = .ok (.ifCond .eq 8, 3) := by decide +kernel
theorem dX8_land_24 : decode cX8_land 24 = .ok (.bipush (-10), 2) := by decide +kernel
theorem dX8_land_26 : decode cX8_land 26 = .ok (.iload_n 1, 1) := by decide +kernel
theorem dX8_land_27 : decode cX8_land 27 = .ok (.isub, 1) := by decide +kernel
theorem dX8_land_28 : decode cX8_land 28 = .ok (.ireturn, 1) := by decide +kernel
theorem dX8_land_29 : decode cX8_land 29 = .ok (.aload_n 0, 1) := by decide +kernel
theorem dX8_land_30 : decode cX8_land 30 = .ok (.getfield 19, 3) := by decide +kernel
theorem dX8_land_33 : decode cX8_land 33 = .ok (.astore_n 2, 1) := by decide +kernel
theorem dX8_land_34 : decode cX8_land 34 = .ok (.aload_n 0, 1) := by decide +kernel
theorem dX8_land_35 : decode cX8_land 35 = .ok (.aload_n 0, 1) := by decide +kernel
theorem dX8_land_36 : decode cX8_land 36 = .ok (.getfield 23, 3) := by decide +kernel
theorem dX8_land_39 : decode cX8_land 39 = .ok (.putfield 19, 3) := by decide +kernel
theorem dX8_land_42 : decode cX8_land 42 = .ok (.aload_n 0, 1) := by decide +kernel
theorem dX8_land_43 : decode cX8_land 43 = .ok (.aload_n 2, 1) := by decide +kernel
theorem dX8_land_44 : decode cX8_land 44 = .ok (.putfield 23, 3) := by decide +kernel
theorem dX8_land_47 : decode cX8_land 47 = .ok (.aload_n 0, 1) := by decide +kernel
theorem dX8_land_48 : decode cX8_land 48 = .ok (.getfield 29, 3) := by decide +kernel
theorem dX8_land_51 : decode cX8_land 51 = .ok (.aload_n 0, 1) := by decide +kernel
theorem dX8_land_52 : decode cX8_land 52 = .ok (.getfield 19, 3) := by decide +kernel
theorem dX8_land_55 : decode cX8_land 55 = .ok (.invokevirtual 88, 3) := by decide +kernel
theorem dX8_land_58 : decode cX8_land 58 = .ok (.aload_n 0, 1) := by decide +kernel
theorem dX8_land_59 : decode cX8_land 59 = .ok (.getfield 43, 3) := by decide +kernel
theorem dX8_land_62 : decode cX8_land 62 = .ok (.iconst 0, 1) := by decide +kernel
theorem dX8_land_63 : decode cX8_land 63 = .ok (.putfield 92, 3) := by decide +kernel
theorem dX8_land_66 : decode cX8_land 66 = .ok (.aload_n 0, 1) := by decide +kernel
theorem dX8_land_67 : decode cX8_land 67 = .ok (.iconst 0, 1) := by decide +kernel
theorem dX8_land_68 : decode cX8_land 68 = .ok (.putfield 95, 3) := by decide +kernel
theorem dX8_land_71 : decode cX8_land 71 = .ok (.aload_n 0, 1) := by decide +kernel
theorem dX8_land_72 : decode cX8_land 72 = .ok (.getfield 19, 3) := by decide +kernel
theorem dX8_land_75 : decode cX8_land 75 = .ok (.getfield 98, 3) := by decide +kernel
theorem dX8_land_78 : decode cX8_land 78 = .ok (.ireturn, 1) := by decide +kernel
theorem dX8_fault_0 : decode cX8_fault 0 = .ok (.aload_n 0, 1) := by decide +kernel
theorem dX8_fault_1 : decode cX8_fault 1 = .ok (.getfield 12, 3) := by decide +kernel
theorem dX8_fault_4 : decode cX8_fault 4 = .ok (.getfield 101, 3) := by decide +kernel
theorem dX8_fault_7 : decode cX8_fault 7 = .ok (.ireturn, 1) := by decide +kernel
theorem dX8_told_0 : decode cX8_told 0 = .ok (.iload_n 1, 1) := by decide +kernel
theorem dX8_told_1 : decode cX8_told 1 = .ok (.tableswitch 139 0 9 #[55, 63, 71, 79, 87, 95, 103, 111, 119, 131], 55) := by decide +kernel
theorem dX8_told_56 : decode cX8_told 56 = .ok (.aload_n 0, 1) := by decide +kernel
theorem dX8_told_57 : decode cX8_told 57 = .ok (.getfield 19, 3) := by decide +kernel
theorem dX8_told_60 : decode cX8_told 60 = .ok (.getfield 98, 3) := by decide +kernel
theorem dX8_told_63 : decode cX8_told 63 = .ok (.ireturn, 1) := by decide +kernel
theorem dX8_told_64 : decode cX8_told 64 = .ok (.aload_n 0, 1) := by decide +kernel
theorem dX8_told_65 : decode cX8_told 65 = .ok (.getfield 19, 3) := by decide +kernel
theorem dX8_told_68 : decode cX8_told 68 = .ok (.getfield 104, 3) := by decide +kernel
theorem dX8_told_71 : decode cX8_told 71 = .ok (.ireturn, 1) := by decide +kernel
theorem dX8_told_72 : decode cX8_told 72 = .ok (.aload_n 0, 1) := by decide +kernel
theorem dX8_told_73 : decode cX8_told 73 = .ok (.getfield 19, 3) := by decide +kernel
theorem dX8_told_76 : decode cX8_told 76 = .ok (.getfield 107, 3) := by decide +kernel
theorem dX8_told_79 : decode cX8_told 79 = .ok (.ireturn, 1) := by decide +kernel
theorem dX8_told_80 : decode cX8_told 80 = .ok (.aload_n 0, 1) := by decide +kernel
theorem dX8_told_81 : decode cX8_told 81 = .ok (.getfield 19, 3) := by decide +kernel
theorem dX8_told_84 : decode cX8_told 84 = .ok (.getfield 110, 3) := by decide +kernel
theorem dX8_told_87 : decode cX8_told 87 = .ok (.ireturn, 1) := by decide +kernel
theorem dX8_told_88 : decode cX8_told 88 = .ok (.aload_n 0, 1) := by decide +kernel
theorem dX8_told_89 : decode cX8_told 89 = .ok (.getfield 19, 3) := by decide +kernel
theorem dX8_told_92 : decode cX8_told 92 = .ok (.getfield 113, 3) := by decide +kernel
theorem dX8_told_95 : decode cX8_told 95 = .ok (.ireturn, 1) := by decide +kernel
theorem dX8_told_96 : decode cX8_told 96 = .ok (.aload_n 0, 1) := by decide +kernel
theorem dX8_told_97 : decode cX8_told 97 = .ok (.getfield 12, 3) := by decide +kernel
theorem dX8_told_100 : decode cX8_told 100 = .ok (.getfield 84, 3) := by decide +kernel
theorem dX8_told_103 : decode cX8_told 103 = .ok (.ireturn, 1) := by decide +kernel
theorem dX8_told_104 : decode cX8_told 104 = .ok (.aload_n 0, 1) := by decide +kernel
theorem dX8_told_105 : decode cX8_told 105 = .ok (.getfield 29, 3) := by decide +kernel
theorem dX8_told_108 : decode cX8_told 108 = .ok (.getfield 116, 3) := by decide +kernel
theorem dX8_told_111 : decode cX8_told 111 = .ok (.ireturn, 1) := by decide +kernel
theorem dX8_told_112 : decode cX8_told 112 = .ok (.aload_n 0, 1) := by decide +kernel
theorem dX8_told_113 : decode cX8_told 113 = .ok (.getfield 19, 3) := by decide +kernel
theorem dX8_told_116 : decode cX8_told 116 = .ok (.getfield 119, 3) := by decide +kernel
theorem dX8_told_119 : decode cX8_told 119 = .ok (.ireturn, 1) := by decide +kernel
theorem dX8_told_120 : decode cX8_told 120 = .ok (.aload_n 0, 1) := by decide +kernel
theorem dX8_told_121 : decode cX8_told 121 = .ok (.getfield 29, 3) := by decide +kernel
theorem dX8_told_124 : decode cX8_told 124 = .ok (.aload_n 0, 1) := by decide +kernel
theorem dX8_told_125 : decode cX8_told 125 = .ok (.getfield 19, 3) := by decide +kernel
theorem dX8_told_128 : decode cX8_told 128 = .ok (.invokevirtual 122, 3) := by decide +kernel
theorem dX8_told_131 : decode cX8_told 131 = .ok (.ireturn, 1) := by decide +kernel
theorem dX8_told_132 : decode cX8_told 132 = .ok (.aload_n 0, 1) := by decide +kernel
theorem dX8_told_133 : decode cX8_told 133 = .ok (.getfield 43, 3) := by decide +kernel
theorem dX8_told_136 : decode cX8_told 136 = .ok (.getfield 92, 3) := by decide +kernel
theorem dX8_told_139 : decode cX8_told 139 = .ok (.ireturn, 1) := by decide +kernel
theorem dX8_told_140 : decode cX8_told 140 = .ok (.ldc 75, 2) := by decide +kernel
theorem dX8_told_142 : decode cX8_told 142 = .ok (.ireturn, 1) := by decide +kernel
theorem dX8_fact_0 : decode cX8_fact 0 = .ok (.aload_n 0, 1) := by decide +kernel
theorem dX8_fact_1 : decode cX8_fact 1 = .ok (.getfield 19, 3) := by decide +kernel
theorem dX8_fact_4 : decode cX8_fact 4 = .ok (.iload_n 1, 1) := by decide +kernel
theorem dX8_fact_5 : decode cX8_fact 5 = .ok (.invokevirtual 125, 3) := by decide +kernel
theorem dX8_fact_8 : decode cX8_fact 8 = .ok (.ifCond .ne 6, 3) := by decide +kernel
theorem dX8_fact_11 : decode cX8_fact 11 = .ok (.ldc 129, 2) := by decide +kernel
theorem dX8_fact_13 : decode cX8_fact 13 = .ok (.ireturn, 1) := by decide +kernel
theorem dX8_fact_14 : decode cX8_fact 14 = .ok (.iload_n 2, 1) := by decide +kernel
theorem dX8_fact_15 : decode cX8_fact 15 = .ok (.tableswitch 93 0 4 #[33, 43, 53, 70, 80], 33) := by decide +kernel
theorem dX8_fact_48 : decode cX8_fact 48 = .ok (.aload_n 0, 1) := by decide +kernel
theorem dX8_fact_49 : decode cX8_fact 49 = .ok (.getfield 19, 3) := by decide +kernel
theorem dX8_fact_52 : decode cX8_fact 52 = .ok (.getfield 130, 3) := by decide +kernel
theorem dX8_fact_55 : decode cX8_fact 55 = .ok (.iload_n 1, 1) := by decide +kernel
theorem dX8_fact_56 : decode cX8_fact 56 = .ok (.iaload, 1) := by decide +kernel
theorem dX8_fact_57 : decode cX8_fact 57 = .ok (.ireturn, 1) := by decide +kernel
theorem dX8_fact_58 : decode cX8_fact 58 = .ok (.aload_n 0, 1) := by decide +kernel
theorem dX8_fact_59 : decode cX8_fact 59 = .ok (.getfield 19, 3) := by decide +kernel
theorem dX8_fact_62 : decode cX8_fact 62 = .ok (.getfield 134, 3) := by decide +kernel
theorem dX8_fact_65 : decode cX8_fact 65 = .ok (.iload_n 1, 1) := by decide +kernel
theorem dX8_fact_66 : decode cX8_fact 66 = .ok (.iaload, 1) := by decide +kernel
theorem dX8_fact_67 : decode cX8_fact 67 = .ok (.ireturn, 1) := by decide +kernel
theorem dX8_fact_68 : decode cX8_fact 68 = .ok (.aload_n 0, 1) := by decide +kernel
theorem dX8_fact_69 : decode cX8_fact 69 = .ok (.getfield 19, 3) := by decide +kernel
theorem dX8_fact_72 : decode cX8_fact 72 = .ok (.iload_n 1, 1) := by decide +kernel
theorem dX8_fact_73 : decode cX8_fact 73 = .ok (.invokevirtual 137, 3) := by decide +kernel
theorem dX8_fact_76 : decode cX8_fact 76 = .ok (.ifCond .eq 7, 3) := by decide +kernel
theorem dX8_fact_79 : decode cX8_fact 79 = .ok (.iconst 1, 1) := by decide +kernel
theorem dX8_fact_80 : decode cX8_fact 80 = .ok (.goto 4, 3) := by decide +kernel
theorem dX8_fact_83 : decode cX8_fact 83 = .ok (.iconst 0, 1) := by decide +kernel
theorem dX8_fact_84 : decode cX8_fact 84 = .ok (.ireturn, 1) := by decide +kernel
theorem dX8_fact_85 : decode cX8_fact 85 = .ok (.aload_n 0, 1) := by decide +kernel
theorem dX8_fact_86 : decode cX8_fact 86 = .ok (.getfield 29, 3) := by decide +kernel
theorem dX8_fact_89 : decode cX8_fact 89 = .ok (.getfield 140, 3) := by decide +kernel
theorem dX8_fact_92 : decode cX8_fact 92 = .ok (.iload_n 1, 1) := by decide +kernel
theorem dX8_fact_93 : decode cX8_fact 93 = .ok (.iaload, 1) := by decide +kernel
theorem dX8_fact_94 : decode cX8_fact 94 = .ok (.ireturn, 1) := by decide +kernel
theorem dX8_fact_95 : decode cX8_fact 95 = .ok (.aload_n 0, 1) := by decide +kernel
theorem dX8_fact_96 : decode cX8_fact 96 = .ok (.getfield 29, 3) := by decide +kernel
theorem dX8_fact_99 : decode cX8_fact 99 = .ok (.aload_n 0, 1) := by decide +kernel
theorem dX8_fact_100 : decode cX8_fact 100 = .ok (.getfield 19, 3) := by decide +kernel
theorem dX8_fact_103 : decode cX8_fact 103 = .ok (.iload_n 1, 1) := by decide +kernel
theorem dX8_fact_104 : decode cX8_fact 104 = .ok (.invokevirtual 143, 3) := by decide +kernel
theorem dX8_fact_107 : decode cX8_fact 107 = .ok (.ireturn, 1) := by decide +kernel
theorem dX8_fact_108 : decode cX8_fact 108 = .ok (.ldc 75, 2) := by decide +kernel
theorem dX8_fact_110 : decode cX8_fact 110 = .ok (.ireturn, 1) := by decide +kernel
theorem dX8_person_0 : decode cX8_person 0 = .ok (.aload_n 0, 1) := by decide +kernel
theorem dX8_person_1 : decode cX8_person 1 = .ok (.getfield 19, 3) := by decide +kernel
theorem dX8_person_4 : decode cX8_person 4 = .ok (.iload_n 1, 1) := by decide +kernel
theorem dX8_person_5 : decode cX8_person 5 = .ok (.invokevirtual 147, 3) := by decide +kernel
theorem dX8_person_8 : decode cX8_person 8 = .ok (.ifCond .ne 6, 3) := by decide +kernel
theorem dX8_person_11 : decode cX8_person 11 = .ok (.ldc 129, 2) := by decide +kernel
theorem dX8_person_13 : decode cX8_person 13 = .ok (.ireturn, 1) := by decide +kernel
theorem dX8_person_14 : decode cX8_person 14 = .ok (.iload_n 2, 1) := by decide +kernel
theorem dX8_person_15 : decode cX8_person 15 = .ok (.tableswitch 75 0 3 #[29, 39, 49, 58], 29) := by decide +kernel
theorem dX8_person_44 : decode cX8_person 44 = .ok (.aload_n 0, 1) := by decide +kernel
theorem dX8_person_45 : decode cX8_person 45 = .ok (.getfield 19, 3) := by decide +kernel
theorem dX8_person_48 : decode cX8_person 48 = .ok (.getfield 150, 3) := by decide +kernel
theorem dX8_person_51 : decode cX8_person 51 = .ok (.iload_n 1, 1) := by decide +kernel
theorem dX8_person_52 : decode cX8_person 52 = .ok (.iaload, 1) := by decide +kernel
theorem dX8_person_53 : decode cX8_person 53 = .ok (.ireturn, 1) := by decide +kernel
theorem dX8_person_54 : decode cX8_person 54 = .ok (.aload_n 0, 1) := by decide +kernel
theorem dX8_person_55 : decode cX8_person 55 = .ok (.getfield 19, 3) := by decide +kernel
theorem dX8_person_58 : decode cX8_person 58 = .ok (.getfield 153, 3) := by decide +kernel
theorem dX8_person_61 : decode cX8_person 61 = .ok (.iload_n 1, 1) := by decide +kernel
theorem dX8_person_62 : decode cX8_person 62 = .ok (.iaload, 1) := by decide +kernel
theorem dX8_person_63 : decode cX8_person 63 = .ok (.ireturn, 1) := by decide +kernel
theorem dX8_person_64 : decode cX8_person 64 = .ok (.aload_n 0, 1) := by decide +kernel
theorem dX8_person_65 : decode cX8_person 65 = .ok (.getfield 29, 3) := by decide +kernel
theorem dX8_person_68 : decode cX8_person 68 = .ok (.iload_n 1, 1) := by decide +kernel
theorem dX8_person_69 : decode cX8_person 69 = .ok (.invokevirtual 156, 3) := by decide +kernel
theorem dX8_person_72 : decode cX8_person 72 = .ok (.ireturn, 1) := by decide +kernel
theorem dX8_person_73 : decode cX8_person 73 = .ok (.aload_n 0, 1) := by decide +kernel
theorem dX8_person_74 : decode cX8_person 74 = .ok (.getfield 19, 3) := by decide +kernel
theorem dX8_person_77 : decode cX8_person 77 = .ok (.iload_n 1, 1) := by decide +kernel
theorem dX8_person_78 : decode cX8_person 78 = .ok (.invokevirtual 159, 3) := by decide +kernel
theorem dX8_person_81 : decode cX8_person 81 = .ok (.ifCond .eq 7, 3) := by decide +kernel
theorem dX8_person_84 : decode cX8_person 84 = .ok (.iconst 1, 1) := by decide +kernel
theorem dX8_person_85 : decode cX8_person 85 = .ok (.goto 4, 3) := by decide +kernel
theorem dX8_person_88 : decode cX8_person 88 = .ok (.iconst 0, 1) := by decide +kernel
theorem dX8_person_89 : decode cX8_person 89 = .ok (.ireturn, 1) := by decide +kernel
theorem dX8_person_90 : decode cX8_person 90 = .ok (.ldc 75, 2) := by decide +kernel
theorem dX8_person_92 : decode cX8_person 92 = .ok (.ireturn, 1) := by decide +kernel
theorem dX8_since_0 : decode cX8_since 0 = .ok (.aload_n 0, 1) := by decide +kernel
theorem dX8_since_1 : decode cX8_since 1 = .ok (.getfield 19, 3) := by decide +kernel
theorem dX8_since_4 : decode cX8_since 4 = .ok (.iload_n 1, 1) := by decide +kernel
theorem dX8_since_5 : decode cX8_since 5 = .ok (.invokevirtual 147, 3) := by decide +kernel
theorem dX8_since_8 : decode cX8_since 8 = .ok (.ifCond .eq 14, 3) := by decide +kernel
theorem dX8_since_11 : decode cX8_since 11 = .ok (.aload_n 0, 1) := by decide +kernel
theorem dX8_since_12 : decode cX8_since 12 = .ok (.getfield 19, 3) := by decide +kernel
theorem dX8_since_15 : decode cX8_since 15 = .ok (.iload_n 2, 1) := by decide +kernel
theorem dX8_since_16 : decode cX8_since 16 = .ok (.invokevirtual 125, 3) := by decide +kernel
theorem dX8_since_19 : decode cX8_since 19 = .ok (.ifCond .ne 6, 3) := by decide +kernel
theorem dX8_since_22 : decode cX8_since 22 = .ok (.ldc 129, 2) := by decide +kernel
theorem dX8_since_24 : decode cX8_since 24 = .ok (.ireturn, 1) := by decide +kernel
theorem dX8_since_25 : decode cX8_since 25 = .ok (.aload_n 0, 1) := by decide +kernel
theorem dX8_since_26 : decode cX8_since 26 = .ok (.getfield 29, 3) := by decide +kernel
theorem dX8_since_29 : decode cX8_since 29 = .ok (.iload_n 1, 1) := by decide +kernel
theorem dX8_since_30 : decode cX8_since 30 = .ok (.iload_n 2, 1) := by decide +kernel
theorem dX8_since_31 : decode cX8_since 31 = .ok (.invokevirtual 162, 3) := by decide +kernel
theorem dX8_since_34 : decode cX8_since 34 = .ok (.ifCond .eq 15, 3) := by decide +kernel
theorem dX8_since_37 : decode cX8_since 37 = .ok (.aload_n 0, 1) := by decide +kernel
theorem dX8_since_38 : decode cX8_since 38 = .ok (.getfield 29, 3) := by decide +kernel
theorem dX8_since_41 : decode cX8_since 41 = .ok (.iload_n 1, 1) := by decide +kernel
theorem dX8_since_42 : decode cX8_since 42 = .ok (.iload_n 2, 1) := by decide +kernel
theorem dX8_since_43 : decode cX8_since 43 = .ok (.invokevirtual 166, 3) := by decide +kernel
theorem dX8_since_46 : decode cX8_since 46 = .ok (.goto 4, 3) := by decide +kernel
theorem dX8_since_49 : decode cX8_since 49 = .ok (.iconst (-1), 1) := by decide +kernel
theorem dX8_since_50 : decode cX8_since 50 = .ok (.ireturn, 1) := by decide +kernel
theorem dX8_weight_0 : decode cX8_weight 0 = .ok (.aload_n 0, 1) := by decide +kernel
theorem dX8_weight_1 : decode cX8_weight 1 = .ok (.getfield 19, 3) := by decide +kernel
theorem dX8_weight_4 : decode cX8_weight 4 = .ok (.iload_n 1, 1) := by decide +kernel
theorem dX8_weight_5 : decode cX8_weight 5 = .ok (.invokevirtual 147, 3) := by decide +kernel
theorem dX8_weight_8 : decode cX8_weight 8 = .ok (.ifCond .eq 18, 3) := by decide +kernel
theorem dX8_weight_11 : decode cX8_weight 11 = .ok (.aload_n 0, 1) := by decide +kernel
theorem dX8_weight_12 : decode cX8_weight 12 = .ok (.getfield 29, 3) := by decide +kernel
theorem dX8_weight_15 : decode cX8_weight 15 = .ok (.aload_n 0, 1) := by decide +kernel
theorem dX8_weight_16 : decode cX8_weight 16 = .ok (.getfield 19, 3) := by decide +kernel
theorem dX8_weight_19 : decode cX8_weight 19 = .ok (.iload_n 1, 1) := by decide +kernel
theorem dX8_weight_20 : decode cX8_weight 20 = .ok (.invokevirtual 170, 3) := by decide +kernel
theorem dX8_weight_23 : decode cX8_weight 23 = .ok (.goto 5, 3) := by decide +kernel
theorem dX8_weight_26 : decode cX8_weight 26 = .ok (.ldc 129, 2) := by decide +kernel
theorem dX8_weight_28 : decode cX8_weight 28 = .ok (.ireturn, 1) := by decide +kernel
theorem dX8_bridge_0 : decode cX8_bridge 0 = .ok (.aload_n 0, 1) := by decide +kernel
theorem dX8_bridge_1 : decode cX8_bridge 1 = .ok (.getfield 19, 3) := by decide +kernel
theorem dX8_bridge_4 : decode cX8_bridge 4 = .ok (.iload_n 1, 1) := by decide +kernel
theorem dX8_bridge_5 : decode cX8_bridge 5 = .ok (.invokevirtual 173, 3) := by decide +kernel
theorem dX8_bridge_8 : decode cX8_bridge 8 = .ok (.ifCond .eq 15, 3) := by decide +kernel
theorem dX8_bridge_11 : decode cX8_bridge 11 = .ok (.aload_n 0, 1) := by decide +kernel
theorem dX8_bridge_12 : decode cX8_bridge 12 = .ok (.getfield 19, 3) := by decide +kernel
theorem dX8_bridge_15 : decode cX8_bridge 15 = .ok (.getfield 176, 3) := by decide +kernel
theorem dX8_bridge_18 : decode cX8_bridge 18 = .ok (.iload_n 1, 1) := by decide +kernel
theorem dX8_bridge_19 : decode cX8_bridge 19 = .ok (.iaload, 1) := by decide +kernel
theorem dX8_bridge_20 : decode cX8_bridge 20 = .ok (.goto 5, 3) := by decide +kernel
theorem dX8_bridge_23 : decode cX8_bridge 23 = .ok (.ldc 129, 2) := by decide +kernel
theorem dX8_bridge_25 : decode cX8_bridge 25 = .ok (.ireturn, 1) := by decide +kernel
theorem dX8_tell_0 : decode cX8_tell 0 = .ok (.aload_n 0, 1) := by decide +kernel
theorem dX8_tell_1 : decode cX8_tell 1 = .ok (.getfield 19, 3) := by decide +kernel
theorem dX8_tell_4 : decode cX8_tell 4 = .ok (.iload_n 1, 1) := by decide +kernel
theorem dX8_tell_5 : decode cX8_tell 5 = .ok (.invokevirtual 147, 3) := by decide +kernel
theorem dX8_tell_8 : decode cX8_tell 8 = .ok (.ifCond .eq 14, 3) := by decide +kernel
theorem dX8_tell_11 : decode cX8_tell 11 = .ok (.aload_n 0, 1) := by decide +kernel
theorem dX8_tell_12 : decode cX8_tell 12 = .ok (.getfield 19, 3) := by decide +kernel
theorem dX8_tell_15 : decode cX8_tell 15 = .ok (.iload_n 2, 1) := by decide +kernel
theorem dX8_tell_16 : decode cX8_tell 16 = .ok (.invokevirtual 125, 3) := by decide +kernel
theorem dX8_tell_19 : decode cX8_tell 19 = .ok (.ifCond .ne 6, 3) := by decide +kernel
theorem dX8_tell_22 : decode cX8_tell 22 = .ok (.ldc 129, 2) := by decide +kernel
theorem dX8_tell_24 : decode cX8_tell 24 = .ok (.ireturn, 1) := by decide +kernel
theorem dX8_tell_25 : decode cX8_tell 25 = .ok (.aload_n 0, 1) := by decide +kernel
theorem dX8_tell_26 : decode cX8_tell 26 = .ok (.getfield 29, 3) := by decide +kernel
theorem dX8_tell_29 : decode cX8_tell 29 = .ok (.iload_n 1, 1) := by decide +kernel
theorem dX8_tell_30 : decode cX8_tell 30 = .ok (.iload_n 2, 1) := by decide +kernel
theorem dX8_tell_31 : decode cX8_tell 31 = .ok (.invokevirtual 162, 3) := by decide +kernel
theorem dX8_tell_34 : decode cX8_tell 34 = .ok (.ifCond .eq 6, 3) := by decide +kernel
theorem dX8_tell_37 : decode cX8_tell 37 = .ok (.ldc 179, 2) := by decide +kernel
theorem dX8_tell_39 : decode cX8_tell 39 = .ok (.ireturn, 1) := by decide +kernel
theorem dX8_tell_40 : decode cX8_tell 40 = .ok (.aload_n 0, 1) := by decide +kernel
theorem dX8_tell_41 : decode cX8_tell 41 = .ok (.getfield 29, 3) := by decide +kernel
theorem dX8_tell_44 : decode cX8_tell 44 = .ok (.iload_n 1, 1) := by decide +kernel
theorem dX8_tell_45 : decode cX8_tell 45 = .ok (.iload_n 2, 1) := by decide +kernel
theorem dX8_tell_46 : decode cX8_tell 46 = .ok (.invokevirtual 180, 3) := by decide +kernel
theorem dX8_tell_49 : decode cX8_tell 49 = .ok (.aload_n 0, 1) := by decide +kernel
theorem dX8_tell_50 : decode cX8_tell 50 = .ok (.getfield 29, 3) := by decide +kernel
theorem dX8_tell_53 : decode cX8_tell 53 = .ok (.aload_n 0, 1) := by decide +kernel
theorem dX8_tell_54 : decode cX8_tell 54 = .ok (.getfield 19, 3) := by decide +kernel
theorem dX8_tell_57 : decode cX8_tell 57 = .ok (.iload_n 2, 1) := by decide +kernel
theorem dX8_tell_58 : decode cX8_tell 58 = .ok (.invokevirtual 143, 3) := by decide +kernel
theorem dX8_tell_61 : decode cX8_tell 61 = .ok (.ireturn, 1) := by decide +kernel
theorem dX8_forget_0 : decode cX8_forget 0 = .ok (.aload_n 0, 1) := by decide +kernel
theorem dX8_forget_1 : decode cX8_forget 1 = .ok (.getfield 19, 3) := by decide +kernel
theorem dX8_forget_4 : decode cX8_forget 4 = .ok (.iload_n 1, 1) := by decide +kernel
theorem dX8_forget_5 : decode cX8_forget 5 = .ok (.invokevirtual 147, 3) := by decide +kernel
theorem dX8_forget_8 : decode cX8_forget 8 = .ok (.ifCond .eq 14, 3) := by decide +kernel
theorem dX8_forget_11 : decode cX8_forget 11 = .ok (.aload_n 0, 1) := by decide +kernel
theorem dX8_forget_12 : decode cX8_forget 12 = .ok (.getfield 19, 3) := by decide +kernel
theorem dX8_forget_15 : decode cX8_forget 15 = .ok (.iload_n 2, 1) := by decide +kernel
theorem dX8_forget_16 : decode cX8_forget 16 = .ok (.invokevirtual 125, 3) := by decide +kernel
theorem dX8_forget_19 : decode cX8_forget 19 = .ok (.ifCond .ne 6, 3) := by decide +kernel
theorem dX8_forget_22 : decode cX8_forget 22 = .ok (.ldc 129, 2) := by decide +kernel
theorem dX8_forget_24 : decode cX8_forget 24 = .ok (.ireturn, 1) := by decide +kernel
theorem dX8_forget_25 : decode cX8_forget 25 = .ok (.aload_n 0, 1) := by decide +kernel
theorem dX8_forget_26 : decode cX8_forget 26 = .ok (.getfield 29, 3) := by decide +kernel
theorem dX8_forget_29 : decode cX8_forget 29 = .ok (.iload_n 1, 1) := by decide +kernel
theorem dX8_forget_30 : decode cX8_forget 30 = .ok (.iload_n 2, 1) := by decide +kernel
theorem dX8_forget_31 : decode cX8_forget 31 = .ok (.invokevirtual 162, 3) := by decide +kernel
theorem dX8_forget_34 : decode cX8_forget 34 = .ok (.ifCond .ne 6, 3) := by decide +kernel
theorem dX8_forget_37 : decode cX8_forget 37 = .ok (.ldc 179, 2) := by decide +kernel
theorem dX8_forget_39 : decode cX8_forget 39 = .ok (.ireturn, 1) := by decide +kernel
theorem dX8_forget_40 : decode cX8_forget 40 = .ok (.aload_n 0, 1) := by decide +kernel
theorem dX8_forget_41 : decode cX8_forget 41 = .ok (.getfield 29, 3) := by decide +kernel
theorem dX8_forget_44 : decode cX8_forget 44 = .ok (.iload_n 1, 1) := by decide +kernel
theorem dX8_forget_45 : decode cX8_forget 45 = .ok (.iload_n 2, 1) := by decide +kernel
theorem dX8_forget_46 : decode cX8_forget 46 = .ok (.invokevirtual 184, 3) := by decide +kernel
theorem dX8_forget_49 : decode cX8_forget 49 = .ok (.aload_n 0, 1) := by decide +kernel
theorem dX8_forget_50 : decode cX8_forget 50 = .ok (.getfield 29, 3) := by decide +kernel
theorem dX8_forget_53 : decode cX8_forget 53 = .ok (.aload_n 0, 1) := by decide +kernel
theorem dX8_forget_54 : decode cX8_forget 54 = .ok (.getfield 19, 3) := by decide +kernel
theorem dX8_forget_57 : decode cX8_forget 57 = .ok (.iload_n 2, 1) := by decide +kernel
theorem dX8_forget_58 : decode cX8_forget 58 = .ok (.invokevirtual 143, 3) := by decide +kernel
theorem dX8_forget_61 : decode cX8_forget 61 = .ok (.ireturn, 1) := by decide +kernel
theorem dX8_hour_0 : decode cX8_hour 0 = .ok (.aload_n 0, 1) := by decide +kernel
theorem dX8_hour_1 : decode cX8_hour 1 = .ok (.iload_n 1, 1) := by decide +kernel
theorem dX8_hour_2 : decode cX8_hour 2 = .ok (.invokevirtual 187, 3) := by decide +kernel
theorem dX8_hour_5 : decode cX8_hour 5 = .ok (.istore_n 2, 1) := by decide +kernel
theorem dX8_hour_6 : decode cX8_hour 6 = .ok (.iload_n 2, 1) := by decide +kernel
theorem dX8_hour_7 : decode cX8_hour 7 = .ok (.ifCond .eq 5, 3) := by decide +kernel
end
section
theorem dX8_hour_10 : decode cX8_hour 10 = .ok (.iload_n 2, 1) := by decide +kernel
theorem dX8_hour_11 : decode cX8_hour 11 = .ok (.ireturn, 1) := by decide +kernel
theorem dX8_hour_12 : decode cX8_hour 12 = .ok (.iconst 0, 1) := by decide +kernel
theorem dX8_hour_13 : decode cX8_hour 13 = .ok (.istore_n 3, 1) := by decide +kernel
theorem dX8_hour_14 : decode cX8_hour 14 = .ok (.iload_n 3, 1) := by decide +kernel
theorem dX8_hour_15 : decode cX8_hour 15 = .ok (.iload_n 1, 1) := by decide +kernel
theorem dX8_hour_16 : decode cX8_hour 16 = .ok (.if_icmp .ge 20, 3) := by decide +kernel
theorem dX8_hour_19 : decode cX8_hour 19 = .ok (.aload_n 0, 1) := by decide +kernel
theorem dX8_hour_20 : decode cX8_hour 20 = .ok (.getfield 29, 3) := by decide +kernel
theorem dX8_hour_23 : decode cX8_hour 23 = .ok (.aload_n 0, 1) := by decide +kernel
theorem dX8_hour_24 : decode cX8_hour 24 = .ok (.getfield 19, 3) := by decide +kernel
theorem dX8_hour_27 : decode cX8_hour 27 = .ok (.invokevirtual 190, 3) := by decide +kernel
theorem dX8_hour_30 : decode cX8_hour 30 = .ok (.iinc 3 1, 3) := by decide +kernel
theorem dX8_hour_33 : decode cX8_hour 33 = .ok (.goto (-19), 3) := by decide +kernel
theorem dX8_hour_36 : decode cX8_hour 36 = .ok (.aload_n 0, 1) := by decide +kernel
theorem dX8_hour_37 : decode cX8_hour 37 = .ok (.getfield 29, 3) := by decide +kernel
theorem dX8_hour_40 : decode cX8_hour 40 = .ok (.getfield 116, 3) := by decide +kernel
theorem dX8_hour_43 : decode cX8_hour 43 = .ok (.ireturn, 1) := by decide +kernel
theorem dX8_drift_0 : decode cX8_drift 0 = .ok (.aload_n 0, 1) := by decide +kernel
theorem dX8_drift_1 : decode cX8_drift 1 = .ok (.iload_n 1, 1) := by decide +kernel
theorem dX8_drift_2 : decode cX8_drift 2 = .ok (.invokevirtual 187, 3) := by decide +kernel
theorem dX8_drift_5 : decode cX8_drift 5 = .ok (.istore_n 2, 1) := by decide +kernel
theorem dX8_drift_6 : decode cX8_drift 6 = .ok (.iload_n 2, 1) := by decide +kernel
theorem dX8_drift_7 : decode cX8_drift 7 = .ok (.ifCond .eq 5, 3) := by decide +kernel
theorem dX8_drift_10 : decode cX8_drift 10 = .ok (.iload_n 2, 1) := by decide +kernel
theorem dX8_drift_11 : decode cX8_drift 11 = .ok (.ireturn, 1) := by decide +kernel
theorem dX8_drift_12 : decode cX8_drift 12 = .ok (.iconst 0, 1) := by decide +kernel
theorem dX8_drift_13 : decode cX8_drift 13 = .ok (.istore_n 3, 1) := by decide +kernel
theorem dX8_drift_14 : decode cX8_drift 14 = .ok (.iload_n 3, 1) := by decide +kernel
theorem dX8_drift_15 : decode cX8_drift 15 = .ok (.iload_n 1, 1) := by decide +kernel
theorem dX8_drift_16 : decode cX8_drift 16 = .ok (.if_icmp .ge 31, 3) := by decide +kernel
theorem dX8_drift_19 : decode cX8_drift 19 = .ok (.aload_n 0, 1) := by decide +kernel
theorem dX8_drift_20 : decode cX8_drift 20 = .ok (.getfield 29, 3) := by decide +kernel
theorem dX8_drift_23 : decode cX8_drift 23 = .ok (.aload_n 0, 1) := by decide +kernel
theorem dX8_drift_24 : decode cX8_drift 24 = .ok (.getfield 19, 3) := by decide +kernel
theorem dX8_drift_27 : decode cX8_drift 27 = .ok (.invokevirtual 193, 3) := by decide +kernel
theorem dX8_drift_30 : decode cX8_drift 30 = .ok (.aload_n 0, 1) := by decide +kernel
theorem dX8_drift_31 : decode cX8_drift 31 = .ok (.getfield 29, 3) := by decide +kernel
theorem dX8_drift_34 : decode cX8_drift 34 = .ok (.aload_n 0, 1) := by decide +kernel
theorem dX8_drift_35 : decode cX8_drift 35 = .ok (.getfield 19, 3) := by decide +kernel
theorem dX8_drift_38 : decode cX8_drift 38 = .ok (.invokevirtual 190, 3) := by decide +kernel
theorem dX8_drift_41 : decode cX8_drift 41 = .ok (.iinc 3 1, 3) := by decide +kernel
theorem dX8_drift_44 : decode cX8_drift 44 = .ok (.goto (-30), 3) := by decide +kernel
theorem dX8_drift_47 : decode cX8_drift 47 = .ok (.aload_n 0, 1) := by decide +kernel
theorem dX8_drift_48 : decode cX8_drift 48 = .ok (.getfield 29, 3) := by decide +kernel
theorem dX8_drift_51 : decode cX8_drift 51 = .ok (.getfield 116, 3) := by decide +kernel
theorem dX8_drift_54 : decode cX8_drift 54 = .ok (.ireturn, 1) := by decide +kernel
theorem dX8_refusalOfHours_0 : decode cX8_refusalOfHours 0 = .ok (.iload_n 1, 1) := by decide +kernel
theorem dX8_refusalOfHours_1 : decode cX8_refusalOfHours 1 = .ok (.iconst 1, 1) := by decide +kernel
theorem dX8_refusalOfHours_2 : decode cX8_refusalOfHours 2 = .ok (.if_icmp .lt 9, 3) := by decide +kernel
theorem dX8_refusalOfHours_5 : decode cX8_refusalOfHours 5 = .ok (.iload_n 1, 1) := by decide +kernel
theorem dX8_refusalOfHours_6 : decode cX8_refusalOfHours 6 = .ok (.bipush 99, 2) := by decide +kernel
theorem dX8_refusalOfHours_8 : decode cX8_refusalOfHours 8 = .ok (.if_icmp .le 6, 3) := by decide +kernel
theorem dX8_refusalOfHours_11 : decode cX8_refusalOfHours 11 = .ok (.ldc 75, 2) := by decide +kernel
theorem dX8_refusalOfHours_13 : decode cX8_refusalOfHours 13 = .ok (.ireturn, 1) := by decide +kernel
theorem dX8_refusalOfHours_14 : decode cX8_refusalOfHours 14 = .ok (.aload_n 0, 1) := by decide +kernel
theorem dX8_refusalOfHours_15 : decode cX8_refusalOfHours 15 = .ok (.getfield 19, 3) := by decide +kernel
theorem dX8_refusalOfHours_18 : decode cX8_refusalOfHours 18 = .ok (.getfield 98, 3) := by decide +kernel
theorem dX8_refusalOfHours_21 : decode cX8_refusalOfHours 21 = .ok (.ifCond .ne 6, 3) := by decide +kernel
theorem dX8_refusalOfHours_24 : decode cX8_refusalOfHours 24 = .ok (.ldc 179, 2) := by decide +kernel
theorem dX8_refusalOfHours_26 : decode cX8_refusalOfHours 26 = .ok (.ireturn, 1) := by decide +kernel
theorem dX8_refusalOfHours_27 : decode cX8_refusalOfHours 27 = .ok (.aload_n 0, 1) := by decide +kernel
theorem dX8_refusalOfHours_28 : decode cX8_refusalOfHours 28 = .ok (.getfield 29, 3) := by decide +kernel
theorem dX8_refusalOfHours_31 : decode cX8_refusalOfHours 31 = .ok (.getfield 116, 3) := by decide +kernel
theorem dX8_refusalOfHours_34 : decode cX8_refusalOfHours 34 = .ok (.ldc 196, 2) := by decide +kernel
theorem dX8_refusalOfHours_36 : decode cX8_refusalOfHours 36 = .ok (.if_icmp .le 8, 3) := by decide +kernel
theorem dX8_refusalOfHours_39 : decode cX8_refusalOfHours 39 = .ok (.ldc 197, 2) := by decide +kernel
theorem dX8_refusalOfHours_41 : decode cX8_refusalOfHours 41 = .ok (.goto 4, 3) := by decide +kernel
theorem dX8_refusalOfHours_44 : decode cX8_refusalOfHours 44 = .ok (.iconst 0, 1) := by decide +kernel
theorem dX8_refusalOfHours_45 : decode cX8_refusalOfHours 45 = .ok (.ireturn, 1) := by decide +kernel
theorem dX8_heavy_0 : decode cX8_heavy 0 = .ok (.aload_n 0, 1) := by decide +kernel
theorem dX8_heavy_1 : decode cX8_heavy 1 = .ok (.getfield 19, 3) := by decide +kernel
theorem dX8_heavy_4 : decode cX8_heavy 4 = .ok (.iload_n 1, 1) := by decide +kernel
theorem dX8_heavy_5 : decode cX8_heavy 5 = .ok (.invokevirtual 147, 3) := by decide +kernel
theorem dX8_heavy_8 : decode cX8_heavy 8 = .ok (.ifCond .ne 6, 3) := by decide +kernel
theorem dX8_heavy_11 : decode cX8_heavy 11 = .ok (.ldc 129, 2) := by decide +kernel
theorem dX8_heavy_13 : decode cX8_heavy 13 = .ok (.ireturn, 1) := by decide +kernel
theorem dX8_heavy_14 : decode cX8_heavy 14 = .ok (.iload_n 2, 1) := by decide +kernel
theorem dX8_heavy_15 : decode cX8_heavy 15 = .ok (.ifCond .lt 9, 3) := by decide +kernel
theorem dX8_heavy_18 : decode cX8_heavy 18 = .ok (.iload_n 2, 1) := by decide +kernel
theorem dX8_heavy_19 : decode cX8_heavy 19 = .ok (.bipush 99, 2) := by decide +kernel
theorem dX8_heavy_21 : decode cX8_heavy 21 = .ok (.if_icmp .le 6, 3) := by decide +kernel
theorem dX8_heavy_24 : decode cX8_heavy 24 = .ok (.ldc 75, 2) := by decide +kernel
theorem dX8_heavy_26 : decode cX8_heavy 26 = .ok (.ireturn, 1) := by decide +kernel
theorem dX8_heavy_27 : decode cX8_heavy 27 = .ok (.aload_n 0, 1) := by decide +kernel
theorem dX8_heavy_28 : decode cX8_heavy 28 = .ok (.getfield 33, 3) := by decide +kernel
theorem dX8_heavy_31 : decode cX8_heavy 31 = .ok (.aload_n 0, 1) := by decide +kernel
theorem dX8_heavy_32 : decode cX8_heavy 32 = .ok (.getfield 29, 3) := by decide +kernel
theorem dX8_heavy_35 : decode cX8_heavy 35 = .ok (.invokevirtual 198, 3) := by decide +kernel
theorem dX8_heavy_38 : decode cX8_heavy 38 = .ok (.iconst 0, 1) := by decide +kernel
theorem dX8_heavy_39 : decode cX8_heavy 39 = .ok (.istore_n 3, 1) := by decide +kernel
theorem dX8_heavy_40 : decode cX8_heavy 40 = .ok (.iload_n 3, 1) := by decide +kernel
theorem dX8_heavy_41 : decode cX8_heavy 41 = .ok (.iload_n 2, 1) := by decide +kernel
theorem dX8_heavy_42 : decode cX8_heavy 42 = .ok (.if_icmp .ge 20, 3) := by decide +kernel
theorem dX8_heavy_45 : decode cX8_heavy 45 = .ok (.aload_n 0, 1) := by decide +kernel
theorem dX8_heavy_46 : decode cX8_heavy 46 = .ok (.getfield 33, 3) := by decide +kernel
theorem dX8_heavy_49 : decode cX8_heavy 49 = .ok (.aload_n 0, 1) := by decide +kernel
theorem dX8_heavy_50 : decode cX8_heavy 50 = .ok (.getfield 19, 3) := by decide +kernel
theorem dX8_heavy_53 : decode cX8_heavy 53 = .ok (.invokevirtual 190, 3) := by decide +kernel
theorem dX8_heavy_56 : decode cX8_heavy 56 = .ok (.iinc 3 1, 3) := by decide +kernel
theorem dX8_heavy_59 : decode cX8_heavy 59 = .ok (.goto (-19), 3) := by decide +kernel
theorem dX8_heavy_62 : decode cX8_heavy 62 = .ok (.aload_n 0, 1) := by decide +kernel
theorem dX8_heavy_63 : decode cX8_heavy 63 = .ok (.getfield 33, 3) := by decide +kernel
theorem dX8_heavy_66 : decode cX8_heavy 66 = .ok (.aload_n 0, 1) := by decide +kernel
theorem dX8_heavy_67 : decode cX8_heavy 67 = .ok (.getfield 19, 3) := by decide +kernel
theorem dX8_heavy_70 : decode cX8_heavy 70 = .ok (.iload_n 1, 1) := by decide +kernel
theorem dX8_heavy_71 : decode cX8_heavy 71 = .ok (.invokevirtual 170, 3) := by decide +kernel
theorem dX8_heavy_74 : decode cX8_heavy 74 = .ok (.ireturn, 1) := by decide +kernel
theorem dX8_when_0 : decode cX8_when 0 = .ok (.aload_n 0, 1) := by decide +kernel
theorem dX8_when_1 : decode cX8_when 1 = .ok (.getfield 19, 3) := by decide +kernel
theorem dX8_when_4 : decode cX8_when 4 = .ok (.iload_n 1, 1) := by decide +kernel
theorem dX8_when_5 : decode cX8_when 5 = .ok (.invokevirtual 147, 3) := by decide +kernel
theorem dX8_when_8 : decode cX8_when 8 = .ok (.ifCond .eq 14, 3) := by decide +kernel
theorem dX8_when_11 : decode cX8_when 11 = .ok (.aload_n 0, 1) := by decide +kernel
theorem dX8_when_12 : decode cX8_when 12 = .ok (.getfield 19, 3) := by decide +kernel
theorem dX8_when_15 : decode cX8_when 15 = .ok (.iload_n 2, 1) := by decide +kernel
theorem dX8_when_16 : decode cX8_when 16 = .ok (.invokevirtual 173, 3) := by decide +kernel
theorem dX8_when_19 : decode cX8_when 19 = .ok (.ifCond .ne 6, 3) := by decide +kernel
theorem dX8_when_22 : decode cX8_when 22 = .ok (.ldc 129, 2) := by decide +kernel
theorem dX8_when_24 : decode cX8_when 24 = .ok (.ireturn, 1) := by decide +kernel
theorem dX8_when_25 : decode cX8_when 25 = .ok (.aload_n 0, 1) := by decide +kernel
theorem dX8_when_26 : decode cX8_when 26 = .ok (.getfield 33, 3) := by decide +kernel
theorem dX8_when_29 : decode cX8_when 29 = .ok (.aload_n 0, 1) := by decide +kernel
theorem dX8_when_30 : decode cX8_when 30 = .ok (.getfield 29, 3) := by decide +kernel
theorem dX8_when_33 : decode cX8_when 33 = .ok (.invokevirtual 198, 3) := by decide +kernel
theorem dX8_when_36 : decode cX8_when 36 = .ok (.iconst 0, 1) := by decide +kernel
theorem dX8_when_37 : decode cX8_when 37 = .ok (.istore_n 3, 1) := by decide +kernel
theorem dX8_when_38 : decode cX8_when 38 = .ok (.iload_n 3, 1) := by decide +kernel
theorem dX8_when_39 : decode cX8_when 39 = .ok (.bipush 99, 2) := by decide +kernel
theorem dX8_when_41 : decode cX8_when 41 = .ok (.if_icmp .gt 46, 3) := by decide +kernel
theorem dX8_when_44 : decode cX8_when 44 = .ok (.aload_n 0, 1) := by decide +kernel
theorem dX8_when_45 : decode cX8_when 45 = .ok (.getfield 33, 3) := by decide +kernel
theorem dX8_when_48 : decode cX8_when 48 = .ok (.aload_n 0, 1) := by decide +kernel
theorem dX8_when_49 : decode cX8_when 49 = .ok (.getfield 19, 3) := by decide +kernel
theorem dX8_when_52 : decode cX8_when 52 = .ok (.iload_n 1, 1) := by decide +kernel
theorem dX8_when_53 : decode cX8_when 53 = .ok (.invokevirtual 170, 3) := by decide +kernel
theorem dX8_when_56 : decode cX8_when 56 = .ok (.aload_n 0, 1) := by decide +kernel
theorem dX8_when_57 : decode cX8_when 57 = .ok (.getfield 19, 3) := by decide +kernel
theorem dX8_when_60 : decode cX8_when 60 = .ok (.getfield 176, 3) := by decide +kernel
theorem dX8_when_63 : decode cX8_when 63 = .ok (.iload_n 2, 1) := by decide +kernel
theorem dX8_when_64 : decode cX8_when 64 = .ok (.iaload, 1) := by decide +kernel
theorem dX8_when_65 : decode cX8_when 65 = .ok (.if_icmp .gt 5, 3) := by decide +kernel
theorem dX8_when_68 : decode cX8_when 68 = .ok (.iload_n 3, 1) := by decide +kernel
theorem dX8_when_69 : decode cX8_when 69 = .ok (.ireturn, 1) := by decide +kernel
theorem dX8_when_70 : decode cX8_when 70 = .ok (.aload_n 0, 1) := by decide +kernel
theorem dX8_when_71 : decode cX8_when 71 = .ok (.getfield 33, 3) := by decide +kernel
theorem dX8_when_74 : decode cX8_when 74 = .ok (.aload_n 0, 1) := by decide +kernel
theorem dX8_when_75 : decode cX8_when 75 = .ok (.getfield 19, 3) := by decide +kernel
theorem dX8_when_78 : decode cX8_when 78 = .ok (.invokevirtual 190, 3) := by decide +kernel
theorem dX8_when_81 : decode cX8_when 81 = .ok (.iinc 3 1, 3) := by decide +kernel
theorem dX8_when_84 : decode cX8_when 84 = .ok (.goto (-46), 3) := by decide +kernel
theorem dX8_when_87 : decode cX8_when 87 = .ok (.iconst (-1), 1) := by decide +kernel
theorem dX8_when_88 : decode cX8_when 88 = .ok (.ireturn, 1) := by decide +kernel
theorem dX8_least_0 : decode cX8_least 0 = .ok (.aload_n 0, 1) := by decide +kernel
theorem dX8_least_1 : decode cX8_least 1 = .ok (.getfield 19, 3) := by decide +kernel
theorem dX8_least_4 : decode cX8_least 4 = .ok (.iload_n 1, 1) := by decide +kernel
theorem dX8_least_5 : decode cX8_least 5 = .ok (.invokevirtual 202, 3) := by decide +kernel
theorem dX8_least_8 : decode cX8_least 8 = .ok (.ifCond .eq 25, 3) := by decide +kernel
theorem dX8_least_11 : decode cX8_least 11 = .ok (.aload_n 0, 1) := by decide +kernel
theorem dX8_least_12 : decode cX8_least 12 = .ok (.getfield 19, 3) := by decide +kernel
theorem dX8_least_15 : decode cX8_least 15 = .ok (.iload_n 2, 1) := by decide +kernel
theorem dX8_least_16 : decode cX8_least 16 = .ok (.invokevirtual 173, 3) := by decide +kernel
theorem dX8_least_19 : decode cX8_least 19 = .ok (.ifCond .eq 14, 3) := by decide +kernel
theorem dX8_least_22 : decode cX8_least 22 = .ok (.aload_n 0, 1) := by decide +kernel
theorem dX8_least_23 : decode cX8_least 23 = .ok (.getfield 19, 3) := by decide +kernel
theorem dX8_least_26 : decode cX8_least 26 = .ok (.iload_n 3, 1) := by decide +kernel
theorem dX8_least_27 : decode cX8_least 27 = .ok (.invokevirtual 205, 3) := by decide +kernel
theorem dX8_least_30 : decode cX8_least 30 = .ok (.ifCond .ne 6, 3) := by decide +kernel
theorem dX8_least_33 : decode cX8_least 33 = .ok (.ldc 129, 2) := by decide +kernel
theorem dX8_least_35 : decode cX8_least 35 = .ok (.ireturn, 1) := by decide +kernel
theorem dX8_least_36 : decode cX8_least 36 = .ok (.aload_n 0, 1) := by decide +kernel
theorem dX8_least_37 : decode cX8_least 37 = .ok (.getfield 29, 3) := by decide +kernel
theorem dX8_least_40 : decode cX8_least 40 = .ok (.aload_n 0, 1) := by decide +kernel
theorem dX8_least_41 : decode cX8_least 41 = .ok (.getfield 19, 3) := by decide +kernel
theorem dX8_least_44 : decode cX8_least 44 = .ok (.iload_n 1, 1) := by decide +kernel
theorem dX8_least_45 : decode cX8_least 45 = .ok (.invokevirtual 208, 3) := by decide +kernel
theorem dX8_least_48 : decode cX8_least 48 = .ok (.aload_n 0, 1) := by decide +kernel
theorem dX8_least_49 : decode cX8_least 49 = .ok (.getfield 19, 3) := by decide +kernel
theorem dX8_least_52 : decode cX8_least 52 = .ok (.getfield 176, 3) := by decide +kernel
theorem dX8_least_55 : decode cX8_least 55 = .ok (.iload_n 2, 1) := by decide +kernel
theorem dX8_least_56 : decode cX8_least 56 = .ok (.iaload, 1) := by decide +kernel
theorem dX8_least_57 : decode cX8_least 57 = .ok (.isub, 1) := by decide +kernel
theorem dX8_least_58 : decode cX8_least 58 = .ok (.istore 4, 2) := by decide +kernel
theorem dX8_least_60 : decode cX8_least 60 = .ok (.iconst 0, 1) := by decide +kernel
theorem dX8_least_61 : decode cX8_least 61 = .ok (.istore 5, 2) := by decide +kernel
theorem dX8_least_63 : decode cX8_least 63 = .ok (.iconst 0, 1) := by decide +kernel
theorem dX8_least_64 : decode cX8_least 64 = .ok (.istore 6, 2) := by decide +kernel
theorem dX8_least_66 : decode cX8_least 66 = .ok (.bipush 9, 2) := by decide +kernel
theorem dX8_least_68 : decode cX8_least 68 = .ok (.istore 7, 2) := by decide +kernel
theorem dX8_least_70 : decode cX8_least 70 = .ok (.iload 7, 2) := by decide +kernel
theorem dX8_least_72 : decode cX8_least 72 = .ok (.ifCond .le 130, 3) := by decide +kernel
theorem dX8_least_75 : decode cX8_least 75 = .ok (.iconst 0, 1) := by decide +kernel
theorem dX8_least_76 : decode cX8_least 76 = .ok (.istore 8, 2) := by decide +kernel
theorem dX8_least_78 : decode cX8_least 78 = .ok (.iload 8, 2) := by decide +kernel
theorem dX8_least_80 : decode cX8_least 80 = .ok (.aload_n 0, 1) := by decide +kernel
theorem dX8_least_81 : decode cX8_least 81 = .ok (.getfield 19, 3) := by decide +kernel
theorem dX8_least_84 : decode cX8_least 84 = .ok (.getfield 104, 3) := by decide +kernel
theorem dX8_least_87 : decode cX8_least 87 = .ok (.if_icmp .ge 109, 3) := by decide +kernel
theorem dX8_least_90 : decode cX8_least 90 = .ok (.aload_n 0, 1) := by decide +kernel
theorem dX8_least_91 : decode cX8_least 91 = .ok (.getfield 19, 3) := by decide +kernel
theorem dX8_least_94 : decode cX8_least 94 = .ok (.getfield 134, 3) := by decide +kernel
theorem dX8_least_97 : decode cX8_least 97 = .ok (.iload 8, 2) := by decide +kernel
theorem dX8_least_99 : decode cX8_least 99 = .ok (.iaload, 1) := by decide +kernel
theorem dX8_least_100 : decode cX8_least 100 = .ok (.iload 7, 2) := by decide +kernel
theorem dX8_least_102 : decode cX8_least 102 = .ok (.if_icmp .ne 88, 3) := by decide +kernel
theorem dX8_least_105 : decode cX8_least 105 = .ok (.aload_n 0, 1) := by decide +kernel
theorem dX8_least_106 : decode cX8_least 106 = .ok (.getfield 19, 3) := by decide +kernel
theorem dX8_least_109 : decode cX8_least 109 = .ok (.iload 8, 2) := by decide +kernel
theorem dX8_least_111 : decode cX8_least 111 = .ok (.invokevirtual 137, 3) := by decide +kernel
theorem dX8_least_114 : decode cX8_least 114 = .ok (.ifCond .ne 76, 3) := by decide +kernel
theorem dX8_least_117 : decode cX8_least 117 = .ok (.iload_n 1, 1) := by decide +kernel
theorem dX8_least_118 : decode cX8_least 118 = .ok (.aload_n 0, 1) := by decide +kernel
theorem dX8_least_119 : decode cX8_least 119 = .ok (.getfield 19, 3) := by decide +kernel
theorem dX8_least_122 : decode cX8_least 122 = .ok (.getfield 130, 3) := by decide +kernel
theorem dX8_least_125 : decode cX8_least 125 = .ok (.iload 8, 2) := by decide +kernel
theorem dX8_least_127 : decode cX8_least 127 = .ok (.iaload, 1) := by decide +kernel
theorem dX8_least_128 : decode cX8_least 128 = .ok (.ishr, 1) := by decide +kernel
theorem dX8_least_129 : decode cX8_least 129 = .ok (.iconst 1, 1) := by decide +kernel
theorem dX8_least_130 : decode cX8_least 130 = .ok (.iand, 1) := by decide +kernel
theorem dX8_least_131 : decode cX8_least 131 = .ok (.ifCond .eq 59, 3) := by decide +kernel
theorem dX8_least_134 : decode cX8_least 134 = .ok (.iload 4, 2) := by decide +kernel
theorem dX8_least_136 : decode cX8_least 136 = .ok (.iload 7, 2) := by decide +kernel
theorem dX8_least_138 : decode cX8_least 138 = .ok (.aload_n 0, 1) := by decide +kernel
theorem dX8_least_139 : decode cX8_least 139 = .ok (.getfield 29, 3) := by decide +kernel
theorem dX8_least_142 : decode cX8_least 142 = .ok (.aload_n 0, 1) := by decide +kernel
theorem dX8_least_143 : decode cX8_least 143 = .ok (.getfield 19, 3) := by decide +kernel
theorem dX8_least_146 : decode cX8_least 146 = .ok (.iload 8, 2) := by decide +kernel
theorem dX8_least_148 : decode cX8_least 148 = .ok (.invokevirtual 143, 3) := by decide +kernel
theorem dX8_least_151 : decode cX8_least 151 = .ok (.invokestatic 211, 3) := by decide +kernel
theorem dX8_least_154 : decode cX8_least 154 = .ok (.istore 9, 2) := by decide +kernel
theorem dX8_least_156 : decode cX8_least 156 = .ok (.iload 4, 2) := by decide +kernel
theorem dX8_least_158 : decode cX8_least 158 = .ok (.iload 9, 2) := by decide +kernel
theorem dX8_least_160 : decode cX8_least 160 = .ok (.iload 7, 2) := by decide +kernel
theorem dX8_least_162 : decode cX8_least 162 = .ok (.imul, 1) := by decide +kernel
theorem dX8_least_163 : decode cX8_least 163 = .ok (.isub, 1) := by decide +kernel
theorem dX8_least_164 : decode cX8_least 164 = .ok (.istore 4, 2) := by decide +kernel
theorem dX8_least_166 : decode cX8_least 166 = .ok (.iload 5, 2) := by decide +kernel
theorem dX8_least_168 : decode cX8_least 168 = .ok (.iload 9, 2) := by decide +kernel
theorem dX8_least_170 : decode cX8_least 170 = .ok (.iadd, 1) := by decide +kernel
theorem dX8_least_171 : decode cX8_least 171 = .ok (.istore 5, 2) := by decide +kernel
theorem dX8_least_173 : decode cX8_least 173 = .ok (.iload 6, 2) := by decide +kernel
theorem dX8_least_175 : decode cX8_least 175 = .ok (.iload 8, 2) := by decide +kernel
theorem dX8_least_177 : decode cX8_least 177 = .ok (.iload_n 3, 1) := by decide +kernel
theorem dX8_least_178 : decode cX8_least 178 = .ok (.if_icmp .ne 8, 3) := by decide +kernel
theorem dX8_least_181 : decode cX8_least 181 = .ok (.iload 9, 2) := by decide +kernel
theorem dX8_least_183 : decode cX8_least 183 = .ok (.goto 4, 3) := by decide +kernel
theorem dX8_least_186 : decode cX8_least 186 = .ok (.iconst 0, 1) := by decide +kernel
theorem dX8_least_187 : decode cX8_least 187 = .ok (.iadd, 1) := by decide +kernel
theorem dX8_least_188 : decode cX8_least 188 = .ok (.istore 6, 2) := by decide +kernel
theorem dX8_least_190 : decode cX8_least 190 = .ok (.iinc 8 1, 3) := by decide +kernel
theorem dX8_least_193 : decode cX8_least 193 = .ok (.goto (-115), 3) := by decide +kernel
theorem dX8_least_196 : decode cX8_least 196 = .ok (.iinc 7 (-1), 3) := by decide +kernel
theorem dX8_least_199 : decode cX8_least 199 = .ok (.goto (-129), 3) := by decide +kernel
theorem dX8_least_202 : decode cX8_least 202 = .ok (.iload 4, 2) := by decide +kernel
theorem dX8_least_204 : decode cX8_least 204 = .ok (.ifCond .le 5, 3) := by decide +kernel
theorem dX8_least_207 : decode cX8_least 207 = .ok (.iconst (-1), 1) := by decide +kernel
theorem dX8_least_208 : decode cX8_least 208 = .ok (.ireturn, 1) := by decide +kernel
theorem dX8_least_209 : decode cX8_least 209 = .ok (.iload_n 3, 1) := by decide +kernel
theorem dX8_least_210 : decode cX8_least 210 = .ok (.iconst (-1), 1) := by decide +kernel
theorem dX8_least_211 : decode cX8_least 211 = .ok (.if_icmp .ne 8, 3) := by decide +kernel
theorem dX8_least_214 : decode cX8_least 214 = .ok (.iload 5, 2) := by decide +kernel
theorem dX8_least_216 : decode cX8_least 216 = .ok (.goto 5, 3) := by decide +kernel
theorem dX8_least_219 : decode cX8_least 219 = .ok (.iload 6, 2) := by decide +kernel
theorem dX8_least_221 : decode cX8_least 221 = .ok (.ireturn, 1) := by decide +kernel
theorem dX8_timesToForget_0 : decode cX8_timesToForget 0 = .ok (.iconst 0, 1) := by decide +kernel
theorem dX8_timesToForget_1 : decode cX8_timesToForget 1 = .ok (.istore_n 3, 1) := by decide +kernel
theorem dX8_timesToForget_2 : decode cX8_timesToForget 2 = .ok (.iload_n 3, 1) := by decide +kernel
theorem dX8_timesToForget_3 : decode cX8_timesToForget 3 = .ok (.iload_n 2, 1) := by decide +kernel
theorem dX8_timesToForget_4 : decode cX8_timesToForget 4 = .ok (.if_icmp .ge 17, 3) := by decide +kernel
theorem dX8_timesToForget_7 : decode cX8_timesToForget 7 = .ok (.iload_n 0, 1) := by decide +kernel
theorem dX8_timesToForget_8 : decode cX8_timesToForget 8 = .ok (.iload_n 3, 1) := by decide +kernel
theorem dX8_timesToForget_9 : decode cX8_timesToForget 9 = .ok (.iload_n 1, 1) := by decide +kernel
theorem dX8_timesToForget_10 : decode cX8_timesToForget 10 = .ok (.imul, 1) := by decide +kernel
theorem dX8_timesToForget_11 : decode cX8_timesToForget 11 = .ok (.isub, 1) := by decide +kernel
theorem dX8_timesToForget_12 : decode cX8_timesToForget 12 = .ok (.ifCond .le 9, 3) := by decide +kernel
theorem dX8_timesToForget_15 : decode cX8_timesToForget 15 = .ok (.iinc 3 1, 3) := by decide +kernel
theorem dX8_timesToForget_18 : decode cX8_timesToForget 18 = .ok (.goto (-16), 3) := by decide +kernel
theorem dX8_timesToForget_21 : decode cX8_timesToForget 21 = .ok (.iload_n 3, 1) := by decide +kernel
theorem dX8_timesToForget_22 : decode cX8_timesToForget 22 = .ok (.ireturn, 1) := by decide +kernel
theorem dX8_trips_0 : decode cX8_trips 0 = .ok (.aload_n 0, 1) := by decide +kernel
theorem dX8_trips_1 : decode cX8_trips 1 = .ok (.getfield 19, 3) := by decide +kernel
theorem dX8_trips_4 : decode cX8_trips 4 = .ok (.iload_n 1, 1) := by decide +kernel
theorem dX8_trips_5 : decode cX8_trips 5 = .ok (.invokevirtual 202, 3) := by decide +kernel
theorem dX8_trips_8 : decode cX8_trips 8 = .ok (.ifCond .eq 14, 3) := by decide +kernel
theorem dX8_trips_11 : decode cX8_trips 11 = .ok (.aload_n 0, 1) := by decide +kernel
theorem dX8_trips_12 : decode cX8_trips 12 = .ok (.getfield 19, 3) := by decide +kernel
theorem dX8_trips_15 : decode cX8_trips 15 = .ok (.iload_n 2, 1) := by decide +kernel
theorem dX8_trips_16 : decode cX8_trips 16 = .ok (.invokevirtual 173, 3) := by decide +kernel
theorem dX8_trips_19 : decode cX8_trips 19 = .ok (.ifCond .ne 6, 3) := by decide +kernel
theorem dX8_trips_22 : decode cX8_trips 22 = .ok (.ldc 129, 2) := by decide +kernel
theorem dX8_trips_24 : decode cX8_trips 24 = .ok (.ireturn, 1) := by decide +kernel
theorem dX8_trips_25 : decode cX8_trips 25 = .ok (.aload_n 0, 1) := by decide +kernel
theorem dX8_trips_26 : decode cX8_trips 26 = .ok (.getfield 50, 3) := by decide +kernel
theorem dX8_trips_29 : decode cX8_trips 29 = .ok (.aload_n 0, 1) := by decide +kernel
theorem dX8_trips_30 : decode cX8_trips 30 = .ok (.getfield 19, 3) := by decide +kernel
theorem dX8_trips_33 : decode cX8_trips 33 = .ok (.aload_n 0, 1) := by decide +kernel
theorem dX8_trips_34 : decode cX8_trips 34 = .ok (.getfield 29, 3) := by decide +kernel
theorem dX8_trips_37 : decode cX8_trips 37 = .ok (.iload_n 1, 1) := by decide +kernel
theorem dX8_trips_38 : decode cX8_trips 38 = .ok (.aload_n 0, 1) := by decide +kernel
theorem dX8_trips_39 : decode cX8_trips 39 = .ok (.getfield 19, 3) := by decide +kernel
theorem dX8_trips_42 : decode cX8_trips 42 = .ok (.getfield 176, 3) := by decide +kernel
theorem dX8_trips_45 : decode cX8_trips 45 = .ok (.iload_n 2, 1) := by decide +kernel
theorem dX8_trips_46 : decode cX8_trips 46 = .ok (.iaload, 1) := by decide +kernel
theorem dX8_trips_47 : decode cX8_trips 47 = .ok (.invokevirtual 215, 3) := by decide +kernel
theorem dX8_trips_50 : decode cX8_trips 50 = .ok (.iload_n 3, 1) := by decide +kernel
theorem dX8_trips_51 : decode cX8_trips 51 = .ok (.iconst (-1), 1) := by decide +kernel
theorem dX8_trips_52 : decode cX8_trips 52 = .ok (.if_icmp .ne 15, 3) := by decide +kernel
theorem dX8_trips_55 : decode cX8_trips 55 = .ok (.aload_n 0, 1) := by decide +kernel
theorem dX8_trips_56 : decode cX8_trips 56 = .ok (.getfield 50, 3) := by decide +kernel
theorem dX8_trips_59 : decode cX8_trips 59 = .ok (.getfield 219, 3) := by decide +kernel
theorem dX8_trips_62 : decode cX8_trips 62 = .ok (.iload_n 1, 1) := by decide +kernel
theorem dX8_trips_63 : decode cX8_trips 63 = .ok (.iaload, 1) := by decide +kernel
theorem dX8_trips_64 : decode cX8_trips 64 = .ok (.goto 12, 3) := by decide +kernel
theorem dX8_trips_67 : decode cX8_trips 67 = .ok (.aload_n 0, 1) := by decide +kernel
theorem dX8_trips_68 : decode cX8_trips 68 = .ok (.getfield 50, 3) := by decide +kernel
theorem dX8_trips_71 : decode cX8_trips 71 = .ok (.iload_n 1, 1) := by decide +kernel
theorem dX8_trips_72 : decode cX8_trips 72 = .ok (.iload_n 3, 1) := by decide +kernel
theorem dX8_trips_73 : decode cX8_trips 73 = .ok (.invokevirtual 222, 3) := by decide +kernel
theorem dX8_trips_76 : decode cX8_trips 76 = .ok (.ireturn, 1) := by decide +kernel
theorem dX8_counted_0 : decode cX8_counted 0 = .ok (.aload_n 0, 1) := by decide +kernel
theorem dX8_counted_1 : decode cX8_counted 1 = .ok (.getfield 19, 3) := by decide +kernel
theorem dX8_counted_4 : decode cX8_counted 4 = .ok (.iload_n 1, 1) := by decide +kernel
theorem dX8_counted_5 : decode cX8_counted 5 = .ok (.invokevirtual 147, 3) := by decide +kernel
theorem dX8_counted_8 : decode cX8_counted 8 = .ok (.ifCond .eq 14, 3) := by decide +kernel
theorem dX8_counted_11 : decode cX8_counted 11 = .ok (.aload_n 0, 1) := by decide +kernel
theorem dX8_counted_12 : decode cX8_counted 12 = .ok (.getfield 19, 3) := by decide +kernel
theorem dX8_counted_15 : decode cX8_counted 15 = .ok (.iload_n 3, 1) := by decide +kernel
theorem dX8_counted_16 : decode cX8_counted 16 = .ok (.invokevirtual 205, 3) := by decide +kernel
theorem dX8_counted_19 : decode cX8_counted 19 = .ok (.ifCond .ne 6, 3) := by decide +kernel
theorem dX8_counted_22 : decode cX8_counted 22 = .ok (.ldc 129, 2) := by decide +kernel
theorem dX8_counted_24 : decode cX8_counted 24 = .ok (.ireturn, 1) := by decide +kernel
theorem dX8_counted_25 : decode cX8_counted 25 = .ok (.iload_n 2, 1) := by decide +kernel
theorem dX8_counted_26 : decode cX8_counted 26 = .ok (.invokestatic 225, 3) := by decide +kernel
theorem dX8_counted_29 : decode cX8_counted 29 = .ok (.ifCond .eq 14, 3) := by decide +kernel
theorem dX8_counted_32 : decode cX8_counted 32 = .ok (.iload 4, 2) := by decide +kernel
theorem dX8_counted_34 : decode cX8_counted 34 = .ok (.ifCond .lt 9, 3) := by decide +kernel
theorem dX8_counted_37 : decode cX8_counted 37 = .ok (.iload 4, 2) := by decide +kernel
theorem dX8_counted_39 : decode cX8_counted 39 = .ok (.iconst 1, 1) := by decide +kernel
theorem dX8_counted_40 : decode cX8_counted 40 = .ok (.if_icmp .le 6, 3) := by decide +kernel
theorem dX8_counted_43 : decode cX8_counted 43 = .ok (.ldc 75, 2) := by decide +kernel
theorem dX8_counted_45 : decode cX8_counted 45 = .ok (.ireturn, 1) := by decide +kernel
theorem dX8_counted_46 : decode cX8_counted 46 = .ok (.iload_n 3, 1) := by decide +kernel
theorem dX8_counted_47 : decode cX8_counted 47 = .ok (.iconst (-1), 1) := by decide +kernel
theorem dX8_counted_48 : decode cX8_counted 48 = .ok (.if_icmp .ne 32, 3) := by decide +kernel
theorem dX8_counted_51 : decode cX8_counted 51 = .ok (.aload_n 0, 1) := by decide +kernel
theorem dX8_counted_52 : decode cX8_counted 52 = .ok (.getfield 57, 3) := by decide +kernel
theorem dX8_counted_55 : decode cX8_counted 55 = .ok (.aload_n 0, 1) := by decide +kernel
theorem dX8_counted_56 : decode cX8_counted 56 = .ok (.getfield 19, 3) := by decide +kernel
theorem dX8_counted_59 : decode cX8_counted 59 = .ok (.aload_n 0, 1) := by decide +kernel
theorem dX8_counted_60 : decode cX8_counted 60 = .ok (.getfield 19, 3) := by decide +kernel
theorem dX8_counted_63 : decode cX8_counted 63 = .ok (.getfield 153, 3) := by decide +kernel
theorem dX8_counted_66 : decode cX8_counted 66 = .ok (.iload_n 1, 1) := by decide +kernel
theorem dX8_counted_67 : decode cX8_counted 67 = .ok (.iaload, 1) := by decide +kernel
theorem dX8_counted_68 : decode cX8_counted 68 = .ok (.invokevirtual 228, 3) := by decide +kernel
theorem dX8_counted_71 : decode cX8_counted 71 = .ok (.aload_n 0, 1) := by decide +kernel
theorem dX8_counted_72 : decode cX8_counted 72 = .ok (.getfield 57, 3) := by decide +kernel
theorem dX8_counted_75 : decode cX8_counted 75 = .ok (.iload_n 2, 1) := by decide +kernel
theorem dX8_counted_76 : decode cX8_counted 76 = .ok (.invokevirtual 232, 3) := by decide +kernel
theorem dX8_counted_79 : decode cX8_counted 79 = .ok (.ireturn, 1) := by decide +kernel
theorem dX8_counted_80 : decode cX8_counted 80 = .ok (.aload_n 0, 1) := by decide +kernel
theorem dX8_counted_81 : decode cX8_counted 81 = .ok (.getfield 19, 3) := by decide +kernel
theorem dX8_counted_84 : decode cX8_counted 84 = .ok (.getfield 130, 3) := by decide +kernel
theorem dX8_counted_87 : decode cX8_counted 87 = .ok (.iload_n 3, 1) := by decide +kernel
theorem dX8_counted_88 : decode cX8_counted 88 = .ok (.iaload, 1) := by decide +kernel
theorem dX8_counted_89 : decode cX8_counted 89 = .ok (.iload_n 1, 1) := by decide +kernel
theorem dX8_counted_90 : decode cX8_counted 90 = .ok (.if_icmp .eq 5, 3) := by decide +kernel
theorem dX8_counted_93 : decode cX8_counted 93 = .ok (.iconst (-1), 1) := by decide +kernel
theorem dX8_counted_94 : decode cX8_counted 94 = .ok (.ireturn, 1) := by decide +kernel
theorem dX8_counted_95 : decode cX8_counted 95 = .ok (.aload_n 0, 1) := by decide +kernel
theorem dX8_counted_96 : decode cX8_counted 96 = .ok (.getfield 57, 3) := by decide +kernel
theorem dX8_counted_99 : decode cX8_counted 99 = .ok (.aload_n 0, 1) := by decide +kernel
theorem dX8_counted_100 : decode cX8_counted 100 = .ok (.getfield 19, 3) := by decide +kernel
theorem dX8_counted_103 : decode cX8_counted 103 = .ok (.aload_n 0, 1) := by decide +kernel
theorem dX8_counted_104 : decode cX8_counted 104 = .ok (.getfield 19, 3) := by decide +kernel
theorem dX8_counted_107 : decode cX8_counted 107 = .ok (.getfield 153, 3) := by decide +kernel
theorem dX8_counted_110 : decode cX8_counted 110 = .ok (.iload_n 1, 1) := by decide +kernel
theorem dX8_counted_111 : decode cX8_counted 111 = .ok (.iaload, 1) := by decide +kernel
theorem dX8_counted_112 : decode cX8_counted 112 = .ok (.iconst 1, 1) := by decide +kernel
theorem dX8_counted_113 : decode cX8_counted 113 = .ok (.iload_n 3, 1) := by decide +kernel
theorem dX8_counted_114 : decode cX8_counted 114 = .ok (.ishl, 1) := by decide +kernel
theorem dX8_counted_115 : decode cX8_counted 115 = .ok (.iconst (-1), 1) := by decide +kernel
theorem dX8_counted_116 : decode cX8_counted 116 = .ok (.ixor, 1) := by decide +kernel
theorem dX8_counted_117 : decode cX8_counted 117 = .ok (.iand, 1) := by decide +kernel
theorem dX8_counted_118 : decode cX8_counted 118 = .ok (.invokevirtual 228, 3) := by decide +kernel
theorem dX8_counted_121 : decode cX8_counted 121 = .ok (.iload 4, 2) := by decide +kernel
theorem dX8_counted_123 : decode cX8_counted 123 = .ok (.ifCond .ne 19, 3) := by decide +kernel
theorem dX8_counted_126 : decode cX8_counted 126 = .ok (.aload_n 0, 1) := by decide +kernel
theorem dX8_counted_127 : decode cX8_counted 127 = .ok (.getfield 57, 3) := by decide +kernel
theorem dX8_counted_130 : decode cX8_counted 130 = .ok (.aload_n 0, 1) := by decide +kernel
theorem dX8_counted_131 : decode cX8_counted 131 = .ok (.getfield 19, 3) := by decide +kernel
theorem dX8_counted_134 : decode cX8_counted 134 = .ok (.iload_n 3, 1) := by decide +kernel
theorem dX8_counted_135 : decode cX8_counted 135 = .ok (.iload_n 2, 1) := by decide +kernel
theorem dX8_counted_136 : decode cX8_counted 136 = .ok (.invokevirtual 235, 3) := by decide +kernel
theorem dX8_counted_139 : decode cX8_counted 139 = .ok (.goto 16, 3) := by decide +kernel
theorem dX8_counted_142 : decode cX8_counted 142 = .ok (.aload_n 0, 1) := by decide +kernel
theorem dX8_counted_143 : decode cX8_counted 143 = .ok (.getfield 57, 3) := by decide +kernel
theorem dX8_counted_146 : decode cX8_counted 146 = .ok (.aload_n 0, 1) := by decide +kernel
theorem dX8_counted_147 : decode cX8_counted 147 = .ok (.getfield 19, 3) := by decide +kernel
theorem dX8_counted_150 : decode cX8_counted 150 = .ok (.iload_n 3, 1) := by decide +kernel
theorem dX8_counted_151 : decode cX8_counted 151 = .ok (.iload_n 2, 1) := by decide +kernel
theorem dX8_counted_152 : decode cX8_counted 152 = .ok (.invokevirtual 239, 3) := by decide +kernel
theorem dX8_counted_155 : decode cX8_counted 155 = .ok (.ireturn, 1) := by decide +kernel
theorem dX8_lies_0 : decode cX8_lies 0 = .ok (.aload_n 0, 1) := by decide +kernel
theorem dX8_lies_1 : decode cX8_lies 1 = .ok (.getfield 19, 3) := by decide +kernel
theorem dX8_lies_4 : decode cX8_lies 4 = .ok (.iload_n 1, 1) := by decide +kernel
theorem dX8_lies_5 : decode cX8_lies 5 = .ok (.invokevirtual 147, 3) := by decide +kernel
theorem dX8_lies_8 : decode cX8_lies 8 = .ok (.ifCond .ne 6, 3) := by decide +kernel
theorem dX8_lies_11 : decode cX8_lies 11 = .ok (.ldc 129, 2) := by decide +kernel
theorem dX8_lies_13 : decode cX8_lies 13 = .ok (.ireturn, 1) := by decide +kernel
theorem dX8_lies_14 : decode cX8_lies 14 = .ok (.iload_n 2, 1) := by decide +kernel
theorem dX8_lies_15 : decode cX8_lies 15 = .ok (.invokestatic 225, 3) := by decide +kernel
theorem dX8_lies_18 : decode cX8_lies 18 = .ok (.ifCond .eq 12, 3) := by decide +kernel
theorem dX8_lies_21 : decode cX8_lies 21 = .ok (.iload_n 3, 1) := by decide +kernel
theorem dX8_lies_22 : decode cX8_lies 22 = .ok (.ifCond .lt 8, 3) := by decide +kernel
theorem dX8_lies_25 : decode cX8_lies 25 = .ok (.iload_n 3, 1) := by decide +kernel
theorem dX8_lies_26 : decode cX8_lies 26 = .ok (.iconst 2, 1) := by decide +kernel
theorem dX8_lies_27 : decode cX8_lies 27 = .ok (.if_icmp .le 6, 3) := by decide +kernel
theorem dX8_lies_30 : decode cX8_lies 30 = .ok (.ldc 75, 2) := by decide +kernel
theorem dX8_lies_32 : decode cX8_lies 32 = .ok (.ireturn, 1) := by decide +kernel
theorem dX8_lies_33 : decode cX8_lies 33 = .ok (.aload_n 0, 1) := by decide +kernel
theorem dX8_lies_34 : decode cX8_lies 34 = .ok (.getfield 19, 3) := by decide +kernel
theorem dX8_lies_37 : decode cX8_lies 37 = .ok (.getfield 153, 3) := by decide +kernel
theorem dX8_lies_40 : decode cX8_lies 40 = .ok (.iload_n 1, 1) := by decide +kernel
theorem dX8_lies_41 : decode cX8_lies 41 = .ok (.iaload, 1) := by decide +kernel
theorem dX8_lies_42 : decode cX8_lies 42 = .ok (.istore 4, 2) := by decide +kernel
theorem dX8_lies_44 : decode cX8_lies 44 = .ok (.aload_n 0, 1) := by decide +kernel
theorem dX8_lies_45 : decode cX8_lies 45 = .ok (.getfield 29, 3) := by decide +kernel
theorem dX8_lies_48 : decode cX8_lies 48 = .ok (.aload_n 0, 1) := by decide +kernel
theorem dX8_lies_49 : decode cX8_lies 49 = .ok (.getfield 19, 3) := by decide +kernel
theorem dX8_lies_52 : decode cX8_lies 52 = .ok (.iload 4, 2) := by decide +kernel
theorem dX8_lies_54 : decode cX8_lies 54 = .ok (.invokevirtual 242, 3) := by decide +kernel
theorem dX8_lies_57 : decode cX8_lies 57 = .ok (.istore 5, 2) := by decide +kernel
theorem dX8_lies_59 : decode cX8_lies 59 = .ok (.iconst 0, 1) := by decide +kernel
theorem dX8_lies_60 : decode cX8_lies 60 = .ok (.istore 6, 2) := by decide +kernel
theorem dX8_lies_62 : decode cX8_lies 62 = .ok (.iconst (-1), 1) := by decide +kernel
theorem dX8_lies_63 : decode cX8_lies 63 = .ok (.istore 7, 2) := by decide +kernel
theorem dX8_lies_65 : decode cX8_lies 65 = .ok (.iload 4, 2) := by decide +kernel
theorem dX8_lies_67 : decode cX8_lies 67 = .ok (.istore 8, 2) := by decide +kernel
theorem dX8_lies_69 : decode cX8_lies 69 = .ok (.iconst 0, 1) := by decide +kernel
theorem dX8_lies_70 : decode cX8_lies 70 = .ok (.istore 9, 2) := by decide +kernel
theorem dX8_lies_72 : decode cX8_lies 72 = .ok (.iload 9, 2) := by decide +kernel
theorem dX8_lies_74 : decode cX8_lies 74 = .ok (.iload 4, 2) := by decide +kernel
theorem dX8_lies_76 : decode cX8_lies 76 = .ok (.if_icmp .gt 65, 3) := by decide +kernel
theorem dX8_lies_79 : decode cX8_lies 79 = .ok (.iload 9, 2) := by decide +kernel
theorem dX8_lies_81 : decode cX8_lies 81 = .ok (.iload 4, 2) := by decide +kernel
theorem dX8_lies_83 : decode cX8_lies 83 = .ok (.iconst (-1), 1) := by decide +kernel
theorem dX8_lies_84 : decode cX8_lies 84 = .ok (.ixor, 1) := by decide +kernel
theorem dX8_lies_85 : decode cX8_lies 85 = .ok (.iand, 1) := by decide +kernel
theorem dX8_lies_86 : decode cX8_lies 86 = .ok (.ifCond .ne 49, 3) := by decide +kernel
theorem dX8_lies_89 : decode cX8_lies 89 = .ok (.iload 5, 2) := by decide +kernel
theorem dX8_lies_91 : decode cX8_lies 91 = .ok (.iconst 2, 1) := by decide +kernel
theorem dX8_lies_92 : decode cX8_lies 92 = .ok (.aload_n 0, 1) := by decide +kernel
theorem dX8_lies_93 : decode cX8_lies 93 = .ok (.getfield 29, 3) := by decide +kernel
theorem dX8_lies_96 : decode cX8_lies 96 = .ok (.aload_n 0, 1) := by decide +kernel
theorem dX8_lies_97 : decode cX8_lies 97 = .ok (.getfield 19, 3) := by decide +kernel
theorem dX8_lies_100 : decode cX8_lies 100 = .ok (.iload 9, 2) := by decide +kernel
theorem dX8_lies_102 : decode cX8_lies 102 = .ok (.invokevirtual 242, 3) := by decide +kernel
theorem dX8_lies_105 : decode cX8_lies 105 = .ok (.imul, 1) := by decide +kernel
theorem dX8_lies_106 : decode cX8_lies 106 = .ok (.isub, 1) := by decide +kernel
theorem dX8_lies_107 : decode cX8_lies 107 = .ok (.iload_n 2, 1) := by decide +kernel
theorem dX8_lies_108 : decode cX8_lies 108 = .ok (.if_icmp .ne 27, 3) := by decide +kernel
theorem dX8_lies_111 : decode cX8_lies 111 = .ok (.iload 6, 2) := by decide +kernel
theorem dX8_lies_113 : decode cX8_lies 113 = .ok (.ifCond .ne 8, 3) := by decide +kernel
theorem dX8_lies_116 : decode cX8_lies 116 = .ok (.iload 9, 2) := by decide +kernel
theorem dX8_lies_118 : decode cX8_lies 118 = .ok (.goto 5, 3) := by decide +kernel
theorem dX8_lies_121 : decode cX8_lies 121 = .ok (.iload 7, 2) := by decide +kernel
theorem dX8_lies_123 : decode cX8_lies 123 = .ok (.istore 7, 2) := by decide +kernel
theorem dX8_lies_125 : decode cX8_lies 125 = .ok (.iload 8, 2) := by decide +kernel
theorem dX8_lies_127 : decode cX8_lies 127 = .ok (.iload 9, 2) := by decide +kernel
theorem dX8_lies_129 : decode cX8_lies 129 = .ok (.iand, 1) := by decide +kernel
theorem dX8_lies_130 : decode cX8_lies 130 = .ok (.istore 8, 2) := by decide +kernel
theorem dX8_lies_132 : decode cX8_lies 132 = .ok (.iinc 6 1, 3) := by decide +kernel
theorem dX8_lies_135 : decode cX8_lies 135 = .ok (.iinc 9 1, 3) := by decide +kernel
theorem dX8_lies_138 : decode cX8_lies 138 = .ok (.goto (-66), 3) := by decide +kernel
theorem dX8_lies_141 : decode cX8_lies 141 = .ok (.iload_n 3, 1) := by decide +kernel
theorem dX8_lies_142 : decode cX8_lies 142 = .ok (.ifCond .ne 6, 3) := by decide +kernel
theorem dX8_lies_145 : decode cX8_lies 145 = .ok (.iload 6, 2) := by decide +kernel
theorem dX8_lies_147 : decode cX8_lies 147 = .ok (.ireturn, 1) := by decide +kernel
theorem dX8_lies_148 : decode cX8_lies 148 = .ok (.iload_n 3, 1) := by decide +kernel
theorem dX8_lies_149 : decode cX8_lies 149 = .ok (.iconst 1, 1) := by decide +kernel
theorem dX8_lies_150 : decode cX8_lies 150 = .ok (.if_icmp .ne 6, 3) := by decide +kernel
theorem dX8_lies_153 : decode cX8_lies 153 = .ok (.iload 7, 2) := by decide +kernel
theorem dX8_lies_155 : decode cX8_lies 155 = .ok (.ireturn, 1) := by decide +kernel
theorem dX8_lies_156 : decode cX8_lies 156 = .ok (.iload 6, 2) := by decide +kernel
theorem dX8_lies_158 : decode cX8_lies 158 = .ok (.ifCond .ne 7, 3) := by decide +kernel
theorem dX8_lies_161 : decode cX8_lies 161 = .ok (.iconst 0, 1) := by decide +kernel
theorem dX8_lies_162 : decode cX8_lies 162 = .ok (.goto 5, 3) := by decide +kernel
theorem dX8_lies_165 : decode cX8_lies 165 = .ok (.iload 8, 2) := by decide +kernel
theorem dX8_lies_167 : decode cX8_lies 167 = .ok (.ireturn, 1) := by decide +kernel
theorem dX8_canWeigh_0 : decode cX8_canWeigh 0 = .ok (.iload_n 0, 1) := by decide +kernel
theorem dX8_canWeigh_1 : decode cX8_canWeigh 1 = .ok (.sipush (-999), 3) := by decide +kernel
theorem dX8_canWeigh_4 : decode cX8_canWeigh 4 = .ok (.if_icmp .lt 14, 3) := by decide +kernel
theorem dX8_canWeigh_7 : decode cX8_canWeigh 7 = .ok (.iload_n 0, 1) := by decide +kernel
theorem dX8_canWeigh_8 : decode cX8_canWeigh 8 = .ok (.sipush 999, 3) := by decide +kernel
theorem dX8_canWeigh_11 : decode cX8_canWeigh 11 = .ok (.if_icmp .gt 7, 3) := by decide +kernel
theorem dX8_canWeigh_14 : decode cX8_canWeigh 14 = .ok (.iconst 1, 1) := by decide +kernel
theorem dX8_canWeigh_15 : decode cX8_canWeigh 15 = .ok (.goto 4, 3) := by decide +kernel
theorem dX8_canWeigh_18 : decode cX8_canWeigh 18 = .ok (.iconst 0, 1) := by decide +kernel
theorem dX8_canWeigh_19 : decode cX8_canWeigh 19 = .ok (.ireturn, 1) := by decide +kernel
theorem dX8_apart_0 : decode cX8_apart 0 = .ok (.aload_n 0, 1) := by decide +kernel
theorem dX8_apart_1 : decode cX8_apart 1 = .ok (.getfield 19, 3) := by decide +kernel
theorem dX8_apart_4 : decode cX8_apart 4 = .ok (.iload_n 1, 1) := by decide +kernel
theorem dX8_apart_5 : decode cX8_apart 5 = .ok (.invokevirtual 125, 3) := by decide +kernel
theorem dX8_apart_8 : decode cX8_apart 8 = .ok (.ifCond .eq 14, 3) := by decide +kernel
theorem dX8_apart_11 : decode cX8_apart 11 = .ok (.aload_n 0, 1) := by decide +kernel
theorem dX8_apart_12 : decode cX8_apart 12 = .ok (.getfield 19, 3) := by decide +kernel
theorem dX8_apart_15 : decode cX8_apart 15 = .ok (.iload_n 2, 1) := by decide +kernel
theorem dX8_apart_16 : decode cX8_apart 16 = .ok (.invokevirtual 147, 3) := by decide +kernel
theorem dX8_apart_19 : decode cX8_apart 19 = .ok (.ifCond .ne 6, 3) := by decide +kernel
theorem dX8_apart_22 : decode cX8_apart 22 = .ok (.ldc 129, 2) := by decide +kernel
theorem dX8_apart_24 : decode cX8_apart 24 = .ok (.ireturn, 1) := by decide +kernel
theorem dX8_apart_25 : decode cX8_apart 25 = .ok (.iload_n 3, 1) := by decide +kernel
theorem dX8_apart_26 : decode cX8_apart 26 = .ok (.ifCond .lt 8, 3) := by decide +kernel
theorem dX8_apart_29 : decode cX8_apart 29 = .ok (.iload_n 3, 1) := by decide +kernel
theorem dX8_apart_30 : decode cX8_apart 30 = .ok (.iconst 1, 1) := by decide +kernel
theorem dX8_apart_31 : decode cX8_apart 31 = .ok (.if_icmp .le 6, 3) := by decide +kernel
theorem dX8_apart_34 : decode cX8_apart 34 = .ok (.ldc 75, 2) := by decide +kernel
theorem dX8_apart_36 : decode cX8_apart 36 = .ok (.ireturn, 1) := by decide +kernel
theorem dX8_apart_37 : decode cX8_apart 37 = .ok (.aload_n 0, 1) := by decide +kernel
theorem dX8_apart_38 : decode cX8_apart 38 = .ok (.getfield 29, 3) := by decide +kernel
theorem dX8_apart_41 : decode cX8_apart 41 = .ok (.iload_n 2, 1) := by decide +kernel
theorem dX8_apart_42 : decode cX8_apart 42 = .ok (.iload_n 1, 1) := by decide +kernel
theorem dX8_apart_43 : decode cX8_apart 43 = .ok (.invokevirtual 162, 3) := by decide +kernel
theorem dX8_apart_46 : decode cX8_apart 46 = .ok (.ifCond .eq 6, 3) := by decide +kernel
theorem dX8_apart_49 : decode cX8_apart 49 = .ok (.ldc 179, 2) := by decide +kernel
theorem dX8_apart_51 : decode cX8_apart 51 = .ok (.ireturn, 1) := by decide +kernel
theorem dX8_apart_52 : decode cX8_apart 52 = .ok (.aload_n 0, 1) := by decide +kernel
theorem dX8_apart_53 : decode cX8_apart 53 = .ok (.aload_n 0, 1) := by decide +kernel
theorem dX8_apart_54 : decode cX8_apart 54 = .ok (.getfield 29, 3) := by decide +kernel
theorem dX8_apart_57 : decode cX8_apart 57 = .ok (.getfield 140, 3) := by decide +kernel
theorem dX8_apart_60 : decode cX8_apart 60 = .ok (.iload_n 1, 1) := by decide +kernel
theorem dX8_apart_61 : decode cX8_apart 61 = .ok (.iaload, 1) := by decide +kernel
theorem dX8_apart_62 : decode cX8_apart 62 = .ok (.iload_n 2, 1) := by decide +kernel
theorem dX8_apart_63 : decode cX8_apart 63 = .ok (.invokevirtual 245, 3) := by decide +kernel
theorem dX8_apart_66 : decode cX8_apart 66 = .ok (.istore 4, 2) := by decide +kernel
theorem dX8_apart_68 : decode cX8_apart 68 = .ok (.iload_n 3, 1) := by decide +kernel
theorem dX8_apart_69 : decode cX8_apart 69 = .ok (.ifCond .ne 11, 3) := by decide +kernel
theorem dX8_apart_72 : decode cX8_apart 72 = .ok (.iload 4, 2) := by decide +kernel
theorem dX8_apart_74 : decode cX8_apart 74 = .ok (.invokestatic 248, 3) := by decide +kernel
theorem dX8_apart_77 : decode cX8_apart 77 = .ok (.goto 5, 3) := by decide +kernel
theorem dX8_apart_80 : decode cX8_apart 80 = .ok (.iload 4, 2) := by decide +kernel
theorem dX8_apart_82 : decode cX8_apart 82 = .ok (.ireturn, 1) := by decide +kernel
theorem dX8_fewestToBreak_0 : decode cX8_fewestToBreak 0 = .ok (.iconst 1, 1) := by decide +kernel
theorem dX8_fewestToBreak_1 : decode cX8_fewestToBreak 1 = .ok (.aload_n 0, 1) := by decide +kernel
theorem dX8_fewestToBreak_2 : decode cX8_fewestToBreak 2 = .ok (.getfield 19, 3) := by decide +kernel
theorem dX8_fewestToBreak_5 : decode cX8_fewestToBreak 5 = .ok (.getfield 107, 3) := by decide +kernel
theorem dX8_fewestToBreak_8 : decode cX8_fewestToBreak 8 = .ok (.ishl, 1) := by decide +kernel
theorem dX8_fewestToBreak_9 : decode cX8_fewestToBreak 9 = .ok (.iconst 1, 1) := by decide +kernel
theorem dX8_fewestToBreak_10 : decode cX8_fewestToBreak 10 = .ok (.isub, 1) := by decide +kernel
theorem dX8_fewestToBreak_11 : decode cX8_fewestToBreak 11 = .ok (.istore_n 3, 1) := by decide +kernel
theorem dX8_fewestToBreak_12 : decode cX8_fewestToBreak 12 = .ok (.iconst 0, 1) := by decide +kernel
theorem dX8_fewestToBreak_13 : decode cX8_fewestToBreak 13 = .ok (.istore 4, 2) := by decide +kernel
theorem dX8_fewestToBreak_15 : decode cX8_fewestToBreak 15 = .ok (.iload 4, 2) := by decide +kernel
theorem dX8_fewestToBreak_17 : decode cX8_fewestToBreak 17 = .ok (.iconst 1, 1) := by decide +kernel
theorem dX8_fewestToBreak_18 : decode cX8_fewestToBreak 18 = .ok (.aload_n 0, 1) := by decide +kernel
theorem dX8_fewestToBreak_19 : decode cX8_fewestToBreak 19 = .ok (.getfield 19, 3) := by decide +kernel
theorem dX8_fewestToBreak_22 : decode cX8_fewestToBreak 22 = .ok (.getfield 98, 3) := by decide +kernel
theorem dX8_fewestToBreak_25 : decode cX8_fewestToBreak 25 = .ok (.ishl, 1) := by decide +kernel
theorem dX8_fewestToBreak_26 : decode cX8_fewestToBreak 26 = .ok (.if_icmp .ge 69, 3) := by decide +kernel
theorem dX8_fewestToBreak_29 : decode cX8_fewestToBreak 29 = .ok (.iload_n 1, 1) := by decide +kernel
theorem dX8_fewestToBreak_30 : decode cX8_fewestToBreak 30 = .ok (.iload 4, 2) := by decide +kernel
theorem dX8_fewestToBreak_32 : decode cX8_fewestToBreak 32 = .ok (.iconst (-1), 1) := by decide +kernel
theorem dX8_fewestToBreak_33 : decode cX8_fewestToBreak 33 = .ok (.ixor, 1) := by decide +kernel
theorem dX8_fewestToBreak_34 : decode cX8_fewestToBreak 34 = .ok (.iand, 1) := by decide +kernel
theorem dX8_fewestToBreak_35 : decode cX8_fewestToBreak 35 = .ok (.ifCond .ne 54, 3) := by decide +kernel
theorem dX8_fewestToBreak_38 : decode cX8_fewestToBreak 38 = .ok (.iload 4, 2) := by decide +kernel
theorem dX8_fewestToBreak_40 : decode cX8_fewestToBreak 40 = .ok (.iload_n 2, 1) := by decide +kernel
theorem dX8_fewestToBreak_41 : decode cX8_fewestToBreak 41 = .ok (.ishr, 1) := by decide +kernel
theorem dX8_fewestToBreak_42 : decode cX8_fewestToBreak 42 = .ok (.iconst 1, 1) := by decide +kernel
theorem dX8_fewestToBreak_43 : decode cX8_fewestToBreak 43 = .ok (.iand, 1) := by decide +kernel
theorem dX8_fewestToBreak_44 : decode cX8_fewestToBreak 44 = .ok (.ifCond .ne 45, 3) := by decide +kernel
theorem dX8_fewestToBreak_47 : decode cX8_fewestToBreak 47 = .ok (.aload_n 0, 1) := by decide +kernel
theorem dX8_fewestToBreak_48 : decode cX8_fewestToBreak 48 = .ok (.getfield 19, 3) := by decide +kernel
theorem dX8_fewestToBreak_51 : decode cX8_fewestToBreak 51 = .ok (.iload 4, 2) := by decide +kernel
theorem dX8_fewestToBreak_53 : decode cX8_fewestToBreak 53 = .ok (.invokevirtual 253, 3) := by decide +kernel
theorem dX8_fewestToBreak_56 : decode cX8_fewestToBreak 56 = .ok (.istore 5, 2) := by decide +kernel
theorem dX8_fewestToBreak_58 : decode cX8_fewestToBreak 58 = .ok (.iload 5, 2) := by decide +kernel
theorem dX8_fewestToBreak_60 : decode cX8_fewestToBreak 60 = .ok (.invokestatic 248, 3) := by decide +kernel
theorem dX8_fewestToBreak_63 : decode cX8_fewestToBreak 63 = .ok (.iload_n 3, 1) := by decide +kernel
theorem dX8_fewestToBreak_64 : decode cX8_fewestToBreak 64 = .ok (.invokestatic 248, 3) := by decide +kernel
theorem dX8_fewestToBreak_67 : decode cX8_fewestToBreak 67 = .ok (.isub, 1) := by decide +kernel
theorem dX8_fewestToBreak_68 : decode cX8_fewestToBreak 68 = .ok (.istore 6, 2) := by decide +kernel
theorem dX8_fewestToBreak_70 : decode cX8_fewestToBreak 70 = .ok (.iload 6, 2) := by decide +kernel
theorem dX8_fewestToBreak_72 : decode cX8_fewestToBreak 72 = .ok (.ifCond .lt 14, 3) := by decide +kernel
theorem dX8_fewestToBreak_75 : decode cX8_fewestToBreak 75 = .ok (.iload 6, 2) := by decide +kernel
theorem dX8_fewestToBreak_77 : decode cX8_fewestToBreak 77 = .ok (.ifCond .ne 12, 3) := by decide +kernel
theorem dX8_fewestToBreak_80 : decode cX8_fewestToBreak 80 = .ok (.iload 5, 2) := by decide +kernel
theorem dX8_fewestToBreak_82 : decode cX8_fewestToBreak 82 = .ok (.iload_n 3, 1) := by decide +kernel
theorem dX8_fewestToBreak_83 : decode cX8_fewestToBreak 83 = .ok (.if_icmp .ge 6, 3) := by decide +kernel
theorem dX8_fewestToBreak_86 : decode cX8_fewestToBreak 86 = .ok (.iload 5, 2) := by decide +kernel
theorem dX8_fewestToBreak_88 : decode cX8_fewestToBreak 88 = .ok (.istore_n 3, 1) := by decide +kernel
theorem dX8_fewestToBreak_89 : decode cX8_fewestToBreak 89 = .ok (.iinc 4 1, 3) := by decide +kernel
theorem dX8_fewestToBreak_92 : decode cX8_fewestToBreak 92 = .ok (.goto (-77), 3) := by decide +kernel
theorem dX8_fewestToBreak_95 : decode cX8_fewestToBreak 95 = .ok (.iload_n 3, 1) := by decide +kernel
theorem dX8_fewestToBreak_96 : decode cX8_fewestToBreak 96 = .ok (.ireturn, 1) := by decide +kernel
theorem dX8_treaty_0 : decode cX8_treaty 0 = .ok (.aload_n 0, 1) := by decide +kernel
theorem dX8_treaty_1 : decode cX8_treaty 1 = .ok (.getfield 19, 3) := by decide +kernel
theorem dX8_treaty_4 : decode cX8_treaty 4 = .ok (.iload_n 1, 1) := by decide +kernel
theorem dX8_treaty_5 : decode cX8_treaty 5 = .ok (.invokevirtual 147, 3) := by decide +kernel
theorem dX8_treaty_8 : decode cX8_treaty 8 = .ok (.ifCond .eq 19, 3) := by decide +kernel
theorem dX8_treaty_11 : decode cX8_treaty 11 = .ok (.aload_n 0, 1) := by decide +kernel
theorem dX8_treaty_12 : decode cX8_treaty 12 = .ok (.getfield 19, 3) := by decide +kernel
theorem dX8_treaty_15 : decode cX8_treaty 15 = .ok (.iload_n 2, 1) := by decide +kernel
theorem dX8_treaty_16 : decode cX8_treaty 16 = .ok (.invokevirtual 147, 3) := by decide +kernel
theorem dX8_treaty_19 : decode cX8_treaty 19 = .ok (.ifCond .eq 8, 3) := by decide +kernel
theorem dX8_treaty_22 : decode cX8_treaty 22 = .ok (.iload_n 1, 1) := by decide +kernel
theorem dX8_treaty_23 : decode cX8_treaty 23 = .ok (.iload_n 2, 1) := by decide +kernel
theorem dX8_treaty_24 : decode cX8_treaty 24 = .ok (.if_icmp .ne 6, 3) := by decide +kernel
theorem dX8_treaty_27 : decode cX8_treaty 27 = .ok (.ldc 129, 2) := by decide +kernel
theorem dX8_treaty_29 : decode cX8_treaty 29 = .ok (.ireturn, 1) := by decide +kernel
theorem dX8_treaty_30 : decode cX8_treaty 30 = .ok (.iload_n 3, 1) := by decide +kernel
theorem dX8_treaty_31 : decode cX8_treaty 31 = .ok (.ifCond .lt 8, 3) := by decide +kernel
theorem dX8_treaty_34 : decode cX8_treaty 34 = .ok (.iload_n 3, 1) := by decide +kernel
theorem dX8_treaty_35 : decode cX8_treaty 35 = .ok (.iconst 2, 1) := by decide +kernel
theorem dX8_treaty_36 : decode cX8_treaty 36 = .ok (.if_icmp .le 6, 3) := by decide +kernel
theorem dX8_treaty_39 : decode cX8_treaty 39 = .ok (.ldc 75, 2) := by decide +kernel
theorem dX8_treaty_41 : decode cX8_treaty 41 = .ok (.ireturn, 1) := by decide +kernel
theorem dX8_treaty_42 : decode cX8_treaty 42 = .ok (.aload_n 0, 1) := by decide +kernel
theorem dX8_treaty_43 : decode cX8_treaty 43 = .ok (.getfield 71, 3) := by decide +kernel
theorem dX8_treaty_46 : decode cX8_treaty 46 = .ok (.aload_n 0, 1) := by decide +kernel
theorem dX8_treaty_47 : decode cX8_treaty 47 = .ok (.getfield 19, 3) := by decide +kernel
theorem dX8_treaty_50 : decode cX8_treaty 50 = .ok (.aload_n 0, 1) := by decide +kernel
theorem dX8_treaty_51 : decode cX8_treaty 51 = .ok (.iload_n 1, 1) := by decide +kernel
theorem dX8_treaty_52 : decode cX8_treaty 52 = .ok (.iload_n 2, 1) := by decide +kernel
theorem dX8_treaty_53 : decode cX8_treaty 53 = .ok (.invokevirtual 256, 3) := by decide +kernel
theorem dX8_treaty_56 : decode cX8_treaty 56 = .ok (.aload_n 0, 1) := by decide +kernel
theorem dX8_treaty_57 : decode cX8_treaty 57 = .ok (.iload_n 2, 1) := by decide +kernel
theorem dX8_treaty_58 : decode cX8_treaty 58 = .ok (.iload_n 1, 1) := by decide +kernel
theorem dX8_treaty_59 : decode cX8_treaty 59 = .ok (.invokevirtual 256, 3) := by decide +kernel
theorem dX8_treaty_62 : decode cX8_treaty 62 = .ok (.invokevirtual 259, 3) := by decide +kernel
theorem dX8_treaty_65 : decode cX8_treaty 65 = .ok (.istore 4, 2) := by decide +kernel
theorem dX8_treaty_67 : decode cX8_treaty 67 = .ok (.iload_n 3, 1) := by decide +kernel
theorem dX8_treaty_68 : decode cX8_treaty 68 = .ok (.lookupswitch 50 #[(1, 28), (2, 39)], 28) := by decide +kernel
theorem dX8_treaty_96 : decode cX8_treaty 96 = .ok (.aload_n 0, 1) := by decide +kernel
theorem dX8_treaty_97 : decode cX8_treaty 97 = .ok (.getfield 71, 3) := by decide +kernel
theorem dX8_treaty_100 : decode cX8_treaty 100 = .ok (.getfield 262, 3) := by decide +kernel
theorem dX8_treaty_103 : decode cX8_treaty 103 = .ok (.iload 4, 2) := by decide +kernel
theorem dX8_treaty_105 : decode cX8_treaty 105 = .ok (.iaload, 1) := by decide +kernel
theorem dX8_treaty_106 : decode cX8_treaty 106 = .ok (.ireturn, 1) := by decide +kernel
theorem dX8_treaty_107 : decode cX8_treaty 107 = .ok (.aload_n 0, 1) := by decide +kernel
theorem dX8_treaty_108 : decode cX8_treaty 108 = .ok (.getfield 71, 3) := by decide +kernel
theorem dX8_treaty_111 : decode cX8_treaty 111 = .ok (.getfield 265, 3) := by decide +kernel
theorem dX8_treaty_114 : decode cX8_treaty 114 = .ok (.iload 4, 2) := by decide +kernel
theorem dX8_treaty_116 : decode cX8_treaty 116 = .ok (.iaload, 1) := by decide +kernel
theorem dX8_treaty_117 : decode cX8_treaty 117 = .ok (.ireturn, 1) := by decide +kernel
theorem dX8_treaty_118 : decode cX8_treaty 118 = .ok (.iload 4, 2) := by decide +kernel
theorem dX8_treaty_120 : decode cX8_treaty 120 = .ok (.ireturn, 1) := by decide +kernel
theorem dX8_factsToForget_0 : decode cX8_factsToForget 0 = .ok (.aload_n 0, 1) := by decide +kernel
theorem dX8_factsToForget_1 : decode cX8_factsToForget 1 = .ok (.getfield 19, 3) := by decide +kernel
theorem dX8_factsToForget_4 : decode cX8_factsToForget 4 = .ok (.getfield 153, 3) := by decide +kernel
theorem dX8_factsToForget_7 : decode cX8_factsToForget 7 = .ok (.iload_n 2, 1) := by decide +kernel
theorem dX8_factsToForget_8 : decode cX8_factsToForget 8 = .ok (.iaload, 1) := by decide +kernel
theorem dX8_factsToForget_9 : decode cX8_factsToForget 9 = .ok (.aload_n 0, 1) := by decide +kernel
theorem dX8_factsToForget_10 : decode cX8_factsToForget 10 = .ok (.getfield 29, 3) := by decide +kernel
theorem dX8_factsToForget_13 : decode cX8_factsToForget 13 = .ok (.iload_n 1, 1) := by decide +kernel
theorem dX8_factsToForget_14 : decode cX8_factsToForget 14 = .ok (.invokevirtual 156, 3) := by decide +kernel
theorem dX8_factsToForget_17 : decode cX8_factsToForget 17 = .ok (.iand, 1) := by decide +kernel
theorem dX8_factsToForget_18 : decode cX8_factsToForget 18 = .ok (.aload_n 0, 1) := by decide +kernel
theorem dX8_factsToForget_19 : decode cX8_factsToForget 19 = .ok (.getfield 19, 3) := by decide +kernel
theorem dX8_factsToForget_22 : decode cX8_factsToForget 22 = .ok (.getfield 268, 3) := by decide +kernel
theorem dX8_factsToForget_25 : decode cX8_factsToForget 25 = .ok (.iconst (-1), 1) := by decide +kernel
theorem dX8_factsToForget_26 : decode cX8_factsToForget 26 = .ok (.ixor, 1) := by decide +kernel
theorem dX8_factsToForget_27 : decode cX8_factsToForget 27 = .ok (.iand, 1) := by decide +kernel
theorem dX8_factsToForget_28 : decode cX8_factsToForget 28 = .ok (.ireturn, 1) := by decide +kernel
theorem dX8_odds_0 : decode cX8_odds 0 = .ok (.aload_n 0, 1) := by decide +kernel
theorem dX8_odds_1 : decode cX8_odds 1 = .ok (.getfield 19, 3) := by decide +kernel
theorem dX8_odds_4 : decode cX8_odds 4 = .ok (.iload_n 1, 1) := by decide +kernel
theorem dX8_odds_5 : decode cX8_odds 5 = .ok (.invokevirtual 147, 3) := by decide +kernel
theorem dX8_odds_8 : decode cX8_odds 8 = .ok (.ifCond .eq 14, 3) := by decide +kernel
theorem dX8_odds_11 : decode cX8_odds 11 = .ok (.aload_n 0, 1) := by decide +kernel
theorem dX8_odds_12 : decode cX8_odds 12 = .ok (.getfield 19, 3) := by decide +kernel
theorem dX8_odds_15 : decode cX8_odds 15 = .ok (.iload_n 2, 1) := by decide +kernel
theorem dX8_odds_16 : decode cX8_odds 16 = .ok (.invokevirtual 173, 3) := by decide +kernel
theorem dX8_odds_19 : decode cX8_odds 19 = .ok (.ifCond .ne 6, 3) := by decide +kernel
theorem dX8_odds_22 : decode cX8_odds 22 = .ok (.ldc 129, 2) := by decide +kernel
theorem dX8_odds_24 : decode cX8_odds 24 = .ok (.ireturn, 1) := by decide +kernel
theorem dX8_odds_25 : decode cX8_odds 25 = .ok (.iload_n 3, 1) := by decide +kernel
theorem dX8_odds_26 : decode cX8_odds 26 = .ok (.ifCond .lt 9, 3) := by decide +kernel
theorem dX8_odds_29 : decode cX8_odds 29 = .ok (.iload_n 3, 1) := by decide +kernel
theorem dX8_odds_30 : decode cX8_odds 30 = .ok (.bipush 100, 2) := by decide +kernel
theorem dX8_odds_32 : decode cX8_odds 32 = .ok (.if_icmp .le 6, 3) := by decide +kernel
theorem dX8_odds_35 : decode cX8_odds 35 = .ok (.ldc 75, 2) := by decide +kernel
theorem dX8_odds_37 : decode cX8_odds 37 = .ok (.ireturn, 1) := by decide +kernel
theorem dX8_odds_38 : decode cX8_odds 38 = .ok (.aload_n 0, 1) := by decide +kernel
theorem dX8_odds_39 : decode cX8_odds 39 = .ok (.getfield 64, 3) := by decide +kernel
theorem dX8_odds_42 : decode cX8_odds 42 = .ok (.aload_n 0, 1) := by decide +kernel
theorem dX8_odds_43 : decode cX8_odds 43 = .ok (.getfield 19, 3) := by decide +kernel
theorem dX8_odds_46 : decode cX8_odds 46 = .ok (.aload_n 0, 1) := by decide +kernel
theorem dX8_odds_47 : decode cX8_odds 47 = .ok (.getfield 29, 3) := by decide +kernel
theorem dX8_odds_50 : decode cX8_odds 50 = .ok (.iload_n 1, 1) := by decide +kernel
theorem dX8_odds_51 : decode cX8_odds 51 = .ok (.iload_n 3, 1) := by decide +kernel
theorem dX8_odds_52 : decode cX8_odds 52 = .ok (.invokevirtual 271, 3) := by decide +kernel
theorem dX8_odds_55 : decode cX8_odds 55 = .ok (.aload_n 0, 1) := by decide +kernel
theorem dX8_odds_56 : decode cX8_odds 56 = .ok (.getfield 64, 3) := by decide +kernel
theorem dX8_odds_59 : decode cX8_odds 59 = .ok (.aload_n 0, 1) := by decide +kernel
theorem dX8_odds_60 : decode cX8_odds 60 = .ok (.getfield 19, 3) := by decide +kernel
theorem dX8_odds_63 : decode cX8_odds 63 = .ok (.getfield 176, 3) := by decide +kernel
theorem dX8_odds_66 : decode cX8_odds 66 = .ok (.iload_n 2, 1) := by decide +kernel
theorem dX8_odds_67 : decode cX8_odds 67 = .ok (.iaload, 1) := by decide +kernel
theorem dX8_odds_68 : decode cX8_odds 68 = .ok (.invokevirtual 273, 3) := by decide +kernel
theorem dX8_odds_71 : decode cX8_odds 71 = .ok (.ireturn, 1) := by decide +kernel
theorem dX8_write_0 : decode cX8_write 0 = .ok (.aload_n 0, 1) := by decide +kernel
theorem dX8_write_1 : decode cX8_write 1 = .ok (.getfield 19, 3) := by decide +kernel
theorem dX8_write_4 : decode cX8_write 4 = .ok (.iload_n 1, 1) := by decide +kernel
theorem dX8_write_5 : decode cX8_write 5 = .ok (.invokevirtual 147, 3) := by decide +kernel
theorem dX8_write_8 : decode cX8_write 8 = .ok (.ifCond .ne 6, 3) := by decide +kernel
theorem dX8_write_11 : decode cX8_write 11 = .ok (.ldc 129, 2) := by decide +kernel
theorem dX8_write_13 : decode cX8_write 13 = .ok (.ireturn, 1) := by decide +kernel
theorem dX8_write_14 : decode cX8_write 14 = .ok (.iload_n 2, 1) := by decide +kernel
theorem dX8_write_15 : decode cX8_write 15 = .ok (.invokestatic 225, 3) := by decide +kernel
theorem dX8_write_18 : decode cX8_write 18 = .ok (.ifCond .ne 6, 3) := by decide +kernel
theorem dX8_write_21 : decode cX8_write 21 = .ok (.ldc 75, 2) := by decide +kernel
theorem dX8_write_23 : decode cX8_write 23 = .ok (.ireturn, 1) := by decide +kernel
theorem dX8_write_24 : decode cX8_write 24 = .ok (.aload_n 0, 1) := by decide +kernel
theorem dX8_write_25 : decode cX8_write 25 = .ok (.getfield 43, 3) := by decide +kernel
theorem dX8_write_28 : decode cX8_write 28 = .ok (.iload_n 1, 1) := by decide +kernel
theorem dX8_write_29 : decode cX8_write 29 = .ok (.iload_n 2, 1) := by decide +kernel
theorem dX8_write_30 : decode cX8_write 30 = .ok (.invokevirtual 276, 3) := by decide +kernel
theorem dX8_write_33 : decode cX8_write 33 = .ok (.ireturn, 1) := by decide +kernel
theorem dX8_tear_0 : decode cX8_tear 0 = .ok (.aload_n 0, 1) := by decide +kernel
theorem dX8_tear_1 : decode cX8_tear 1 = .ok (.getfield 43, 3) := by decide +kernel
theorem dX8_tear_4 : decode cX8_tear 4 = .ok (.getfield 92, 3) := by decide +kernel
theorem dX8_tear_7 : decode cX8_tear 7 = .ok (.istore_n 1, 1) := by decide +kernel
theorem dX8_tear_8 : decode cX8_tear 8 = .ok (.aload_n 0, 1) := by decide +kernel
theorem dX8_tear_9 : decode cX8_tear 9 = .ok (.getfield 43, 3) := by decide +kernel
theorem dX8_tear_12 : decode cX8_tear 12 = .ok (.iconst 0, 1) := by decide +kernel
theorem dX8_tear_13 : decode cX8_tear 13 = .ok (.putfield 92, 3) := by decide +kernel
theorem dX8_tear_16 : decode cX8_tear 16 = .ok (.iload_n 1, 1) := by decide +kernel
theorem dX8_tear_17 : decode cX8_tear 17 = .ok (.ireturn, 1) := by decide +kernel
theorem dX8_judge_0 : decode cX8_judge 0 = .ok (.aload_n 0, 1) := by decide +kernel
theorem dX8_judge_1 : decode cX8_judge 1 = .ok (.getfield 43, 3) := by decide +kernel
theorem dX8_judge_4 : decode cX8_judge 4 = .ok (.aload_n 0, 1) := by decide +kernel
theorem dX8_judge_5 : decode cX8_judge 5 = .ok (.getfield 19, 3) := by decide +kernel
theorem dX8_judge_8 : decode cX8_judge 8 = .ok (.aload_n 0, 1) := by decide +kernel
theorem dX8_judge_9 : decode cX8_judge 9 = .ok (.getfield 29, 3) := by decide +kernel
theorem dX8_judge_12 : decode cX8_judge 12 = .ok (.invokevirtual 278, 3) := by decide +kernel
theorem dX8_judge_15 : decode cX8_judge 15 = .ok (.ireturn, 1) := by decide +kernel
theorem dX8_seed_0 : decode cX8_seed 0 = .ok (.iload_n 1, 1) := by decide +kernel
theorem dX8_seed_1 : decode cX8_seed 1 = .ok (.ifCond .ge 6, 3) := by decide +kernel
theorem dX8_seed_4 : decode cX8_seed 4 = .ok (.ldc 75, 2) := by decide +kernel
theorem dX8_seed_6 : decode cX8_seed 6 = .ok (.ireturn, 1) := by decide +kernel
theorem dX8_seed_7 : decode cX8_seed 7 = .ok (.aload_n 0, 1) := by decide +kernel
theorem dX8_seed_8 : decode cX8_seed 8 = .ok (.getfield 29, 3) := by decide +kernel
theorem dX8_seed_11 : decode cX8_seed 11 = .ok (.getfield 282, 3) := by decide +kernel
theorem dX8_seed_14 : decode cX8_seed 14 = .ok (.istore_n 2, 1) := by decide +kernel
theorem dX8_seed_15 : decode cX8_seed 15 = .ok (.aload_n 0, 1) := by decide +kernel
theorem dX8_seed_16 : decode cX8_seed 16 = .ok (.getfield 29, 3) := by decide +kernel
theorem dX8_seed_19 : decode cX8_seed 19 = .ok (.iload_n 1, 1) := by decide +kernel
theorem dX8_seed_20 : decode cX8_seed 20 = .ok (.putfield 282, 3) := by decide +kernel
theorem dX8_seed_23 : decode cX8_seed 23 = .ok (.iload_n 2, 1) := by decide +kernel
theorem dX8_seed_24 : decode cX8_seed 24 = .ok (.ireturn, 1) := by decide +kernel
theorem dX8_keep_0 : decode cX8_keep 0 = .ok (.iload_n 1, 1) := by decide +kernel
theorem dX8_keep_1 : decode cX8_keep 1 = .ok (.ifCond .lt 8, 3) := by decide +kernel
theorem dX8_keep_4 : decode cX8_keep 4 = .ok (.iload_n 1, 1) := by decide +kernel
theorem dX8_keep_5 : decode cX8_keep 5 = .ok (.iconst 2, 1) := by decide +kernel
theorem dX8_keep_6 : decode cX8_keep 6 = .ok (.if_icmp .lt 6, 3) := by decide +kernel
theorem dX8_keep_9 : decode cX8_keep 9 = .ok (.ldc 129, 2) := by decide +kernel
theorem dX8_keep_11 : decode cX8_keep 11 = .ok (.ireturn, 1) := by decide +kernel
theorem dX8_keep_12 : decode cX8_keep 12 = .ok (.aload_n 0, 1) := by decide +kernel
theorem dX8_keep_13 : decode cX8_keep 13 = .ok (.getfield 36, 3) := by decide +kernel
theorem dX8_keep_16 : decode cX8_keep 16 = .ok (.iload_n 1, 1) := by decide +kernel
theorem dX8_keep_17 : decode cX8_keep 17 = .ok (.aaload, 1) := by decide +kernel
theorem dX8_keep_18 : decode cX8_keep 18 = .ok (.aload_n 0, 1) := by decide +kernel
theorem dX8_keep_19 : decode cX8_keep 19 = .ok (.getfield 29, 3) := by decide +kernel
theorem dX8_keep_22 : decode cX8_keep 22 = .ok (.invokevirtual 198, 3) := by decide +kernel
theorem dX8_keep_25 : decode cX8_keep 25 = .ok (.aload_n 0, 1) := by decide +kernel
theorem dX8_keep_26 : decode cX8_keep 26 = .ok (.dup, 1) := by decide +kernel
theorem dX8_keep_27 : decode cX8_keep 27 = .ok (.getfield 95, 3) := by decide +kernel
theorem dX8_keep_30 : decode cX8_keep 30 = .ok (.iconst 1, 1) := by decide +kernel
theorem dX8_keep_31 : decode cX8_keep 31 = .ok (.iload_n 1, 1) := by decide +kernel
theorem dX8_keep_32 : decode cX8_keep 32 = .ok (.ishl, 1) := by decide +kernel
theorem dX8_keep_33 : decode cX8_keep 33 = .ok (.ior, 1) := by decide +kernel
theorem dX8_keep_34 : decode cX8_keep 34 = .ok (.putfield 95, 3) := by decide +kernel
theorem dX8_keep_37 : decode cX8_keep 37 = .ok (.iconst 1, 1) := by decide +kernel
theorem dX8_keep_38 : decode cX8_keep 38 = .ok (.ireturn, 1) := by decide +kernel
theorem dX8_goBack_0 : decode cX8_goBack 0 = .ok (.iload_n 1, 1) := by decide +kernel
theorem dX8_goBack_1 : decode cX8_goBack 1 = .ok (.ifCond .lt 8, 3) := by decide +kernel
theorem dX8_goBack_4 : decode cX8_goBack 4 = .ok (.iload_n 1, 1) := by decide +kernel
theorem dX8_goBack_5 : decode cX8_goBack 5 = .ok (.iconst 2, 1) := by decide +kernel
theorem dX8_goBack_6 : decode cX8_goBack 6 = .ok (.if_icmp .lt 6, 3) := by decide +kernel
theorem dX8_goBack_9 : decode cX8_goBack 9 = .ok (.ldc 129, 2) := by decide +kernel
theorem dX8_goBack_11 : decode cX8_goBack 11 = .ok (.ireturn, 1) := by decide +kernel
theorem dX8_goBack_12 : decode cX8_goBack 12 = .ok (.aload_n 0, 1) := by decide +kernel
theorem dX8_goBack_13 : decode cX8_goBack 13 = .ok (.getfield 95, 3) := by decide +kernel
theorem dX8_goBack_16 : decode cX8_goBack 16 = .ok (.iload_n 1, 1) := by decide +kernel
theorem dX8_goBack_17 : decode cX8_goBack 17 = .ok (.ishr, 1) := by decide +kernel
theorem dX8_goBack_18 : decode cX8_goBack 18 = .ok (.iconst 1, 1) := by decide +kernel
theorem dX8_goBack_19 : decode cX8_goBack 19 = .ok (.iand, 1) := by decide +kernel
theorem dX8_goBack_20 : decode cX8_goBack 20 = .ok (.ifCond .ne 6, 3) := by decide +kernel
theorem dX8_goBack_23 : decode cX8_goBack 23 = .ok (.ldc 179, 2) := by decide +kernel
theorem dX8_goBack_25 : decode cX8_goBack 25 = .ok (.ireturn, 1) := by decide +kernel
theorem dX8_goBack_26 : decode cX8_goBack 26 = .ok (.aload_n 0, 1) := by decide +kernel
theorem dX8_goBack_27 : decode cX8_goBack 27 = .ok (.getfield 29, 3) := by decide +kernel
theorem dX8_goBack_30 : decode cX8_goBack 30 = .ok (.aload_n 0, 1) := by decide +kernel
theorem dX8_goBack_31 : decode cX8_goBack 31 = .ok (.getfield 36, 3) := by decide +kernel
theorem dX8_goBack_34 : decode cX8_goBack 34 = .ok (.iload_n 1, 1) := by decide +kernel
theorem dX8_goBack_35 : decode cX8_goBack 35 = .ok (.aaload, 1) := by decide +kernel
theorem dX8_goBack_36 : decode cX8_goBack 36 = .ok (.invokevirtual 198, 3) := by decide +kernel
theorem dX8_goBack_39 : decode cX8_goBack 39 = .ok (.iconst 1, 1) := by decide +kernel
theorem dX8_goBack_40 : decode cX8_goBack 40 = .ok (.ireturn, 1) := by decide +kernel
theorem dX9_init_0 : decode cX9_init 0 = .ok (.aload_n 0, 1) := by decide +kernel
theorem dX9_init_1 : decode cX9_init 1 = .ok (.invokespecial 1, 3) := by decide +kernel
theorem dX9_init_4 : decode cX9_init 4 = .ok (.aload_n 0, 1) := by decide +kernel
theorem dX9_init_5 : decode cX9_init 5 = .ok (.sipush 250, 3) := by decide +kernel
theorem dX9_init_8 : decode cX9_init 8 = .ok (.newarray .int, 2) := by decide +kernel
theorem dX9_init_10 : decode cX9_init 10 = .ok (.putfield 7, 3) := by decide +kernel
theorem dX9_init_13 : decode cX9_init 13 = .ok (.aload_n 0, 1) := by decide +kernel
theorem dX9_init_14 : decode cX9_init 14 = .ok (.iconst (-1), 1) := by decide +kernel
theorem dX9_init_15 : decode cX9_init 15 = .ok (.putfield 13, 3) := by decide +kernel
theorem dX9_init_18 : decode cX9_init 18 = .ok (.aload_n 0, 1) := by decide +kernel
theorem dX9_init_19 : decode cX9_init 19 = .ok (.bipush 32, 2) := by decide +kernel
theorem dX9_init_21 : decode cX9_init 21 = .ok (.newarray .int, 2) := by decide +kernel
theorem dX9_init_23 : decode cX9_init 23 = .ok (.putfield 17, 3) := by decide +kernel
theorem dX9_init_26 : decode cX9_init 26 = .ok (.aload_n 0, 1) := by decide +kernel
theorem dX9_init_27 : decode cX9_init 27 = .ok (.bipush 24, 2) := by decide +kernel
theorem dX9_init_29 : decode cX9_init 29 = .ok (.newarray .int, 2) := by decide +kernel
theorem dX9_init_31 : decode cX9_init 31 = .ok (.putfield 20, 3) := by decide +kernel
theorem dX9_init_34 : decode cX9_init 34 = .ok (.aload_n 0, 1) := by decide +kernel
theorem dX9_init_35 : decode cX9_init 35 = .ok (.iconst 4, 1) := by decide +kernel
theorem dX9_init_36 : decode cX9_init 36 = .ok (.newarray .int, 2) := by decide +kernel
theorem dX9_init_38 : decode cX9_init 38 = .ok (.putfield 23, 3) := by decide +kernel
theorem dX9_init_41 : decode cX9_init 41 = .ok (.aload_n 0, 1) := by decide +kernel
theorem dX9_init_42 : decode cX9_init 42 = .ok (.bipush 32, 2) := by decide +kernel
theorem dX9_init_44 : decode cX9_init 44 = .ok (.newarray .int, 2) := by decide +kernel
theorem dX9_init_46 : decode cX9_init 46 = .ok (.putfield 26, 3) := by decide +kernel
theorem dX9_init_49 : decode cX9_init 49 = .ok (.aload_n 0, 1) := by decide +kernel
theorem dX9_init_50 : decode cX9_init 50 = .ok (.bipush 24, 2) := by decide +kernel
theorem dX9_init_52 : decode cX9_init 52 = .ok (.newarray .int, 2) := by decide +kernel
theorem dX9_init_54 : decode cX9_init 54 = .ok (.putfield 29, 3) := by decide +kernel
theorem dX9_init_57 : decode cX9_init 57 = .ok (.aload_n 0, 1) := by decide +kernel
theorem dX9_init_58 : decode cX9_init 58 = .ok (.iconst 4, 1) := by decide +kernel
theorem dX9_init_59 : decode cX9_init 59 = .ok (.newarray .int, 2) := by decide +kernel
theorem dX9_init_61 : decode cX9_init 61 = .ok (.putfield 32, 3) := by decide +kernel
theorem dX9_init_64 : decode cX9_init 64 = .ok (.aload_n 0, 1) := by decide +kernel
theorem dX9_init_65 : decode cX9_init 65 = .ok (.bipush 58, 2) := by decide +kernel
theorem dX9_init_67 : decode cX9_init 67 = .ok (.newarray .int, 2) := by decide +kernel
theorem dX9_init_69 : decode cX9_init 69 = .ok (.putfield 35, 3) := by decide +kernel
theorem dX9_init_72 : decode cX9_init 72 = .ok (.aload_n 0, 1) := by decide +kernel
theorem dX9_init_73 : decode cX9_init 73 = .ok (.bipush 58, 2) := by decide +kernel
theorem dX9_init_75 : decode cX9_init 75 = .ok (.newarray .int, 2) := by decide +kernel
theorem dX9_init_77 : decode cX9_init 77 = .ok (.putfield 38, 3) := by decide +kernel
theorem dX9_init_80 : decode cX9_init 80 = .ok (.aload_n 0, 1) := by decide +kernel
theorem dX9_init_81 : decode cX9_init 81 = .ok (.bipush 58, 2) := by decide +kernel
theorem dX9_init_83 : decode cX9_init 83 = .ok (.newarray .int, 2) := by decide +kernel
theorem dX9_init_85 : decode cX9_init 85 = .ok (.putfield 41, 3) := by decide +kernel
theorem dX9_init_88 : decode cX9_init 88 = .ok (.aload_n 0, 1) := by decide +kernel
theorem dX9_init_89 : decode cX9_init 89 = .ok (.bipush 116, 2) := by decide +kernel
theorem dX9_init_91 : decode cX9_init 91 = .ok (.newarray .int, 2) := by decide +kernel
theorem dX9_init_93 : decode cX9_init 93 = .ok (.putfield 44, 3) := by decide +kernel
theorem dX9_init_96 : decode cX9_init 96 = .ok (.aload_n 0, 1) := by decide +kernel
theorem dX9_init_97 : decode cX9_init 97 = .ok (.iconst 2, 1) := by decide +kernel
theorem dX9_init_98 : decode cX9_init 98 = .ok (.newarray .boolean, 2) := by decide +kernel
theorem dX9_init_100 : decode cX9_init 100 = .ok (.putfield 47, 3) := by decide +kernel
theorem dX9_init_103 : decode cX9_init 103 = .ok (.aload_n 0, 1) := by decide +kernel
theorem dX9_init_104 : decode cX9_init 104 = .ok (.bipush 30, 2) := by decide +kernel
theorem dX9_init_106 : decode cX9_init 106 = .ok (.newarray .int, 2) := by decide +kernel
theorem dX9_init_108 : decode cX9_init 108 = .ok (.putfield 51, 3) := by decide +kernel
theorem dX9_init_111 : decode cX9_init 111 = .ok (.aload_n 0, 1) := by decide +kernel
theorem dX9_init_112 : decode cX9_init 112 = .ok (.bipush 8, 2) := by decide +kernel
theorem dX9_init_114 : decode cX9_init 114 = .ok (.newarray .int, 2) := by decide +kernel
theorem dX9_init_116 : decode cX9_init 116 = .ok (.putfield 54, 3) := by decide +kernel
theorem dX9_init_119 : decode cX9_init 119 = .ok (.aload_n 0, 1) := by decide +kernel
theorem dX9_init_120 : decode cX9_init 120 = .ok (.sipush 128, 3) := by decide +kernel
theorem dX9_init_123 : decode cX9_init 123 = .ok (.newarray .int, 2) := by decide +kernel
theorem dX9_init_125 : decode cX9_init 125 = .ok (.putfield 57, 3) := by decide +kernel
theorem dX9_init_128 : decode cX9_init 128 = .ok (.aload_n 0, 1) := by decide +kernel
theorem dX9_init_129 : decode cX9_init 129 = .ok (.sipush 1200, 3) := by decide +kernel
theorem dX9_init_132 : decode cX9_init 132 = .ok (.newarray .long, 2) := by decide +kernel
theorem dX9_init_134 : decode cX9_init 134 = .ok (.putfield 60, 3) := by decide +kernel
theorem dX9_init_137 : decode cX9_init 137 = .ok (.aload_n 0, 1) := by decide +kernel
theorem dX9_init_138 : decode cX9_init 138 = .ok (.sipush 1200, 3) := by decide +kernel
theorem dX9_init_141 : decode cX9_init 141 = .ok (.newarray .long, 2) := by decide +kernel
theorem dX9_init_143 : decode cX9_init 143 = .ok (.putfield 64, 3) := by decide +kernel
theorem dX9_init_146 : decode cX9_init 146 = .ok (.aload_n 0, 1) := by decide +kernel
theorem dX9_init_147 : decode cX9_init 147 = .ok (.bipush 7, 2) := by decide +kernel
theorem dX9_init_149 : decode cX9_init 149 = .ok (.newarray .int, 2) := by decide +kernel
theorem dX9_init_151 : decode cX9_init 151 = .ok (.putfield 67, 3) := by decide +kernel
theorem dX9_init_154 : decode cX9_init 154 = .ok (.aload_n 0, 1) := by decide +kernel
theorem dX9_init_155 : decode cX9_init 155 = .ok (.invokevirtual 70, 3) := by decide +kernel
theorem dX9_init_158 : decode cX9_init 158 = .ok (.return_, 1) := by decide +kernel
theorem dX9_in_0 : decode cX9_in 0 = .ok (.iload_n 0, 1) := by decide +kernel
theorem dX9_in_1 : decode cX9_in 1 = .ok (.iload_n 1, 1) := by decide +kernel
theorem dX9_in_2 : decode cX9_in 2 = .ok (.if_icmp .lt 12, 3) := by decide +kernel
theorem dX9_in_5 : decode cX9_in 5 = .ok (.iload_n 0, 1) := by decide +kernel
theorem dX9_in_6 : decode cX9_in 6 = .ok (.iload_n 2, 1) := by decide +kernel
theorem dX9_in_7 : decode cX9_in 7 = .ok (.if_icmp .gt 7, 3) := by decide +kernel
theorem dX9_in_10 : decode cX9_in 10 = .ok (.iconst 1, 1) := by decide +kernel
theorem dX9_in_11 : decode cX9_in 11 = .ok (.goto 4, 3) := by decide +kernel
theorem dX9_in_14 : decode cX9_in 14 = .ok (.iconst 0, 1) := by decide +kernel
theorem dX9_in_15 : decode cX9_in 15 = .ok (.ireturn, 1) := by decide +kernel
theorem dX9_has_0 : decode cX9_has 0 = .ok (.iload_n 0, 1) := by decide +kernel
theorem dX9_has_1 : decode cX9_has 1 = .ok (.iload_n 1, 1) := by decide +kernel
theorem dX9_has_2 : decode cX9_has 2 = .ok (.ishr, 1) := by decide +kernel
theorem dX9_has_3 : decode cX9_has 3 = .ok (.iconst 1, 1) := by decide +kernel
theorem dX9_has_4 : decode cX9_has 4 = .ok (.iand, 1) := by decide +kernel
theorem dX9_has_5 : decode cX9_has 5 = .ok (.iconst 1, 1) := by decide +kernel
theorem dX9_has_6 : decode cX9_has 6 = .ok (.if_icmp .ne 7, 3) := by decide +kernel
theorem dX9_has_9 : decode cX9_has 9 = .ok (.iconst 1, 1) := by decide +kernel
theorem dX9_has_10 : decode cX9_has 10 = .ok (.goto 4, 3) := by decide +kernel
theorem dX9_has_13 : decode cX9_has 13 = .ok (.iconst 0, 1) := by decide +kernel
theorem dX9_has_14 : decode cX9_has 14 = .ok (.ireturn, 1) := by decide +kernel
theorem dX9_begin_0 : decode cX9_begin 0 = .ok (.iconst 0, 1) := by decide +kernel
theorem dX9_begin_1 : decode cX9_begin 1 = .ok (.istore_n 1, 1) := by decide +kernel
theorem dX9_begin_2 : decode cX9_begin 2 = .ok (.iload_n 1, 1) := by decide +kernel
theorem dX9_begin_3 : decode cX9_begin 3 = .ok (.bipush 56, 2) := by decide +kernel
theorem dX9_begin_5 : decode cX9_begin 5 = .ok (.if_icmp .ge 16, 3) := by decide +kernel
theorem dX9_begin_8 : decode cX9_begin 8 = .ok (.aload_n 0, 1) := by decide +kernel
theorem dX9_begin_9 : decode cX9_begin 9 = .ok (.getfield 35, 3) := by decide +kernel
theorem dX9_begin_12 : decode cX9_begin 12 = .ok (.iload_n 1, 1) := by decide +kernel
theorem dX9_begin_13 : decode cX9_begin 13 = .ok (.iconst (-1), 1) := by decide +kernel
theorem dX9_begin_14 : decode cX9_begin 14 = .ok (.iastore, 1) := by decide +kernel
theorem dX9_begin_15 : decode cX9_begin 15 = .ok (.iinc 1 1, 3) := by decide +kernel
theorem dX9_begin_18 : decode cX9_begin 18 = .ok (.goto (-16), 3) := by decide +kernel
theorem dX9_begin_21 : decode cX9_begin 21 = .ok (.aload_n 0, 1) := by decide +kernel
theorem dX9_begin_22 : decode cX9_begin 22 = .ok (.getfield 35, 3) := by decide +kernel
theorem dX9_begin_25 : decode cX9_begin 25 = .ok (.bipush 56, 2) := by decide +kernel
theorem dX9_begin_27 : decode cX9_begin 27 = .ok (.iconst 0, 1) := by decide +kernel
theorem dX9_begin_28 : decode cX9_begin 28 = .ok (.iastore, 1) := by decide +kernel
theorem dX9_begin_29 : decode cX9_begin 29 = .ok (.aload_n 0, 1) := by decide +kernel
theorem dX9_begin_30 : decode cX9_begin 30 = .ok (.getfield 47, 3) := by decide +kernel
theorem dX9_begin_33 : decode cX9_begin 33 = .ok (.iconst 0, 1) := by decide +kernel
theorem dX9_begin_34 : decode cX9_begin 34 = .ok (.iconst 0, 1) := by decide +kernel
theorem dX9_begin_35 : decode cX9_begin 35 = .ok (.bastore, 1) := by decide +kernel
theorem dX9_begin_36 : decode cX9_begin 36 = .ok (.aload_n 0, 1) := by decide +kernel
theorem dX9_begin_37 : decode cX9_begin 37 = .ok (.getfield 47, 3) := by decide +kernel
theorem dX9_begin_40 : decode cX9_begin 40 = .ok (.iconst 1, 1) := by decide +kernel
theorem dX9_begin_41 : decode cX9_begin 41 = .ok (.iconst 0, 1) := by decide +kernel
theorem dX9_begin_42 : decode cX9_begin 42 = .ok (.bastore, 1) := by decide +kernel
theorem dX9_begin_43 : decode cX9_begin 43 = .ok (.aload_n 0, 1) := by decide +kernel
theorem dX9_begin_44 : decode cX9_begin 44 = .ok (.iconst 0, 1) := by decide +kernel
theorem dX9_begin_45 : decode cX9_begin 45 = .ok (.putfield 73, 3) := by decide +kernel
theorem dX9_begin_48 : decode cX9_begin 48 = .ok (.return_, 1) := by decide +kernel
theorem dX9_isOne_0 : decode cX9_isOne 0 = .ok (.iload_n 1, 1) := by decide +kernel
theorem dX9_isOne_1 : decode cX9_isOne 1 = .ok (.iconst 0, 1) := by decide +kernel
theorem dX9_isOne_2 : decode cX9_isOne 2 = .ok (.aload_n 0, 1) := by decide +kernel
theorem dX9_isOne_3 : decode cX9_isOne 3 = .ok (.getfield 76, 3) := by decide +kernel
theorem dX9_isOne_6 : decode cX9_isOne 6 = .ok (.iconst 1, 1) := by decide +kernel
theorem dX9_isOne_7 : decode cX9_isOne 7 = .ok (.isub, 1) := by decide +kernel
theorem dX9_isOne_8 : decode cX9_isOne 8 = .ok (.invokestatic 79, 3) := by decide +kernel
theorem dX9_isOne_11 : decode cX9_isOne 11 = .ok (.ireturn, 1) := by decide +kernel
theorem dX9_isFact_0 : decode cX9_isFact 0 = .ok (.iload_n 1, 1) := by decide +kernel
theorem dX9_isFact_1 : decode cX9_isFact 1 = .ok (.iconst 0, 1) := by decide +kernel
theorem dX9_isFact_2 : decode cX9_isFact 2 = .ok (.aload_n 0, 1) := by decide +kernel
theorem dX9_isFact_3 : decode cX9_isFact 3 = .ok (.getfield 83, 3) := by decide +kernel
theorem dX9_isFact_6 : decode cX9_isFact 6 = .ok (.iconst 1, 1) := by decide +kernel
theorem dX9_isFact_7 : decode cX9_isFact 7 = .ok (.isub, 1) := by decide +kernel
theorem dX9_isFact_8 : decode cX9_isFact 8 = .ok (.invokestatic 79, 3) := by decide +kernel
theorem dX9_isFact_11 : decode cX9_isFact 11 = .ok (.ireturn, 1) := by decide +kernel
theorem dX9_isBridge_0 : decode cX9_isBridge 0 = .ok (.iload_n 1, 1) := by decide +kernel
theorem dX9_isBridge_1 : decode cX9_isBridge 1 = .ok (.iconst 0, 1) := by decide +kernel
theorem dX9_isBridge_2 : decode cX9_isBridge 2 = .ok (.aload_n 0, 1) := by decide +kernel
theorem dX9_isBridge_3 : decode cX9_isBridge 3 = .ok (.getfield 86, 3) := by decide +kernel
theorem dX9_isBridge_6 : decode cX9_isBridge 6 = .ok (.iconst 1, 1) := by decide +kernel
theorem dX9_isBridge_7 : decode cX9_isBridge 7 = .ok (.isub, 1) := by decide +kernel
theorem dX9_isBridge_8 : decode cX9_isBridge 8 = .ok (.invokestatic 79, 3) := by decide +kernel
theorem dX9_isBridge_11 : decode cX9_isBridge 11 = .ok (.ireturn, 1) := by decide +kernel
theorem dX9_isSet_0 : decode cX9_isSet 0 = .ok (.iload_n 1, 1) := by decide +kernel
theorem dX9_isSet_1 : decode cX9_isSet 1 = .ok (.iconst 0, 1) := by decide +kernel
theorem dX9_isSet_2 : decode cX9_isSet 2 = .ok (.iconst 1, 1) := by decide +kernel
theorem dX9_isSet_3 : decode cX9_isSet 3 = .ok (.aload_n 0, 1) := by decide +kernel
theorem dX9_isSet_4 : decode cX9_isSet 4 = .ok (.getfield 76, 3) := by decide +kernel
theorem dX9_isSet_7 : decode cX9_isSet 7 = .ok (.ishl, 1) := by decide +kernel
theorem dX9_isSet_8 : decode cX9_isSet 8 = .ok (.iconst 1, 1) := by decide +kernel
theorem dX9_isSet_9 : decode cX9_isSet 9 = .ok (.isub, 1) := by decide +kernel
theorem dX9_isSet_10 : decode cX9_isSet 10 = .ok (.invokestatic 79, 3) := by decide +kernel
theorem dX9_isSet_13 : decode cX9_isSet 13 = .ok (.ireturn, 1) := by decide +kernel
theorem dX9_feed_0 : decode cX9_feed 0 = .ok (.iload_n 1, 1) := by decide +kernel
theorem dX9_feed_1 : decode cX9_feed 1 = .ok (.iconst 0, 1) := by decide +kernel
theorem dX9_feed_2 : decode cX9_feed 2 = .ok (.sipush 255, 3) := by decide +kernel
theorem dX9_feed_5 : decode cX9_feed 5 = .ok (.invokestatic 79, 3) := by decide +kernel
theorem dX9_feed_8 : decode cX9_feed 8 = .ok (.ifCond .ne 6, 3) := by decide +kernel
theorem dX9_feed_11 : decode cX9_feed 11 = .ok (.ldc 89, 2) := by decide +kernel
theorem dX9_feed_13 : decode cX9_feed 13 = .ok (.ireturn, 1) := by decide +kernel
theorem dX9_feed_14 : decode cX9_feed 14 = .ok (.aload_n 0, 1) := by decide +kernel
theorem dX9_feed_15 : decode cX9_feed 15 = .ok (.getfield 90, 3) := by decide +kernel
theorem dX9_feed_18 : decode cX9_feed 18 = .ok (.sipush 250, 3) := by decide +kernel
theorem dX9_feed_21 : decode cX9_feed 21 = .ok (.if_icmp .ne 6, 3) := by decide +kernel
theorem dX9_feed_24 : decode cX9_feed 24 = .ok (.ldc 93, 2) := by decide +kernel
theorem dX9_feed_26 : decode cX9_feed 26 = .ok (.ireturn, 1) := by decide +kernel
theorem dX9_feed_27 : decode cX9_feed 27 = .ok (.aload_n 0, 1) := by decide +kernel
theorem dX9_feed_28 : decode cX9_feed 28 = .ok (.getfield 7, 3) := by decide +kernel
theorem dX9_feed_31 : decode cX9_feed 31 = .ok (.aload_n 0, 1) := by decide +kernel
theorem dX9_feed_32 : decode cX9_feed 32 = .ok (.getfield 90, 3) := by decide +kernel
theorem dX9_feed_35 : decode cX9_feed 35 = .ok (.iload_n 1, 1) := by decide +kernel
theorem dX9_feed_36 : decode cX9_feed 36 = .ok (.iastore, 1) := by decide +kernel
theorem dX9_feed_37 : decode cX9_feed 37 = .ok (.aload_n 0, 1) := by decide +kernel
theorem dX9_feed_38 : decode cX9_feed 38 = .ok (.dup, 1) := by decide +kernel
theorem dX9_feed_39 : decode cX9_feed 39 = .ok (.getfield 90, 3) := by decide +kernel
theorem dX9_feed_42 : decode cX9_feed 42 = .ok (.iconst 1, 1) := by decide +kernel
theorem dX9_feed_43 : decode cX9_feed 43 = .ok (.iadd, 1) := by decide +kernel
theorem dX9_feed_44 : decode cX9_feed 44 = .ok (.putfield 90, 3) := by decide +kernel
theorem dX9_feed_47 : decode cX9_feed 47 = .ok (.aload_n 0, 1) := by decide +kernel
theorem dX9_feed_48 : decode cX9_feed 48 = .ok (.getfield 90, 3) := by decide +kernel
theorem dX9_feed_51 : decode cX9_feed 51 = .ok (.ireturn, 1) := by decide +kernel
theorem dX9_nextToken_0 : decode cX9_nextToken 0 = .ok (.aload_n 0, 1) := by decide +kernel
theorem dX9_nextToken_1 : decode cX9_nextToken 1 = .ok (.getfield 94, 3) := by decide +kernel
theorem dX9_nextToken_4 : decode cX9_nextToken 4 = .ok (.aload_n 0, 1) := by decide +kernel
theorem dX9_nextToken_5 : decode cX9_nextToken 5 = .ok (.getfield 90, 3) := by decide +kernel
theorem dX9_nextToken_8 : decode cX9_nextToken 8 = .ok (.if_icmp .ge 30, 3) := by decide +kernel
theorem dX9_nextToken_11 : decode cX9_nextToken 11 = .ok (.aload_n 0, 1) := by decide +kernel
theorem dX9_nextToken_12 : decode cX9_nextToken 12 = .ok (.getfield 7, 3) := by decide +kernel
theorem dX9_nextToken_15 : decode cX9_nextToken 15 = .ok (.aload_n 0, 1) := by decide +kernel
theorem dX9_nextToken_16 : decode cX9_nextToken 16 = .ok (.getfield 94, 3) := by decide +kernel
theorem dX9_nextToken_19 : decode cX9_nextToken 19 = .ok (.iaload, 1) := by decide +kernel
theorem dX9_nextToken_20 : decode cX9_nextToken 20 = .ok (.bipush 32, 2) := by decide +kernel
theorem dX9_nextToken_22 : decode cX9_nextToken 22 = .ok (.if_icmp .ne 16, 3) := by decide +kernel
theorem dX9_nextToken_25 : decode cX9_nextToken 25 = .ok (.aload_n 0, 1) := by decide +kernel
theorem dX9_nextToken_26 : decode cX9_nextToken 26 = .ok (.dup, 1) := by decide +kernel
theorem dX9_nextToken_27 : decode cX9_nextToken 27 = .ok (.getfield 94, 3) := by decide +kernel
theorem dX9_nextToken_30 : decode cX9_nextToken 30 = .ok (.iconst 1, 1) := by decide +kernel
theorem dX9_nextToken_31 : decode cX9_nextToken 31 = .ok (.iadd, 1) := by decide +kernel
theorem dX9_nextToken_32 : decode cX9_nextToken 32 = .ok (.putfield 94, 3) := by decide +kernel
theorem dX9_nextToken_35 : decode cX9_nextToken 35 = .ok (.goto (-35), 3) := by decide +kernel
theorem dX9_nextToken_38 : decode cX9_nextToken 38 = .ok (.aload_n 0, 1) := by decide +kernel
theorem dX9_nextToken_39 : decode cX9_nextToken 39 = .ok (.aload_n 0, 1) := by decide +kernel
theorem dX9_nextToken_40 : decode cX9_nextToken 40 = .ok (.getfield 94, 3) := by decide +kernel
theorem dX9_nextToken_43 : decode cX9_nextToken 43 = .ok (.putfield 97, 3) := by decide +kernel
theorem dX9_nextToken_46 : decode cX9_nextToken 46 = .ok (.aload_n 0, 1) := by decide +kernel
theorem dX9_nextToken_47 : decode cX9_nextToken 47 = .ok (.iconst 0, 1) := by decide +kernel
theorem dX9_nextToken_48 : decode cX9_nextToken 48 = .ok (.putfield 100, 3) := by decide +kernel
theorem dX9_nextToken_51 : decode cX9_nextToken 51 = .ok (.aload_n 0, 1) := by decide +kernel
theorem dX9_nextToken_52 : decode cX9_nextToken 52 = .ok (.getfield 94, 3) := by decide +kernel
theorem dX9_nextToken_55 : decode cX9_nextToken 55 = .ok (.aload_n 0, 1) := by decide +kernel
theorem dX9_nextToken_56 : decode cX9_nextToken 56 = .ok (.getfield 90, 3) := by decide +kernel
theorem dX9_nextToken_59 : decode cX9_nextToken 59 = .ok (.if_icmp .ne 12, 3) := by decide +kernel
theorem dX9_nextToken_62 : decode cX9_nextToken 62 = .ok (.aload_n 0, 1) := by decide +kernel
theorem dX9_nextToken_63 : decode cX9_nextToken 63 = .ok (.bipush (-2), 2) := by decide +kernel
theorem dX9_nextToken_65 : decode cX9_nextToken 65 = .ok (.putfield 103, 3) := by decide +kernel
theorem dX9_nextToken_68 : decode cX9_nextToken 68 = .ok (.goto 158, 3) := by decide +kernel
theorem dX9_nextToken_71 : decode cX9_nextToken 71 = .ok (.aload_n 0, 1) := by decide +kernel
theorem dX9_nextToken_72 : decode cX9_nextToken 72 = .ok (.getfield 7, 3) := by decide +kernel
theorem dX9_nextToken_75 : decode cX9_nextToken 75 = .ok (.aload_n 0, 1) := by decide +kernel
theorem dX9_nextToken_76 : decode cX9_nextToken 76 = .ok (.getfield 94, 3) := by decide +kernel
theorem dX9_nextToken_79 : decode cX9_nextToken 79 = .ok (.iaload, 1) := by decide +kernel
theorem dX9_nextToken_80 : decode cX9_nextToken 80 = .ok (.bipush 48, 2) := by decide +kernel
theorem dX9_nextToken_82 : decode cX9_nextToken 82 = .ok (.bipush 57, 2) := by decide +kernel
theorem dX9_nextToken_84 : decode cX9_nextToken 84 = .ok (.invokestatic 79, 3) := by decide +kernel
theorem dX9_nextToken_87 : decode cX9_nextToken 87 = .ok (.ifCond .eq 116, 3) := by decide +kernel
theorem dX9_nextToken_90 : decode cX9_nextToken 90 = .ok (.aload_n 0, 1) := by decide +kernel
theorem dX9_nextToken_91 : decode cX9_nextToken 91 = .ok (.getfield 94, 3) := by decide +kernel
theorem dX9_nextToken_94 : decode cX9_nextToken 94 = .ok (.aload_n 0, 1) := by decide +kernel
theorem dX9_nextToken_95 : decode cX9_nextToken 95 = .ok (.getfield 90, 3) := by decide +kernel
theorem dX9_nextToken_98 : decode cX9_nextToken 98 = .ok (.if_icmp .ge 79, 3) := by decide +kernel
theorem dX9_nextToken_101 : decode cX9_nextToken 101 = .ok (.aload_n 0, 1) := by decide +kernel
theorem dX9_nextToken_102 : decode cX9_nextToken 102 = .ok (.getfield 7, 3) := by decide +kernel
theorem dX9_nextToken_105 : decode cX9_nextToken 105 = .ok (.aload_n 0, 1) := by decide +kernel
theorem dX9_nextToken_106 : decode cX9_nextToken 106 = .ok (.getfield 94, 3) := by decide +kernel
theorem dX9_nextToken_109 : decode cX9_nextToken 109 = .ok (.iaload, 1) := by decide +kernel
theorem dX9_nextToken_110 : decode cX9_nextToken 110 = .ok (.bipush 48, 2) := by decide +kernel
theorem dX9_nextToken_112 : decode cX9_nextToken 112 = .ok (.bipush 57, 2) := by decide +kernel
theorem dX9_nextToken_114 : decode cX9_nextToken 114 = .ok (.invokestatic 79, 3) := by decide +kernel
theorem dX9_nextToken_117 : decode cX9_nextToken 117 = .ok (.ifCond .eq 60, 3) := by decide +kernel
theorem dX9_nextToken_120 : decode cX9_nextToken 120 = .ok (.aload_n 0, 1) := by decide +kernel
theorem dX9_nextToken_121 : decode cX9_nextToken 121 = .ok (.aload_n 0, 1) := by decide +kernel
theorem dX9_nextToken_122 : decode cX9_nextToken 122 = .ok (.getfield 94, 3) := by decide +kernel
theorem dX9_nextToken_125 : decode cX9_nextToken 125 = .ok (.aload_n 0, 1) := by decide +kernel
theorem dX9_nextToken_126 : decode cX9_nextToken 126 = .ok (.getfield 97, 3) := by decide +kernel
theorem dX9_nextToken_129 : decode cX9_nextToken 129 = .ok (.isub, 1) := by decide +kernel
theorem dX9_nextToken_130 : decode cX9_nextToken 130 = .ok (.iconst 3, 1) := by decide +kernel
theorem dX9_nextToken_131 : decode cX9_nextToken 131 = .ok (.if_icmp .ge 26, 3) := by decide +kernel
theorem dX9_nextToken_134 : decode cX9_nextToken 134 = .ok (.bipush 10, 2) := by decide +kernel
theorem dX9_nextToken_136 : decode cX9_nextToken 136 = .ok (.aload_n 0, 1) := by decide +kernel
theorem dX9_nextToken_137 : decode cX9_nextToken 137 = .ok (.getfield 100, 3) := by decide +kernel
theorem dX9_nextToken_140 : decode cX9_nextToken 140 = .ok (.imul, 1) := by decide +kernel
theorem dX9_nextToken_141 : decode cX9_nextToken 141 = .ok (.aload_n 0, 1) := by decide +kernel
theorem dX9_nextToken_142 : decode cX9_nextToken 142 = .ok (.getfield 7, 3) := by decide +kernel
theorem dX9_nextToken_145 : decode cX9_nextToken 145 = .ok (.aload_n 0, 1) := by decide +kernel
theorem dX9_nextToken_146 : decode cX9_nextToken 146 = .ok (.getfield 94, 3) := by decide +kernel
theorem dX9_nextToken_149 : decode cX9_nextToken 149 = .ok (.iaload, 1) := by decide +kernel
theorem dX9_nextToken_150 : decode cX9_nextToken 150 = .ok (.iadd, 1) := by decide +kernel
theorem dX9_nextToken_151 : decode cX9_nextToken 151 = .ok (.bipush 48, 2) := by decide +kernel
theorem dX9_nextToken_153 : decode cX9_nextToken 153 = .ok (.isub, 1) := by decide +kernel
theorem dX9_nextToken_154 : decode cX9_nextToken 154 = .ok (.goto 7, 3) := by decide +kernel
theorem dX9_nextToken_157 : decode cX9_nextToken 157 = .ok (.aload_n 0, 1) := by decide +kernel
theorem dX9_nextToken_158 : decode cX9_nextToken 158 = .ok (.getfield 100, 3) := by decide +kernel
theorem dX9_nextToken_161 : decode cX9_nextToken 161 = .ok (.putfield 100, 3) := by decide +kernel
theorem dX9_nextToken_164 : decode cX9_nextToken 164 = .ok (.aload_n 0, 1) := by decide +kernel
theorem dX9_nextToken_165 : decode cX9_nextToken 165 = .ok (.dup, 1) := by decide +kernel
theorem dX9_nextToken_166 : decode cX9_nextToken 166 = .ok (.getfield 94, 3) := by decide +kernel
theorem dX9_nextToken_169 : decode cX9_nextToken 169 = .ok (.iconst 1, 1) := by decide +kernel
theorem dX9_nextToken_170 : decode cX9_nextToken 170 = .ok (.iadd, 1) := by decide +kernel
theorem dX9_nextToken_171 : decode cX9_nextToken 171 = .ok (.putfield 94, 3) := by decide +kernel
theorem dX9_nextToken_174 : decode cX9_nextToken 174 = .ok (.goto (-84), 3) := by decide +kernel
theorem dX9_nextToken_177 : decode cX9_nextToken 177 = .ok (.aload_n 0, 1) := by decide +kernel
theorem dX9_nextToken_178 : decode cX9_nextToken 178 = .ok (.aload_n 0, 1) := by decide +kernel
theorem dX9_nextToken_179 : decode cX9_nextToken 179 = .ok (.getfield 94, 3) := by decide +kernel
theorem dX9_nextToken_182 : decode cX9_nextToken 182 = .ok (.aload_n 0, 1) := by decide +kernel
theorem dX9_nextToken_183 : decode cX9_nextToken 183 = .ok (.getfield 97, 3) := by decide +kernel
theorem dX9_nextToken_186 : decode cX9_nextToken 186 = .ok (.isub, 1) := by decide +kernel
theorem dX9_nextToken_187 : decode cX9_nextToken 187 = .ok (.iconst 3, 1) := by decide +kernel
theorem dX9_nextToken_188 : decode cX9_nextToken 188 = .ok (.if_icmp .le 8, 3) := by decide +kernel
theorem dX9_nextToken_191 : decode cX9_nextToken 191 = .ok (.bipush (-3), 2) := by decide +kernel
theorem dX9_nextToken_193 : decode cX9_nextToken 193 = .ok (.goto 4, 3) := by decide +kernel
theorem dX9_nextToken_196 : decode cX9_nextToken 196 = .ok (.iconst (-1), 1) := by decide +kernel
theorem dX9_nextToken_197 : decode cX9_nextToken 197 = .ok (.putfield 103, 3) := by decide +kernel
theorem dX9_nextToken_200 : decode cX9_nextToken 200 = .ok (.goto 26, 3) := by decide +kernel
theorem dX9_nextToken_203 : decode cX9_nextToken 203 = .ok (.aload_n 0, 1) := by decide +kernel
theorem dX9_nextToken_204 : decode cX9_nextToken 204 = .ok (.aload_n 0, 1) := by decide +kernel
theorem dX9_nextToken_205 : decode cX9_nextToken 205 = .ok (.getfield 7, 3) := by decide +kernel
theorem dX9_nextToken_208 : decode cX9_nextToken 208 = .ok (.aload_n 0, 1) := by decide +kernel
theorem dX9_nextToken_209 : decode cX9_nextToken 209 = .ok (.getfield 94, 3) := by decide +kernel
theorem dX9_nextToken_212 : decode cX9_nextToken 212 = .ok (.iaload, 1) := by decide +kernel
theorem dX9_nextToken_213 : decode cX9_nextToken 213 = .ok (.putfield 103, 3) := by decide +kernel
theorem dX9_nextToken_216 : decode cX9_nextToken 216 = .ok (.aload_n 0, 1) := by decide +kernel
theorem dX9_nextToken_217 : decode cX9_nextToken 217 = .ok (.dup, 1) := by decide +kernel
theorem dX9_nextToken_218 : decode cX9_nextToken 218 = .ok (.getfield 94, 3) := by decide +kernel
theorem dX9_nextToken_221 : decode cX9_nextToken 221 = .ok (.iconst 1, 1) := by decide +kernel
theorem dX9_nextToken_222 : decode cX9_nextToken 222 = .ok (.iadd, 1) := by decide +kernel
theorem dX9_nextToken_223 : decode cX9_nextToken 223 = .ok (.putfield 94, 3) := by decide +kernel
theorem dX9_nextToken_226 : decode cX9_nextToken 226 = .ok (.return_, 1) := by decide +kernel
theorem dX9_fails_0 : decode cX9_fails 0 = .ok (.aload_n 0, 1) := by decide +kernel
theorem dX9_fails_1 : decode cX9_fails 1 = .ok (.iload_n 1, 1) := by decide +kernel
theorem dX9_fails_2 : decode cX9_fails 2 = .ok (.putfield 106, 3) := by decide +kernel
theorem dX9_fails_5 : decode cX9_fails 5 = .ok (.aload_n 0, 1) := by decide +kernel
theorem dX9_fails_6 : decode cX9_fails 6 = .ok (.aload_n 0, 1) := by decide +kernel
theorem dX9_fails_7 : decode cX9_fails 7 = .ok (.getfield 97, 3) := by decide +kernel
theorem dX9_fails_10 : decode cX9_fails 10 = .ok (.putfield 13, 3) := by decide +kernel
theorem dX9_fails_13 : decode cX9_fails 13 = .ok (.iconst 0, 1) := by decide +kernel
theorem dX9_fails_14 : decode cX9_fails 14 = .ok (.ireturn, 1) := by decide +kernel
theorem dX9_isNumber_0 : decode cX9_isNumber 0 = .ok (.aload_n 0, 1) := by decide +kernel
theorem dX9_isNumber_1 : decode cX9_isNumber 1 = .ok (.invokevirtual 109, 3) := by decide +kernel
theorem dX9_isNumber_4 : decode cX9_isNumber 4 = .ok (.aload_n 0, 1) := by decide +kernel
theorem dX9_isNumber_5 : decode cX9_isNumber 5 = .ok (.getfield 103, 3) := by decide +kernel
theorem dX9_isNumber_8 : decode cX9_isNumber 8 = .ok (.iconst (-1), 1) := by decide +kernel
theorem dX9_isNumber_9 : decode cX9_isNumber 9 = .ok (.if_icmp .eq 18, 3) := by decide +kernel
theorem dX9_isNumber_12 : decode cX9_isNumber 12 = .ok (.aload_n 0, 1) := by decide +kernel
theorem dX9_isNumber_13 : decode cX9_isNumber 13 = .ok (.getfield 103, 3) := by decide +kernel
theorem dX9_isNumber_16 : decode cX9_isNumber 16 = .ok (.bipush (-3), 2) := by decide +kernel
theorem dX9_isNumber_18 : decode cX9_isNumber 18 = .ok (.if_icmp .eq 9, 3) := by decide +kernel
theorem dX9_isNumber_21 : decode cX9_isNumber 21 = .ok (.aload_n 0, 1) := by decide +kernel
theorem dX9_isNumber_22 : decode cX9_isNumber 22 = .ok (.iconst 1, 1) := by decide +kernel
theorem dX9_isNumber_23 : decode cX9_isNumber 23 = .ok (.invokevirtual 112, 3) := by decide +kernel
theorem dX9_isNumber_26 : decode cX9_isNumber 26 = .ok (.ireturn, 1) := by decide +kernel
theorem dX9_isNumber_27 : decode cX9_isNumber 27 = .ok (.aload_n 0, 1) := by decide +kernel
theorem dX9_isNumber_28 : decode cX9_isNumber 28 = .ok (.getfield 103, 3) := by decide +kernel
theorem dX9_isNumber_31 : decode cX9_isNumber 31 = .ok (.iconst (-1), 1) := by decide +kernel
theorem dX9_isNumber_32 : decode cX9_isNumber 32 = .ok (.if_icmp .ne 15, 3) := by decide +kernel
theorem dX9_isNumber_35 : decode cX9_isNumber 35 = .ok (.aload_n 0, 1) := by decide +kernel
theorem dX9_isNumber_36 : decode cX9_isNumber 36 = .ok (.getfield 100, 3) := by decide +kernel
theorem dX9_isNumber_39 : decode cX9_isNumber 39 = .ok (.iload_n 1, 1) := by decide +kernel
theorem dX9_isNumber_40 : decode cX9_isNumber 40 = .ok (.iload_n 2, 1) := by decide +kernel
theorem dX9_isNumber_41 : decode cX9_isNumber 41 = .ok (.invokestatic 79, 3) := by decide +kernel
theorem dX9_isNumber_44 : decode cX9_isNumber 44 = .ok (.ifCond .ne 11, 3) := by decide +kernel
theorem dX9_isNumber_47 : decode cX9_isNumber 47 = .ok (.aload_n 0, 1) := by decide +kernel
theorem dX9_isNumber_48 : decode cX9_isNumber 48 = .ok (.iconst 2, 1) := by decide +kernel
theorem dX9_isNumber_49 : decode cX9_isNumber 49 = .ok (.invokevirtual 112, 3) := by decide +kernel
theorem dX9_isNumber_52 : decode cX9_isNumber 52 = .ok (.ifCond .eq 7, 3) := by decide +kernel
theorem dX9_isNumber_55 : decode cX9_isNumber 55 = .ok (.iconst 1, 1) := by decide +kernel
theorem dX9_isNumber_56 : decode cX9_isNumber 56 = .ok (.goto 4, 3) := by decide +kernel
theorem dX9_isNumber_59 : decode cX9_isNumber 59 = .ok (.iconst 0, 1) := by decide +kernel
theorem dX9_isNumber_60 : decode cX9_isNumber 60 = .ok (.ireturn, 1) := by decide +kernel
theorem dX9_isEnd_0 : decode cX9_isEnd 0 = .ok (.aload_n 0, 1) := by decide +kernel
theorem dX9_isEnd_1 : decode cX9_isEnd 1 = .ok (.invokevirtual 109, 3) := by decide +kernel
theorem dX9_isEnd_4 : decode cX9_isEnd 4 = .ok (.aload_n 0, 1) := by decide +kernel
theorem dX9_isEnd_5 : decode cX9_isEnd 5 = .ok (.getfield 103, 3) := by decide +kernel
theorem dX9_isEnd_8 : decode cX9_isEnd 8 = .ok (.bipush 59, 2) := by decide +kernel
theorem dX9_isEnd_10 : decode cX9_isEnd 10 = .ok (.if_icmp .eq 11, 3) := by decide +kernel
theorem dX9_isEnd_13 : decode cX9_isEnd 13 = .ok (.aload_n 0, 1) := by decide +kernel
theorem dX9_isEnd_14 : decode cX9_isEnd 14 = .ok (.iconst 1, 1) := by decide +kernel
theorem dX9_isEnd_15 : decode cX9_isEnd 15 = .ok (.invokevirtual 112, 3) := by decide +kernel
theorem dX9_isEnd_18 : decode cX9_isEnd 18 = .ok (.ifCond .eq 7, 3) := by decide +kernel
theorem dX9_isEnd_21 : decode cX9_isEnd 21 = .ok (.iconst 1, 1) := by decide +kernel
theorem dX9_isEnd_22 : decode cX9_isEnd 22 = .ok (.goto 4, 3) := by decide +kernel
theorem dX9_isEnd_25 : decode cX9_isEnd 25 = .ok (.iconst 0, 1) := by decide +kernel
theorem dX9_isEnd_26 : decode cX9_isEnd 26 = .ok (.ireturn, 1) := by decide +kernel
theorem dX9_isPeopleLine_0 : decode cX9_isPeopleLine 0 = .ok (.aload_n 0, 1) := by decide +kernel
theorem dX9_isPeopleLine_1 : decode cX9_isPeopleLine 1 = .ok (.getfield 116, 3) := by decide +kernel
theorem dX9_isPeopleLine_4 : decode cX9_isPeopleLine 4 = .ok (.ifCond .le 9, 3) := by decide +kernel
theorem dX9_isPeopleLine_7 : decode cX9_isPeopleLine 7 = .ok (.aload_n 0, 1) := by decide +kernel
theorem dX9_isPeopleLine_8 : decode cX9_isPeopleLine 8 = .ok (.iconst 3, 1) := by decide +kernel
theorem dX9_isPeopleLine_9 : decode cX9_isPeopleLine 9 = .ok (.invokevirtual 112, 3) := by decide +kernel
theorem dX9_isPeopleLine_12 : decode cX9_isPeopleLine 12 = .ok (.ireturn, 1) := by decide +kernel
theorem dX9_isPeopleLine_13 : decode cX9_isPeopleLine 13 = .ok (.aload_n 0, 1) := by decide +kernel
theorem dX9_isPeopleLine_14 : decode cX9_isPeopleLine 14 = .ok (.iconst 1, 1) := by decide +kernel
theorem dX9_isPeopleLine_15 : decode cX9_isPeopleLine 15 = .ok (.bipush 7, 2) := by decide +kernel
theorem dX9_isPeopleLine_17 : decode cX9_isPeopleLine 17 = .ok (.invokevirtual 119, 3) := by decide +kernel
theorem dX9_isPeopleLine_20 : decode cX9_isPeopleLine 20 = .ok (.ifCond .ne 5, 3) := by decide +kernel
theorem dX9_isPeopleLine_23 : decode cX9_isPeopleLine 23 = .ok (.iconst 0, 1) := by decide +kernel
theorem dX9_isPeopleLine_24 : decode cX9_isPeopleLine 24 = .ok (.ireturn, 1) := by decide +kernel
theorem dX9_isPeopleLine_25 : decode cX9_isPeopleLine 25 = .ok (.aload_n 0, 1) := by decide +kernel
theorem dX9_isPeopleLine_26 : decode cX9_isPeopleLine 26 = .ok (.aload_n 0, 1) := by decide +kernel
theorem dX9_isPeopleLine_27 : decode cX9_isPeopleLine 27 = .ok (.getfield 100, 3) := by decide +kernel
theorem dX9_isPeopleLine_30 : decode cX9_isPeopleLine 30 = .ok (.putfield 116, 3) := by decide +kernel
theorem dX9_isPeopleLine_33 : decode cX9_isPeopleLine 33 = .ok (.aload_n 0, 1) := by decide +kernel
theorem dX9_isPeopleLine_34 : decode cX9_isPeopleLine 34 = .ok (.invokevirtual 123, 3) := by decide +kernel
theorem dX9_isPeopleLine_37 : decode cX9_isPeopleLine 37 = .ok (.ireturn, 1) := by decide +kernel
theorem dX9_isFactLine_0 : decode cX9_isFactLine 0 = .ok (.aload_n 0, 1) := by decide +kernel
theorem dX9_isFactLine_1 : decode cX9_isFactLine 1 = .ok (.getfield 127, 3) := by decide +kernel
theorem dX9_isFactLine_4 : decode cX9_isFactLine 4 = .ok (.bipush 8, 2) := by decide +kernel
theorem dX9_isFactLine_6 : decode cX9_isFactLine 6 = .ok (.if_icmp .ne 9, 3) := by decide +kernel
theorem dX9_isFactLine_9 : decode cX9_isFactLine 9 = .ok (.aload_n 0, 1) := by decide +kernel
theorem dX9_isFactLine_10 : decode cX9_isFactLine 10 = .ok (.iconst 3, 1) := by decide +kernel
theorem dX9_isFactLine_11 : decode cX9_isFactLine 11 = .ok (.invokevirtual 112, 3) := by decide +kernel
theorem dX9_isFactLine_14 : decode cX9_isFactLine 14 = .ok (.ireturn, 1) := by decide +kernel
theorem dX9_isFactLine_15 : decode cX9_isFactLine 15 = .ok (.iconst 4, 1) := by decide +kernel
theorem dX9_isFactLine_16 : decode cX9_isFactLine 16 = .ok (.aload_n 0, 1) := by decide +kernel
theorem dX9_isFactLine_17 : decode cX9_isFactLine 17 = .ok (.getfield 127, 3) := by decide +kernel
theorem dX9_isFactLine_20 : decode cX9_isFactLine 20 = .ok (.imul, 1) := by decide +kernel
theorem dX9_isFactLine_21 : decode cX9_isFactLine 21 = .ok (.istore_n 1, 1) := by decide +kernel
theorem dX9_isFactLine_22 : decode cX9_isFactLine 22 = .ok (.iconst 0, 1) := by decide +kernel
theorem dX9_isFactLine_23 : decode cX9_isFactLine 23 = .ok (.istore_n 2, 1) := by decide +kernel
theorem dX9_isFactLine_24 : decode cX9_isFactLine 24 = .ok (.iload_n 2, 1) := by decide +kernel
theorem dX9_isFactLine_25 : decode cX9_isFactLine 25 = .ok (.iconst 3, 1) := by decide +kernel
theorem dX9_isFactLine_26 : decode cX9_isFactLine 26 = .ok (.if_icmp .ge 64, 3) := by decide +kernel
theorem dX9_isFactLine_29 : decode cX9_isFactLine 29 = .ok (.aload_n 0, 1) := by decide +kernel
theorem dX9_isFactLine_30 : decode cX9_isFactLine 30 = .ok (.iload_n 2, 1) := by decide +kernel
theorem dX9_isFactLine_31 : decode cX9_isFactLine 31 = .ok (.iconst 1, 1) := by decide +kernel
theorem dX9_isFactLine_32 : decode cX9_isFactLine 32 = .ok (.if_icmp .ne 7, 3) := by decide +kernel
theorem dX9_isFactLine_35 : decode cX9_isFactLine 35 = .ok (.iconst 1, 1) := by decide +kernel
theorem dX9_isFactLine_36 : decode cX9_isFactLine 36 = .ok (.goto 4, 3) := by decide +kernel
theorem dX9_isFactLine_39 : decode cX9_isFactLine 39 = .ok (.iconst 0, 1) := by decide +kernel
theorem dX9_isFactLine_40 : decode cX9_isFactLine 40 = .ok (.iload_n 2, 1) := by decide +kernel
theorem dX9_isFactLine_41 : decode cX9_isFactLine 41 = .ok (.ifCond .ne 12, 3) := by decide +kernel
theorem dX9_isFactLine_44 : decode cX9_isFactLine 44 = .ok (.aload_n 0, 1) := by decide +kernel
theorem dX9_isFactLine_45 : decode cX9_isFactLine 45 = .ok (.getfield 116, 3) := by decide +kernel
theorem dX9_isFactLine_48 : decode cX9_isFactLine 48 = .ok (.iconst 1, 1) := by decide +kernel
theorem dX9_isFactLine_49 : decode cX9_isFactLine 49 = .ok (.isub, 1) := by decide +kernel
theorem dX9_isFactLine_50 : decode cX9_isFactLine 50 = .ok (.goto 14, 3) := by decide +kernel
theorem dX9_isFactLine_53 : decode cX9_isFactLine 53 = .ok (.iload_n 2, 1) := by decide +kernel
theorem dX9_isFactLine_54 : decode cX9_isFactLine 54 = .ok (.iconst 1, 1) := by decide +kernel
theorem dX9_isFactLine_55 : decode cX9_isFactLine 55 = .ok (.if_icmp .ne 8, 3) := by decide +kernel
theorem dX9_isFactLine_58 : decode cX9_isFactLine 58 = .ok (.bipush 9, 2) := by decide +kernel
theorem dX9_isFactLine_60 : decode cX9_isFactLine 60 = .ok (.goto 4, 3) := by decide +kernel
theorem dX9_isFactLine_63 : decode cX9_isFactLine 63 = .ok (.iconst 1, 1) := by decide +kernel
theorem dX9_isFactLine_64 : decode cX9_isFactLine 64 = .ok (.invokevirtual 119, 3) := by decide +kernel
theorem dX9_isFactLine_67 : decode cX9_isFactLine 67 = .ok (.ifCond .ne 5, 3) := by decide +kernel
theorem dX9_isFactLine_70 : decode cX9_isFactLine 70 = .ok (.iconst 0, 1) := by decide +kernel
theorem dX9_isFactLine_71 : decode cX9_isFactLine 71 = .ok (.ireturn, 1) := by decide +kernel
theorem dX9_isFactLine_72 : decode cX9_isFactLine 72 = .ok (.aload_n 0, 1) := by decide +kernel
theorem dX9_isFactLine_73 : decode cX9_isFactLine 73 = .ok (.getfield 17, 3) := by decide +kernel
theorem dX9_isFactLine_76 : decode cX9_isFactLine 76 = .ok (.iload_n 1, 1) := by decide +kernel
theorem dX9_isFactLine_77 : decode cX9_isFactLine 77 = .ok (.iload_n 2, 1) := by decide +kernel
theorem dX9_isFactLine_78 : decode cX9_isFactLine 78 = .ok (.iadd, 1) := by decide +kernel
theorem dX9_isFactLine_79 : decode cX9_isFactLine 79 = .ok (.aload_n 0, 1) := by decide +kernel
theorem dX9_isFactLine_80 : decode cX9_isFactLine 80 = .ok (.getfield 100, 3) := by decide +kernel
theorem dX9_isFactLine_83 : decode cX9_isFactLine 83 = .ok (.iastore, 1) := by decide +kernel
theorem dX9_isFactLine_84 : decode cX9_isFactLine 84 = .ok (.iinc 2 1, 3) := by decide +kernel
theorem dX9_isFactLine_87 : decode cX9_isFactLine 87 = .ok (.goto (-63), 3) := by decide +kernel
theorem dX9_isFactLine_90 : decode cX9_isFactLine 90 = .ok (.aload_n 0, 1) := by decide +kernel
theorem dX9_isFactLine_91 : decode cX9_isFactLine 91 = .ok (.getfield 17, 3) := by decide +kernel
theorem dX9_isFactLine_94 : decode cX9_isFactLine 94 = .ok (.iload_n 1, 1) := by decide +kernel
theorem dX9_isFactLine_95 : decode cX9_isFactLine 95 = .ok (.iconst 3, 1) := by decide +kernel
theorem dX9_isFactLine_96 : decode cX9_isFactLine 96 = .ok (.iadd, 1) := by decide +kernel
theorem dX9_isFactLine_97 : decode cX9_isFactLine 97 = .ok (.iconst (-1), 1) := by decide +kernel
theorem dX9_isFactLine_98 : decode cX9_isFactLine 98 = .ok (.iastore, 1) := by decide +kernel
theorem dX9_isFactLine_99 : decode cX9_isFactLine 99 = .ok (.aload_n 0, 1) := by decide +kernel
theorem dX9_isFactLine_100 : decode cX9_isFactLine 100 = .ok (.dup, 1) := by decide +kernel
theorem dX9_isFactLine_101 : decode cX9_isFactLine 101 = .ok (.getfield 127, 3) := by decide +kernel
theorem dX9_isFactLine_104 : decode cX9_isFactLine 104 = .ok (.iconst 1, 1) := by decide +kernel
theorem dX9_isFactLine_105 : decode cX9_isFactLine 105 = .ok (.iadd, 1) := by decide +kernel
theorem dX9_isFactLine_106 : decode cX9_isFactLine 106 = .ok (.putfield 127, 3) := by decide +kernel
theorem dX9_isFactLine_109 : decode cX9_isFactLine 109 = .ok (.aload_n 0, 1) := by decide +kernel
theorem dX9_isFactLine_110 : decode cX9_isFactLine 110 = .ok (.invokevirtual 123, 3) := by decide +kernel
theorem dX9_isFactLine_113 : decode cX9_isFactLine 113 = .ok (.ireturn, 1) := by decide +kernel
theorem dX9_isKnownLine_0 : decode cX9_isKnownLine 0 = .ok (.aload_n 0, 1) := by decide +kernel
theorem dX9_isKnownLine_1 : decode cX9_isKnownLine 1 = .ok (.iconst 0, 1) := by decide +kernel
theorem dX9_isKnownLine_2 : decode cX9_isKnownLine 2 = .ok (.aload_n 0, 1) := by decide +kernel
theorem dX9_isKnownLine_3 : decode cX9_isKnownLine 3 = .ok (.getfield 127, 3) := by decide +kernel
theorem dX9_isKnownLine_6 : decode cX9_isKnownLine 6 = .ok (.iconst 1, 1) := by decide +kernel
theorem dX9_isKnownLine_7 : decode cX9_isKnownLine 7 = .ok (.isub, 1) := by decide +kernel
theorem dX9_isKnownLine_8 : decode cX9_isKnownLine 8 = .ok (.invokevirtual 119, 3) := by decide +kernel
theorem dX9_isKnownLine_11 : decode cX9_isKnownLine 11 = .ok (.ifCond .ne 5, 3) := by decide +kernel
theorem dX9_isKnownLine_14 : decode cX9_isKnownLine 14 = .ok (.iconst 0, 1) := by decide +kernel
theorem dX9_isKnownLine_15 : decode cX9_isKnownLine 15 = .ok (.ireturn, 1) := by decide +kernel
theorem dX9_isKnownLine_16 : decode cX9_isKnownLine 16 = .ok (.aload_n 0, 1) := by decide +kernel
theorem dX9_isKnownLine_17 : decode cX9_isKnownLine 17 = .ok (.getfield 100, 3) := by decide +kernel
theorem dX9_isKnownLine_20 : decode cX9_isKnownLine 20 = .ok (.istore_n 1, 1) := by decide +kernel
theorem dX9_isKnownLine_21 : decode cX9_isKnownLine 21 = .ok (.aload_n 0, 1) := by decide +kernel
theorem dX9_isKnownLine_22 : decode cX9_isKnownLine 22 = .ok (.getfield 17, 3) := by decide +kernel
theorem dX9_isKnownLine_25 : decode cX9_isKnownLine 25 = .ok (.iconst 4, 1) := by decide +kernel
theorem dX9_isKnownLine_26 : decode cX9_isKnownLine 26 = .ok (.iload_n 1, 1) := by decide +kernel
theorem dX9_isKnownLine_27 : decode cX9_isKnownLine 27 = .ok (.imul, 1) := by decide +kernel
theorem dX9_isKnownLine_28 : decode cX9_isKnownLine 28 = .ok (.iconst 3, 1) := by decide +kernel
theorem dX9_isKnownLine_29 : decode cX9_isKnownLine 29 = .ok (.iadd, 1) := by decide +kernel
theorem dX9_isKnownLine_30 : decode cX9_isKnownLine 30 = .ok (.iaload, 1) := by decide +kernel
theorem dX9_isKnownLine_31 : decode cX9_isKnownLine 31 = .ok (.iconst (-1), 1) := by decide +kernel
theorem dX9_isKnownLine_32 : decode cX9_isKnownLine 32 = .ok (.if_icmp .eq 9, 3) := by decide +kernel
theorem dX9_isKnownLine_35 : decode cX9_isKnownLine 35 = .ok (.aload_n 0, 1) := by decide +kernel
theorem dX9_isKnownLine_36 : decode cX9_isKnownLine 36 = .ok (.iconst 4, 1) := by decide +kernel
theorem dX9_isKnownLine_37 : decode cX9_isKnownLine 37 = .ok (.invokevirtual 112, 3) := by decide +kernel
theorem dX9_isKnownLine_40 : decode cX9_isKnownLine 40 = .ok (.ireturn, 1) := by decide +kernel
theorem dX9_isKnownLine_41 : decode cX9_isKnownLine 41 = .ok (.aload_n 0, 1) := by decide +kernel
theorem dX9_isKnownLine_42 : decode cX9_isKnownLine 42 = .ok (.iconst 0, 1) := by decide +kernel
theorem dX9_isKnownLine_43 : decode cX9_isKnownLine 43 = .ok (.iconst 1, 1) := by decide +kernel
theorem dX9_isKnownLine_44 : decode cX9_isKnownLine 44 = .ok (.aload_n 0, 1) := by decide +kernel
theorem dX9_isKnownLine_45 : decode cX9_isKnownLine 45 = .ok (.getfield 116, 3) := by decide +kernel
theorem dX9_isKnownLine_48 : decode cX9_isKnownLine 48 = .ok (.ishl, 1) := by decide +kernel
theorem dX9_isKnownLine_49 : decode cX9_isKnownLine 49 = .ok (.iconst 1, 1) := by decide +kernel
theorem dX9_isKnownLine_50 : decode cX9_isKnownLine 50 = .ok (.isub, 1) := by decide +kernel
theorem dX9_isKnownLine_51 : decode cX9_isKnownLine 51 = .ok (.invokevirtual 119, 3) := by decide +kernel
theorem dX9_isKnownLine_54 : decode cX9_isKnownLine 54 = .ok (.ifCond .ne 5, 3) := by decide +kernel
theorem dX9_isKnownLine_57 : decode cX9_isKnownLine 57 = .ok (.iconst 0, 1) := by decide +kernel
theorem dX9_isKnownLine_58 : decode cX9_isKnownLine 58 = .ok (.ireturn, 1) := by decide +kernel
theorem dX9_isKnownLine_59 : decode cX9_isKnownLine 59 = .ok (.aload_n 0, 1) := by decide +kernel
theorem dX9_isKnownLine_60 : decode cX9_isKnownLine 60 = .ok (.getfield 17, 3) := by decide +kernel
theorem dX9_isKnownLine_63 : decode cX9_isKnownLine 63 = .ok (.iconst 4, 1) := by decide +kernel
theorem dX9_isKnownLine_64 : decode cX9_isKnownLine 64 = .ok (.iload_n 1, 1) := by decide +kernel
theorem dX9_isKnownLine_65 : decode cX9_isKnownLine 65 = .ok (.imul, 1) := by decide +kernel
theorem dX9_isKnownLine_66 : decode cX9_isKnownLine 66 = .ok (.iconst 3, 1) := by decide +kernel
theorem dX9_isKnownLine_67 : decode cX9_isKnownLine 67 = .ok (.iadd, 1) := by decide +kernel
theorem dX9_isKnownLine_68 : decode cX9_isKnownLine 68 = .ok (.aload_n 0, 1) := by decide +kernel
theorem dX9_isKnownLine_69 : decode cX9_isKnownLine 69 = .ok (.getfield 100, 3) := by decide +kernel
theorem dX9_isKnownLine_72 : decode cX9_isKnownLine 72 = .ok (.iastore, 1) := by decide +kernel
theorem dX9_isKnownLine_73 : decode cX9_isKnownLine 73 = .ok (.aload_n 0, 1) := by decide +kernel
theorem dX9_isKnownLine_74 : decode cX9_isKnownLine 74 = .ok (.invokevirtual 123, 3) := by decide +kernel
theorem dX9_isKnownLine_77 : decode cX9_isKnownLine 77 = .ok (.ireturn, 1) := by decide +kernel
theorem dX9_isPairLine_0 : decode cX9_isPairLine 0 = .ok (.aload_n 0, 1) := by decide +kernel
theorem dX9_isPairLine_1 : decode cX9_isPairLine 1 = .ok (.getfield 130, 3) := by decide +kernel
theorem dX9_isPairLine_4 : decode cX9_isPairLine 4 = .ok (.bipush 12, 2) := by decide +kernel
theorem dX9_isPairLine_6 : decode cX9_isPairLine 6 = .ok (.if_icmp .ne 9, 3) := by decide +kernel
theorem dX9_isPairLine_9 : decode cX9_isPairLine 9 = .ok (.aload_n 0, 1) := by decide +kernel
theorem dX9_isPairLine_10 : decode cX9_isPairLine 10 = .ok (.iconst 3, 1) := by decide +kernel
theorem dX9_isPairLine_11 : decode cX9_isPairLine 11 = .ok (.invokevirtual 112, 3) := by decide +kernel
theorem dX9_isPairLine_14 : decode cX9_isPairLine 14 = .ok (.ireturn, 1) := by decide +kernel
theorem dX9_isPairLine_15 : decode cX9_isPairLine 15 = .ok (.aload_n 0, 1) := by decide +kernel
theorem dX9_isPairLine_16 : decode cX9_isPairLine 16 = .ok (.iconst 0, 1) := by decide +kernel
theorem dX9_isPairLine_17 : decode cX9_isPairLine 17 = .ok (.aload_n 0, 1) := by decide +kernel
theorem dX9_isPairLine_18 : decode cX9_isPairLine 18 = .ok (.getfield 116, 3) := by decide +kernel
theorem dX9_isPairLine_21 : decode cX9_isPairLine 21 = .ok (.iconst 1, 1) := by decide +kernel
theorem dX9_isPairLine_22 : decode cX9_isPairLine 22 = .ok (.isub, 1) := by decide +kernel
theorem dX9_isPairLine_23 : decode cX9_isPairLine 23 = .ok (.invokevirtual 119, 3) := by decide +kernel
theorem dX9_isPairLine_26 : decode cX9_isPairLine 26 = .ok (.ifCond .ne 5, 3) := by decide +kernel
theorem dX9_isPairLine_29 : decode cX9_isPairLine 29 = .ok (.iconst 0, 1) := by decide +kernel
theorem dX9_isPairLine_30 : decode cX9_isPairLine 30 = .ok (.ireturn, 1) := by decide +kernel
theorem dX9_isPairLine_31 : decode cX9_isPairLine 31 = .ok (.aload_n 0, 1) := by decide +kernel
theorem dX9_isPairLine_32 : decode cX9_isPairLine 32 = .ok (.getfield 100, 3) := by decide +kernel
theorem dX9_isPairLine_35 : decode cX9_isPairLine 35 = .ok (.istore_n 1, 1) := by decide +kernel
theorem dX9_isPairLine_36 : decode cX9_isPairLine 36 = .ok (.aload_n 0, 1) := by decide +kernel
theorem dX9_isPairLine_37 : decode cX9_isPairLine 37 = .ok (.iconst 0, 1) := by decide +kernel
theorem dX9_isPairLine_38 : decode cX9_isPairLine 38 = .ok (.aload_n 0, 1) := by decide +kernel
theorem dX9_isPairLine_39 : decode cX9_isPairLine 39 = .ok (.getfield 116, 3) := by decide +kernel
theorem dX9_isPairLine_42 : decode cX9_isPairLine 42 = .ok (.iconst 1, 1) := by decide +kernel
theorem dX9_isPairLine_43 : decode cX9_isPairLine 43 = .ok (.isub, 1) := by decide +kernel
theorem dX9_isPairLine_44 : decode cX9_isPairLine 44 = .ok (.invokevirtual 119, 3) := by decide +kernel
theorem dX9_isPairLine_47 : decode cX9_isPairLine 47 = .ok (.ifCond .ne 5, 3) := by decide +kernel
theorem dX9_isPairLine_50 : decode cX9_isPairLine 50 = .ok (.iconst 0, 1) := by decide +kernel
theorem dX9_isPairLine_51 : decode cX9_isPairLine 51 = .ok (.ireturn, 1) := by decide +kernel
theorem dX9_isPairLine_52 : decode cX9_isPairLine 52 = .ok (.iload_n 1, 1) := by decide +kernel
theorem dX9_isPairLine_53 : decode cX9_isPairLine 53 = .ok (.aload_n 0, 1) := by decide +kernel
theorem dX9_isPairLine_54 : decode cX9_isPairLine 54 = .ok (.getfield 100, 3) := by decide +kernel
theorem dX9_isPairLine_57 : decode cX9_isPairLine 57 = .ok (.if_icmp .ne 7, 3) := by decide +kernel
theorem dX9_isPairLine_60 : decode cX9_isPairLine 60 = .ok (.iconst 1, 1) := by decide +kernel
theorem dX9_isPairLine_61 : decode cX9_isPairLine 61 = .ok (.goto 4, 3) := by decide +kernel
theorem dX9_isPairLine_64 : decode cX9_isPairLine 64 = .ok (.iconst 0, 1) := by decide +kernel
theorem dX9_isPairLine_65 : decode cX9_isPairLine 65 = .ok (.istore_n 2, 1) := by decide +kernel
theorem dX9_isPairLine_66 : decode cX9_isPairLine 66 = .ok (.iconst 0, 1) := by decide +kernel
theorem dX9_isPairLine_67 : decode cX9_isPairLine 67 = .ok (.istore_n 3, 1) := by decide +kernel
theorem dX9_isPairLine_68 : decode cX9_isPairLine 68 = .ok (.iload_n 3, 1) := by decide +kernel
theorem dX9_isPairLine_69 : decode cX9_isPairLine 69 = .ok (.aload_n 0, 1) := by decide +kernel
theorem dX9_isPairLine_70 : decode cX9_isPairLine 70 = .ok (.getfield 130, 3) := by decide +kernel
theorem dX9_isPairLine_73 : decode cX9_isPairLine 73 = .ok (.if_icmp .ge 71, 3) := by decide +kernel
theorem dX9_isPairLine_76 : decode cX9_isPairLine 76 = .ok (.aload_n 0, 1) := by decide +kernel
theorem dX9_isPairLine_77 : decode cX9_isPairLine 77 = .ok (.getfield 20, 3) := by decide +kernel
theorem dX9_isPairLine_80 : decode cX9_isPairLine 80 = .ok (.iconst 2, 1) := by decide +kernel
theorem dX9_isPairLine_81 : decode cX9_isPairLine 81 = .ok (.iload_n 3, 1) := by decide +kernel
theorem dX9_isPairLine_82 : decode cX9_isPairLine 82 = .ok (.imul, 1) := by decide +kernel
theorem dX9_isPairLine_83 : decode cX9_isPairLine 83 = .ok (.iaload, 1) := by decide +kernel
theorem dX9_isPairLine_84 : decode cX9_isPairLine 84 = .ok (.istore 4, 2) := by decide +kernel
theorem dX9_isPairLine_86 : decode cX9_isPairLine 86 = .ok (.aload_n 0, 1) := by decide +kernel
theorem dX9_isPairLine_87 : decode cX9_isPairLine 87 = .ok (.getfield 20, 3) := by decide +kernel
theorem dX9_isPairLine_90 : decode cX9_isPairLine 90 = .ok (.iconst 2, 1) := by decide +kernel
theorem dX9_isPairLine_91 : decode cX9_isPairLine 91 = .ok (.iload_n 3, 1) := by decide +kernel
theorem dX9_isPairLine_92 : decode cX9_isPairLine 92 = .ok (.imul, 1) := by decide +kernel
theorem dX9_isPairLine_93 : decode cX9_isPairLine 93 = .ok (.iconst 1, 1) := by decide +kernel
theorem dX9_isPairLine_94 : decode cX9_isPairLine 94 = .ok (.iadd, 1) := by decide +kernel
theorem dX9_isPairLine_95 : decode cX9_isPairLine 95 = .ok (.iaload, 1) := by decide +kernel
theorem dX9_isPairLine_96 : decode cX9_isPairLine 96 = .ok (.istore 5, 2) := by decide +kernel
theorem dX9_isPairLine_98 : decode cX9_isPairLine 98 = .ok (.iload_n 2, 1) := by decide +kernel
theorem dX9_isPairLine_99 : decode cX9_isPairLine 99 = .ok (.ifCond .ne 33, 3) := by decide +kernel
theorem dX9_isPairLine_102 : decode cX9_isPairLine 102 = .ok (.iload 4, 2) := by decide +kernel
theorem dX9_isPairLine_104 : decode cX9_isPairLine 104 = .ok (.iload_n 1, 1) := by decide +kernel
theorem dX9_isPairLine_105 : decode cX9_isPairLine 105 = .ok (.if_icmp .ne 12, 3) := by decide +kernel
theorem dX9_isPairLine_108 : decode cX9_isPairLine 108 = .ok (.iload 5, 2) := by decide +kernel
theorem dX9_isPairLine_110 : decode cX9_isPairLine 110 = .ok (.aload_n 0, 1) := by decide +kernel
theorem dX9_isPairLine_111 : decode cX9_isPairLine 111 = .ok (.getfield 100, 3) := by decide +kernel
theorem dX9_isPairLine_114 : decode cX9_isPairLine 114 = .ok (.if_icmp .eq 18, 3) := by decide +kernel
theorem dX9_isPairLine_117 : decode cX9_isPairLine 117 = .ok (.iload 5, 2) := by decide +kernel
theorem dX9_isPairLine_119 : decode cX9_isPairLine 119 = .ok (.iload_n 1, 1) := by decide +kernel
theorem dX9_isPairLine_120 : decode cX9_isPairLine 120 = .ok (.if_icmp .ne 16, 3) := by decide +kernel
theorem dX9_isPairLine_123 : decode cX9_isPairLine 123 = .ok (.iload 4, 2) := by decide +kernel
theorem dX9_isPairLine_125 : decode cX9_isPairLine 125 = .ok (.aload_n 0, 1) := by decide +kernel
theorem dX9_isPairLine_126 : decode cX9_isPairLine 126 = .ok (.getfield 100, 3) := by decide +kernel
theorem dX9_isPairLine_129 : decode cX9_isPairLine 129 = .ok (.if_icmp .ne 7, 3) := by decide +kernel
theorem dX9_isPairLine_132 : decode cX9_isPairLine 132 = .ok (.iconst 1, 1) := by decide +kernel
theorem dX9_isPairLine_133 : decode cX9_isPairLine 133 = .ok (.goto 4, 3) := by decide +kernel
theorem dX9_isPairLine_136 : decode cX9_isPairLine 136 = .ok (.iconst 0, 1) := by decide +kernel
theorem dX9_isPairLine_137 : decode cX9_isPairLine 137 = .ok (.istore_n 2, 1) := by decide +kernel
theorem dX9_isPairLine_138 : decode cX9_isPairLine 138 = .ok (.iinc 3 1, 3) := by decide +kernel
theorem dX9_isPairLine_141 : decode cX9_isPairLine 141 = .ok (.goto (-73), 3) := by decide +kernel
theorem dX9_isPairLine_144 : decode cX9_isPairLine 144 = .ok (.iload_n 2, 1) := by decide +kernel
theorem dX9_isPairLine_145 : decode cX9_isPairLine 145 = .ok (.ifCond .eq 9, 3) := by decide +kernel
theorem dX9_isPairLine_148 : decode cX9_isPairLine 148 = .ok (.aload_n 0, 1) := by decide +kernel
theorem dX9_isPairLine_149 : decode cX9_isPairLine 149 = .ok (.iconst 4, 1) := by decide +kernel
theorem dX9_isPairLine_150 : decode cX9_isPairLine 150 = .ok (.invokevirtual 112, 3) := by decide +kernel
theorem dX9_isPairLine_153 : decode cX9_isPairLine 153 = .ok (.ireturn, 1) := by decide +kernel
theorem dX9_isPairLine_154 : decode cX9_isPairLine 154 = .ok (.aload_n 0, 1) := by decide +kernel
theorem dX9_isPairLine_155 : decode cX9_isPairLine 155 = .ok (.getfield 20, 3) := by decide +kernel
theorem dX9_isPairLine_158 : decode cX9_isPairLine 158 = .ok (.iconst 2, 1) := by decide +kernel
theorem dX9_isPairLine_159 : decode cX9_isPairLine 159 = .ok (.aload_n 0, 1) := by decide +kernel
theorem dX9_isPairLine_160 : decode cX9_isPairLine 160 = .ok (.getfield 130, 3) := by decide +kernel
theorem dX9_isPairLine_163 : decode cX9_isPairLine 163 = .ok (.imul, 1) := by decide +kernel
theorem dX9_isPairLine_164 : decode cX9_isPairLine 164 = .ok (.iload_n 1, 1) := by decide +kernel
theorem dX9_isPairLine_165 : decode cX9_isPairLine 165 = .ok (.iastore, 1) := by decide +kernel
theorem dX9_isPairLine_166 : decode cX9_isPairLine 166 = .ok (.aload_n 0, 1) := by decide +kernel
theorem dX9_isPairLine_167 : decode cX9_isPairLine 167 = .ok (.getfield 20, 3) := by decide +kernel
theorem dX9_isPairLine_170 : decode cX9_isPairLine 170 = .ok (.iconst 2, 1) := by decide +kernel
theorem dX9_isPairLine_171 : decode cX9_isPairLine 171 = .ok (.aload_n 0, 1) := by decide +kernel
theorem dX9_isPairLine_172 : decode cX9_isPairLine 172 = .ok (.getfield 130, 3) := by decide +kernel
theorem dX9_isPairLine_175 : decode cX9_isPairLine 175 = .ok (.imul, 1) := by decide +kernel
theorem dX9_isPairLine_176 : decode cX9_isPairLine 176 = .ok (.iconst 1, 1) := by decide +kernel
theorem dX9_isPairLine_177 : decode cX9_isPairLine 177 = .ok (.iadd, 1) := by decide +kernel
theorem dX9_isPairLine_178 : decode cX9_isPairLine 178 = .ok (.aload_n 0, 1) := by decide +kernel
theorem dX9_isPairLine_179 : decode cX9_isPairLine 179 = .ok (.getfield 100, 3) := by decide +kernel
theorem dX9_isPairLine_182 : decode cX9_isPairLine 182 = .ok (.iastore, 1) := by decide +kernel
theorem dX9_isPairLine_183 : decode cX9_isPairLine 183 = .ok (.aload_n 0, 1) := by decide +kernel
theorem dX9_isPairLine_184 : decode cX9_isPairLine 184 = .ok (.dup, 1) := by decide +kernel
theorem dX9_isPairLine_185 : decode cX9_isPairLine 185 = .ok (.getfield 130, 3) := by decide +kernel
theorem dX9_isPairLine_188 : decode cX9_isPairLine 188 = .ok (.iconst 1, 1) := by decide +kernel
theorem dX9_isPairLine_189 : decode cX9_isPairLine 189 = .ok (.iadd, 1) := by decide +kernel
theorem dX9_isPairLine_190 : decode cX9_isPairLine 190 = .ok (.putfield 130, 3) := by decide +kernel
theorem dX9_isPairLine_193 : decode cX9_isPairLine 193 = .ok (.aload_n 0, 1) := by decide +kernel
theorem dX9_isPairLine_194 : decode cX9_isPairLine 194 = .ok (.invokevirtual 123, 3) := by decide +kernel
theorem dX9_isPairLine_197 : decode cX9_isPairLine 197 = .ok (.ireturn, 1) := by decide +kernel
theorem dX9_isQuietLine_0 : decode cX9_isQuietLine 0 = .ok (.aload_n 0, 1) := by decide +kernel
theorem dX9_isQuietLine_1 : decode cX9_isQuietLine 1 = .ok (.iconst 0, 1) := by decide +kernel
theorem dX9_isQuietLine_2 : decode cX9_isQuietLine 2 = .ok (.aload_n 0, 1) := by decide +kernel
theorem dX9_isQuietLine_3 : decode cX9_isQuietLine 3 = .ok (.getfield 116, 3) := by decide +kernel
theorem dX9_isQuietLine_6 : decode cX9_isQuietLine 6 = .ok (.iconst 1, 1) := by decide +kernel
theorem dX9_isQuietLine_7 : decode cX9_isQuietLine 7 = .ok (.isub, 1) := by decide +kernel
theorem dX9_isQuietLine_8 : decode cX9_isQuietLine 8 = .ok (.invokevirtual 119, 3) := by decide +kernel
theorem dX9_isQuietLine_11 : decode cX9_isQuietLine 11 = .ok (.ifCond .ne 5, 3) := by decide +kernel
theorem dX9_isQuietLine_14 : decode cX9_isQuietLine 14 = .ok (.iconst 0, 1) := by decide +kernel
theorem dX9_isQuietLine_15 : decode cX9_isQuietLine 15 = .ok (.ireturn, 1) := by decide +kernel
theorem dX9_isQuietLine_16 : decode cX9_isQuietLine 16 = .ok (.aload_n 0, 1) := by decide +kernel
theorem dX9_isQuietLine_17 : decode cX9_isQuietLine 17 = .ok (.getfield 133, 3) := by decide +kernel
theorem dX9_isQuietLine_20 : decode cX9_isQuietLine 20 = .ok (.aload_n 0, 1) := by decide +kernel
theorem dX9_isQuietLine_21 : decode cX9_isQuietLine 21 = .ok (.getfield 100, 3) := by decide +kernel
theorem dX9_isQuietLine_24 : decode cX9_isQuietLine 24 = .ok (.invokestatic 136, 3) := by decide +kernel
theorem dX9_isQuietLine_27 : decode cX9_isQuietLine 27 = .ok (.ifCond .eq 9, 3) := by decide +kernel
theorem dX9_isQuietLine_30 : decode cX9_isQuietLine 30 = .ok (.aload_n 0, 1) := by decide +kernel
theorem dX9_isQuietLine_31 : decode cX9_isQuietLine 31 = .ok (.iconst 4, 1) := by decide +kernel
theorem dX9_isQuietLine_32 : decode cX9_isQuietLine 32 = .ok (.invokevirtual 112, 3) := by decide +kernel
theorem dX9_isQuietLine_35 : decode cX9_isQuietLine 35 = .ok (.ireturn, 1) := by decide +kernel
theorem dX9_isQuietLine_36 : decode cX9_isQuietLine 36 = .ok (.aload_n 0, 1) := by decide +kernel
theorem dX9_isQuietLine_37 : decode cX9_isQuietLine 37 = .ok (.aload_n 0, 1) := by decide +kernel
theorem dX9_isQuietLine_38 : decode cX9_isQuietLine 38 = .ok (.getfield 133, 3) := by decide +kernel
theorem dX9_isQuietLine_41 : decode cX9_isQuietLine 41 = .ok (.iconst 1, 1) := by decide +kernel
theorem dX9_isQuietLine_42 : decode cX9_isQuietLine 42 = .ok (.aload_n 0, 1) := by decide +kernel
theorem dX9_isQuietLine_43 : decode cX9_isQuietLine 43 = .ok (.getfield 100, 3) := by decide +kernel
theorem dX9_isQuietLine_46 : decode cX9_isQuietLine 46 = .ok (.ishl, 1) := by decide +kernel
theorem dX9_isQuietLine_47 : decode cX9_isQuietLine 47 = .ok (.ior, 1) := by decide +kernel
theorem dX9_isQuietLine_48 : decode cX9_isQuietLine 48 = .ok (.putfield 133, 3) := by decide +kernel
theorem dX9_isQuietLine_51 : decode cX9_isQuietLine 51 = .ok (.aload_n 0, 1) := by decide +kernel
theorem dX9_isQuietLine_52 : decode cX9_isQuietLine 52 = .ok (.invokevirtual 123, 3) := by decide +kernel
theorem dX9_isQuietLine_55 : decode cX9_isQuietLine 55 = .ok (.ireturn, 1) := by decide +kernel
theorem dX9_isBridgeLine_0 : decode cX9_isBridgeLine 0 = .ok (.aload_n 0, 1) := by decide +kernel
theorem dX9_isBridgeLine_1 : decode cX9_isBridgeLine 1 = .ok (.getfield 139, 3) := by decide +kernel
theorem dX9_isBridgeLine_4 : decode cX9_isBridgeLine 4 = .ok (.iconst 4, 1) := by decide +kernel
theorem dX9_isBridgeLine_5 : decode cX9_isBridgeLine 5 = .ok (.if_icmp .ne 9, 3) := by decide +kernel
theorem dX9_isBridgeLine_8 : decode cX9_isBridgeLine 8 = .ok (.aload_n 0, 1) := by decide +kernel
theorem dX9_isBridgeLine_9 : decode cX9_isBridgeLine 9 = .ok (.iconst 3, 1) := by decide +kernel
theorem dX9_isBridgeLine_10 : decode cX9_isBridgeLine 10 = .ok (.invokevirtual 112, 3) := by decide +kernel
theorem dX9_isBridgeLine_13 : decode cX9_isBridgeLine 13 = .ok (.ireturn, 1) := by decide +kernel
theorem dX9_isBridgeLine_14 : decode cX9_isBridgeLine 14 = .ok (.aload_n 0, 1) := by decide +kernel
theorem dX9_isBridgeLine_15 : decode cX9_isBridgeLine 15 = .ok (.iconst 0, 1) := by decide +kernel
theorem dX9_isBridgeLine_16 : decode cX9_isBridgeLine 16 = .ok (.sipush 999, 3) := by decide +kernel
theorem dX9_isBridgeLine_19 : decode cX9_isBridgeLine 19 = .ok (.invokevirtual 119, 3) := by decide +kernel
theorem dX9_isBridgeLine_22 : decode cX9_isBridgeLine 22 = .ok (.ifCond .ne 5, 3) := by decide +kernel
theorem dX9_isBridgeLine_25 : decode cX9_isBridgeLine 25 = .ok (.iconst 0, 1) := by decide +kernel
theorem dX9_isBridgeLine_26 : decode cX9_isBridgeLine 26 = .ok (.ireturn, 1) := by decide +kernel
theorem dX9_isBridgeLine_27 : decode cX9_isBridgeLine 27 = .ok (.aload_n 0, 1) := by decide +kernel
theorem dX9_isBridgeLine_28 : decode cX9_isBridgeLine 28 = .ok (.getfield 23, 3) := by decide +kernel
theorem dX9_isBridgeLine_31 : decode cX9_isBridgeLine 31 = .ok (.aload_n 0, 1) := by decide +kernel
theorem dX9_isBridgeLine_32 : decode cX9_isBridgeLine 32 = .ok (.getfield 139, 3) := by decide +kernel
theorem dX9_isBridgeLine_35 : decode cX9_isBridgeLine 35 = .ok (.aload_n 0, 1) := by decide +kernel
theorem dX9_isBridgeLine_36 : decode cX9_isBridgeLine 36 = .ok (.getfield 100, 3) := by decide +kernel
theorem dX9_isBridgeLine_39 : decode cX9_isBridgeLine 39 = .ok (.iastore, 1) := by decide +kernel
theorem dX9_isBridgeLine_40 : decode cX9_isBridgeLine 40 = .ok (.aload_n 0, 1) := by decide +kernel
theorem dX9_isBridgeLine_41 : decode cX9_isBridgeLine 41 = .ok (.dup, 1) := by decide +kernel
theorem dX9_isBridgeLine_42 : decode cX9_isBridgeLine 42 = .ok (.getfield 139, 3) := by decide +kernel
theorem dX9_isBridgeLine_45 : decode cX9_isBridgeLine 45 = .ok (.iconst 1, 1) := by decide +kernel
theorem dX9_isBridgeLine_46 : decode cX9_isBridgeLine 46 = .ok (.iadd, 1) := by decide +kernel
theorem dX9_isBridgeLine_47 : decode cX9_isBridgeLine 47 = .ok (.putfield 139, 3) := by decide +kernel
theorem dX9_isBridgeLine_50 : decode cX9_isBridgeLine 50 = .ok (.aload_n 0, 1) := by decide +kernel
theorem dX9_isBridgeLine_51 : decode cX9_isBridgeLine 51 = .ok (.invokevirtual 123, 3) := by decide +kernel
theorem dX9_isBridgeLine_54 : decode cX9_isBridgeLine 54 = .ok (.ireturn, 1) := by decide +kernel
theorem dX9_isHoursLine_0 : decode cX9_isHoursLine 0 = .ok (.aload_n 0, 1) := by decide +kernel
theorem dX9_isHoursLine_1 : decode cX9_isHoursLine 1 = .ok (.getfield 142, 3) := by decide +kernel
theorem dX9_isHoursLine_4 : decode cX9_isHoursLine 4 = .ok (.ifCond .le 9, 3) := by decide +kernel
theorem dX9_isHoursLine_7 : decode cX9_isHoursLine 7 = .ok (.aload_n 0, 1) := by decide +kernel
theorem dX9_isHoursLine_8 : decode cX9_isHoursLine 8 = .ok (.iconst 3, 1) := by decide +kernel
theorem dX9_isHoursLine_9 : decode cX9_isHoursLine 9 = .ok (.invokevirtual 112, 3) := by decide +kernel
theorem dX9_isHoursLine_12 : decode cX9_isHoursLine 12 = .ok (.ireturn, 1) := by decide +kernel
theorem dX9_isHoursLine_13 : decode cX9_isHoursLine 13 = .ok (.aload_n 0, 1) := by decide +kernel
theorem dX9_isHoursLine_14 : decode cX9_isHoursLine 14 = .ok (.iconst 1, 1) := by decide +kernel
theorem dX9_isHoursLine_15 : decode cX9_isHoursLine 15 = .ok (.bipush 99, 2) := by decide +kernel
theorem dX9_isHoursLine_17 : decode cX9_isHoursLine 17 = .ok (.invokevirtual 119, 3) := by decide +kernel
theorem dX9_isHoursLine_20 : decode cX9_isHoursLine 20 = .ok (.ifCond .ne 5, 3) := by decide +kernel
theorem dX9_isHoursLine_23 : decode cX9_isHoursLine 23 = .ok (.iconst 0, 1) := by decide +kernel
theorem dX9_isHoursLine_24 : decode cX9_isHoursLine 24 = .ok (.ireturn, 1) := by decide +kernel
theorem dX9_isHoursLine_25 : decode cX9_isHoursLine 25 = .ok (.aload_n 0, 1) := by decide +kernel
theorem dX9_isHoursLine_26 : decode cX9_isHoursLine 26 = .ok (.aload_n 0, 1) := by decide +kernel
theorem dX9_isHoursLine_27 : decode cX9_isHoursLine 27 = .ok (.getfield 100, 3) := by decide +kernel
theorem dX9_isHoursLine_30 : decode cX9_isHoursLine 30 = .ok (.putfield 142, 3) := by decide +kernel
theorem dX9_isHoursLine_33 : decode cX9_isHoursLine 33 = .ok (.aload_n 0, 1) := by decide +kernel
theorem dX9_isHoursLine_34 : decode cX9_isHoursLine 34 = .ok (.invokevirtual 123, 3) := by decide +kernel
theorem dX9_isHoursLine_37 : decode cX9_isHoursLine 37 = .ok (.ireturn, 1) := by decide +kernel
theorem dX9_isRead_0 : decode cX9_isRead 0 = .ok (.aload_n 0, 1) := by decide +kernel
theorem dX9_isRead_1 : decode cX9_isRead 1 = .ok (.iconst 0, 1) := by decide +kernel
theorem dX9_isRead_2 : decode cX9_isRead 2 = .ok (.putfield 94, 3) := by decide +kernel
theorem dX9_isRead_5 : decode cX9_isRead 5 = .ok (.aload_n 0, 1) := by decide +kernel
theorem dX9_isRead_6 : decode cX9_isRead 6 = .ok (.iconst 0, 1) := by decide +kernel
theorem dX9_isRead_7 : decode cX9_isRead 7 = .ok (.putfield 116, 3) := by decide +kernel
theorem dX9_isRead_10 : decode cX9_isRead 10 = .ok (.aload_n 0, 1) := by decide +kernel
theorem dX9_isRead_11 : decode cX9_isRead 11 = .ok (.iconst 0, 1) := by decide +kernel
theorem dX9_isRead_12 : decode cX9_isRead 12 = .ok (.putfield 127, 3) := by decide +kernel
theorem dX9_isRead_15 : decode cX9_isRead 15 = .ok (.aload_n 0, 1) := by decide +kernel
theorem dX9_isRead_16 : decode cX9_isRead 16 = .ok (.iconst 0, 1) := by decide +kernel
theorem dX9_isRead_17 : decode cX9_isRead 17 = .ok (.putfield 130, 3) := by decide +kernel
theorem dX9_isRead_20 : decode cX9_isRead 20 = .ok (.aload_n 0, 1) := by decide +kernel
theorem dX9_isRead_21 : decode cX9_isRead 21 = .ok (.iconst 0, 1) := by decide +kernel
theorem dX9_isRead_22 : decode cX9_isRead 22 = .ok (.putfield 133, 3) := by decide +kernel
theorem dX9_isRead_25 : decode cX9_isRead 25 = .ok (.aload_n 0, 1) := by decide +kernel
theorem dX9_isRead_26 : decode cX9_isRead 26 = .ok (.iconst 0, 1) := by decide +kernel
theorem dX9_isRead_27 : decode cX9_isRead 27 = .ok (.putfield 139, 3) := by decide +kernel
theorem dX9_isRead_30 : decode cX9_isRead 30 = .ok (.aload_n 0, 1) := by decide +kernel
theorem dX9_isRead_31 : decode cX9_isRead 31 = .ok (.iconst 0, 1) := by decide +kernel
theorem dX9_isRead_32 : decode cX9_isRead 32 = .ok (.putfield 142, 3) := by decide +kernel
theorem dX9_isRead_35 : decode cX9_isRead 35 = .ok (.iconst 1, 1) := by decide +kernel
theorem dX9_isRead_36 : decode cX9_isRead 36 = .ok (.istore_n 1, 1) := by decide +kernel
theorem dX9_isRead_37 : decode cX9_isRead 37 = .ok (.iload_n 1, 1) := by decide +kernel
theorem dX9_isRead_38 : decode cX9_isRead 38 = .ok (.ifCond .eq 164, 3) := by decide +kernel
theorem dX9_isRead_41 : decode cX9_isRead 41 = .ok (.aload_n 0, 1) := by decide +kernel
theorem dX9_isRead_42 : decode cX9_isRead 42 = .ok (.invokevirtual 109, 3) := by decide +kernel
theorem dX9_isRead_45 : decode cX9_isRead 45 = .ok (.aload_n 0, 1) := by decide +kernel
theorem dX9_isRead_46 : decode cX9_isRead 46 = .ok (.getfield 103, 3) := by decide +kernel
theorem dX9_isRead_49 : decode cX9_isRead 49 = .ok (.bipush (-2), 2) := by decide +kernel
theorem dX9_isRead_51 : decode cX9_isRead 51 = .ok (.if_icmp .ne 8, 3) := by decide +kernel
theorem dX9_isRead_54 : decode cX9_isRead 54 = .ok (.iconst 0, 1) := by decide +kernel
theorem dX9_isRead_55 : decode cX9_isRead 55 = .ok (.istore_n 1, 1) := by decide +kernel
theorem dX9_isRead_56 : decode cX9_isRead 56 = .ok (.goto (-19), 3) := by decide +kernel
theorem dX9_isRead_59 : decode cX9_isRead 59 = .ok (.aload_n 0, 1) := by decide +kernel
theorem dX9_isRead_60 : decode cX9_isRead 60 = .ok (.getfield 103, 3) := by decide +kernel
theorem dX9_isRead_63 : decode cX9_isRead 63 = .ok (.bipush 116, 2) := by decide +kernel
theorem dX9_isRead_65 : decode cX9_isRead 65 = .ok (.if_icmp .ne 11, 3) := by decide +kernel
theorem dX9_isRead_68 : decode cX9_isRead 68 = .ok (.aload_n 0, 1) := by decide +kernel
theorem dX9_isRead_69 : decode cX9_isRead 69 = .ok (.invokevirtual 145, 3) := by decide +kernel
theorem dX9_isRead_72 : decode cX9_isRead 72 = .ok (.istore_n 1, 1) := by decide +kernel
theorem dX9_isRead_73 : decode cX9_isRead 73 = .ok (.goto (-36), 3) := by decide +kernel
theorem dX9_isRead_76 : decode cX9_isRead 76 = .ok (.aload_n 0, 1) := by decide +kernel
theorem dX9_isRead_77 : decode cX9_isRead 77 = .ok (.getfield 116, 3) := by decide +kernel
theorem dX9_isRead_80 : decode cX9_isRead 80 = .ok (.ifCond .ne 12, 3) := by decide +kernel
theorem dX9_isRead_83 : decode cX9_isRead 83 = .ok (.aload_n 0, 1) := by decide +kernel
theorem dX9_isRead_84 : decode cX9_isRead 84 = .ok (.iconst 1, 1) := by decide +kernel
theorem dX9_isRead_85 : decode cX9_isRead 85 = .ok (.invokevirtual 112, 3) := by decide +kernel
theorem dX9_isRead_88 : decode cX9_isRead 88 = .ok (.istore_n 1, 1) := by decide +kernel
theorem dX9_isRead_89 : decode cX9_isRead 89 = .ok (.goto (-52), 3) := by decide +kernel
theorem dX9_isRead_92 : decode cX9_isRead 92 = .ok (.aload_n 0, 1) := by decide +kernel
theorem dX9_isRead_93 : decode cX9_isRead 93 = .ok (.getfield 103, 3) := by decide +kernel
theorem dX9_isRead_96 : decode cX9_isRead 96 = .ok (.bipush 102, 2) := by decide +kernel
theorem dX9_isRead_98 : decode cX9_isRead 98 = .ok (.if_icmp .ne 11, 3) := by decide +kernel
theorem dX9_isRead_101 : decode cX9_isRead 101 = .ok (.aload_n 0, 1) := by decide +kernel
theorem dX9_isRead_102 : decode cX9_isRead 102 = .ok (.invokevirtual 148, 3) := by decide +kernel
theorem dX9_isRead_105 : decode cX9_isRead 105 = .ok (.istore_n 1, 1) := by decide +kernel
theorem dX9_isRead_106 : decode cX9_isRead 106 = .ok (.goto (-69), 3) := by decide +kernel
theorem dX9_isRead_109 : decode cX9_isRead 109 = .ok (.aload_n 0, 1) := by decide +kernel
theorem dX9_isRead_110 : decode cX9_isRead 110 = .ok (.getfield 103, 3) := by decide +kernel
theorem dX9_isRead_113 : decode cX9_isRead 113 = .ok (.bipush 107, 2) := by decide +kernel
theorem dX9_isRead_115 : decode cX9_isRead 115 = .ok (.if_icmp .ne 11, 3) := by decide +kernel
theorem dX9_isRead_118 : decode cX9_isRead 118 = .ok (.aload_n 0, 1) := by decide +kernel
theorem dX9_isRead_119 : decode cX9_isRead 119 = .ok (.invokevirtual 151, 3) := by decide +kernel
theorem dX9_isRead_122 : decode cX9_isRead 122 = .ok (.istore_n 1, 1) := by decide +kernel
theorem dX9_isRead_123 : decode cX9_isRead 123 = .ok (.goto (-86), 3) := by decide +kernel
theorem dX9_isRead_126 : decode cX9_isRead 126 = .ok (.aload_n 0, 1) := by decide +kernel
theorem dX9_isRead_127 : decode cX9_isRead 127 = .ok (.getfield 103, 3) := by decide +kernel
theorem dX9_isRead_130 : decode cX9_isRead 130 = .ok (.bipush 119, 2) := by decide +kernel
theorem dX9_isRead_132 : decode cX9_isRead 132 = .ok (.if_icmp .ne 11, 3) := by decide +kernel
theorem dX9_isRead_135 : decode cX9_isRead 135 = .ok (.aload_n 0, 1) := by decide +kernel
theorem dX9_isRead_136 : decode cX9_isRead 136 = .ok (.invokevirtual 154, 3) := by decide +kernel
theorem dX9_isRead_139 : decode cX9_isRead 139 = .ok (.istore_n 1, 1) := by decide +kernel
theorem dX9_isRead_140 : decode cX9_isRead 140 = .ok (.goto (-103), 3) := by decide +kernel
theorem dX9_isRead_143 : decode cX9_isRead 143 = .ok (.aload_n 0, 1) := by decide +kernel
theorem dX9_isRead_144 : decode cX9_isRead 144 = .ok (.getfield 103, 3) := by decide +kernel
theorem dX9_isRead_147 : decode cX9_isRead 147 = .ok (.bipush 109, 2) := by decide +kernel
theorem dX9_isRead_149 : decode cX9_isRead 149 = .ok (.if_icmp .ne 11, 3) := by decide +kernel
theorem dX9_isRead_152 : decode cX9_isRead 152 = .ok (.aload_n 0, 1) := by decide +kernel
theorem dX9_isRead_153 : decode cX9_isRead 153 = .ok (.invokevirtual 157, 3) := by decide +kernel
theorem dX9_isRead_156 : decode cX9_isRead 156 = .ok (.istore_n 1, 1) := by decide +kernel
theorem dX9_isRead_157 : decode cX9_isRead 157 = .ok (.goto (-120), 3) := by decide +kernel
theorem dX9_isRead_160 : decode cX9_isRead 160 = .ok (.aload_n 0, 1) := by decide +kernel
theorem dX9_isRead_161 : decode cX9_isRead 161 = .ok (.getfield 103, 3) := by decide +kernel
theorem dX9_isRead_164 : decode cX9_isRead 164 = .ok (.bipush 98, 2) := by decide +kernel
theorem dX9_isRead_166 : decode cX9_isRead 166 = .ok (.if_icmp .ne 11, 3) := by decide +kernel
theorem dX9_isRead_169 : decode cX9_isRead 169 = .ok (.aload_n 0, 1) := by decide +kernel
theorem dX9_isRead_170 : decode cX9_isRead 170 = .ok (.invokevirtual 160, 3) := by decide +kernel
theorem dX9_isRead_173 : decode cX9_isRead 173 = .ok (.istore_n 1, 1) := by decide +kernel
theorem dX9_isRead_174 : decode cX9_isRead 174 = .ok (.goto (-137), 3) := by decide +kernel
theorem dX9_isRead_177 : decode cX9_isRead 177 = .ok (.aload_n 0, 1) := by decide +kernel
theorem dX9_isRead_178 : decode cX9_isRead 178 = .ok (.getfield 103, 3) := by decide +kernel
theorem dX9_isRead_181 : decode cX9_isRead 181 = .ok (.bipush 103, 2) := by decide +kernel
theorem dX9_isRead_183 : decode cX9_isRead 183 = .ok (.if_icmp .ne 10, 3) := by decide +kernel
theorem dX9_isRead_186 : decode cX9_isRead 186 = .ok (.aload_n 0, 1) := by decide +kernel
theorem dX9_isRead_187 : decode cX9_isRead 187 = .ok (.invokevirtual 163, 3) := by decide +kernel
theorem dX9_isRead_190 : decode cX9_isRead 190 = .ok (.goto 8, 3) := by decide +kernel
theorem dX9_isRead_193 : decode cX9_isRead 193 = .ok (.aload_n 0, 1) := by decide +kernel
theorem dX9_isRead_194 : decode cX9_isRead 194 = .ok (.iconst 1, 1) := by decide +kernel
theorem dX9_isRead_195 : decode cX9_isRead 195 = .ok (.invokevirtual 112, 3) := by decide +kernel
theorem dX9_isRead_198 : decode cX9_isRead 198 = .ok (.istore_n 1, 1) := by decide +kernel
theorem dX9_isRead_199 : decode cX9_isRead 199 = .ok (.goto (-162), 3) := by decide +kernel
theorem dX9_isRead_202 : decode cX9_isRead 202 = .ok (.aload_n 0, 1) := by decide +kernel
theorem dX9_isRead_203 : decode cX9_isRead 203 = .ok (.getfield 13, 3) := by decide +kernel
theorem dX9_isRead_206 : decode cX9_isRead 206 = .ok (.iconst (-1), 1) := by decide +kernel
theorem dX9_isRead_207 : decode cX9_isRead 207 = .ok (.if_icmp .ne 7, 3) := by decide +kernel
theorem dX9_isRead_210 : decode cX9_isRead 210 = .ok (.iconst 1, 1) := by decide +kernel
theorem dX9_isRead_211 : decode cX9_isRead 211 = .ok (.goto 4, 3) := by decide +kernel
theorem dX9_isRead_214 : decode cX9_isRead 214 = .ok (.iconst 0, 1) := by decide +kernel
theorem dX9_isRead_215 : decode cX9_isRead 215 = .ok (.ireturn, 1) := by decide +kernel
theorem dX9_land_0 : decode cX9_land 0 = .ok (.aload_n 0, 1) := by decide +kernel
theorem dX9_land_1 : decode cX9_land 1 = .ok (.iconst (-1), 1) := by decide +kernel
theorem dX9_land_2 : decode cX9_land 2 = .ok (.putfield 13, 3) := by decide +kernel
theorem dX9_land_5 : decode cX9_land 5 = .ok (.aload_n 0, 1) := by decide +kernel
theorem dX9_land_6 : decode cX9_land 6 = .ok (.invokevirtual 166, 3) := by decide +kernel
theorem dX9_land_9 : decode cX9_land 9 = .ok (.istore_n 1, 1) := by decide +kernel
theorem dX9_land_10 : decode cX9_land 10 = .ok (.aload_n 0, 1) := by decide +kernel
theorem dX9_land_11 : decode cX9_land 11 = .ok (.iconst 0, 1) := by decide +kernel
theorem dX9_land_12 : decode cX9_land 12 = .ok (.putfield 90, 3) := by decide +kernel
theorem dX9_land_15 : decode cX9_land 15 = .ok (.iload_n 1, 1) := by decide +kernel
theorem dX9_land_16 : decode cX9_land 16 = .ok (.ifCond .ne 11, 3) := by decide +kernel
theorem dX9_land_19 : decode cX9_land 19 = .ok (.bipush (-10), 2) := by decide +kernel
theorem dX9_land_21 : decode cX9_land 21 = .ok (.aload_n 0, 1) := by decide +kernel
theorem dX9_land_22 : decode cX9_land 22 = .ok (.getfield 106, 3) := by decide +kernel
theorem dX9_land_25 : decode cX9_land 25 = .ok (.isub, 1) := by decide +kernel
theorem dX9_land_26 : decode cX9_land 26 = .ok (.ireturn, 1) := by decide +kernel
theorem dX9_land_27 : decode cX9_land 27 = .ok (.aload_n 0, 1) := by decide +kernel
theorem dX9_land_28 : decode cX9_land 28 = .ok (.aload_n 0, 1) := by decide +kernel
theorem dX9_land_29 : decode cX9_land 29 = .ok (.getfield 116, 3) := by decide +kernel
theorem dX9_land_32 : decode cX9_land 32 = .ok (.putfield 76, 3) := by decide +kernel
theorem dX9_land_35 : decode cX9_land 35 = .ok (.aload_n 0, 1) := by decide +kernel
theorem dX9_land_36 : decode cX9_land 36 = .ok (.aload_n 0, 1) := by decide +kernel
theorem dX9_land_37 : decode cX9_land 37 = .ok (.getfield 127, 3) := by decide +kernel
theorem dX9_land_40 : decode cX9_land 40 = .ok (.putfield 83, 3) := by decide +kernel
theorem dX9_land_43 : decode cX9_land 43 = .ok (.aload_n 0, 1) := by decide +kernel
theorem dX9_land_44 : decode cX9_land 44 = .ok (.aload_n 0, 1) := by decide +kernel
theorem dX9_land_45 : decode cX9_land 45 = .ok (.getfield 130, 3) := by decide +kernel
theorem dX9_land_48 : decode cX9_land 48 = .ok (.putfield 169, 3) := by decide +kernel
theorem dX9_land_51 : decode cX9_land 51 = .ok (.aload_n 0, 1) := by decide +kernel
theorem dX9_land_52 : decode cX9_land 52 = .ok (.aload_n 0, 1) := by decide +kernel
theorem dX9_land_53 : decode cX9_land 53 = .ok (.getfield 133, 3) := by decide +kernel
theorem dX9_land_56 : decode cX9_land 56 = .ok (.putfield 172, 3) := by decide +kernel
theorem dX9_land_59 : decode cX9_land 59 = .ok (.aload_n 0, 1) := by decide +kernel
theorem dX9_land_60 : decode cX9_land 60 = .ok (.aload_n 0, 1) := by decide +kernel
theorem dX9_land_61 : decode cX9_land 61 = .ok (.getfield 139, 3) := by decide +kernel
theorem dX9_land_64 : decode cX9_land 64 = .ok (.putfield 86, 3) := by decide +kernel
theorem dX9_land_67 : decode cX9_land 67 = .ok (.aload_n 0, 1) := by decide +kernel
theorem dX9_land_68 : decode cX9_land 68 = .ok (.aload_n 0, 1) := by decide +kernel
theorem dX9_land_69 : decode cX9_land 69 = .ok (.getfield 142, 3) := by decide +kernel
theorem dX9_land_72 : decode cX9_land 72 = .ok (.putfield 175, 3) := by decide +kernel
theorem dX9_land_75 : decode cX9_land 75 = .ok (.iconst 0, 1) := by decide +kernel
theorem dX9_land_76 : decode cX9_land 76 = .ok (.istore_n 2, 1) := by decide +kernel
theorem dX9_land_77 : decode cX9_land 77 = .ok (.iload_n 2, 1) := by decide +kernel
theorem dX9_land_78 : decode cX9_land 78 = .ok (.iconst 4, 1) := by decide +kernel
theorem dX9_land_79 : decode cX9_land 79 = .ok (.aload_n 0, 1) := by decide +kernel
theorem dX9_land_80 : decode cX9_land 80 = .ok (.getfield 83, 3) := by decide +kernel
theorem dX9_land_83 : decode cX9_land 83 = .ok (.imul, 1) := by decide +kernel
theorem dX9_land_84 : decode cX9_land 84 = .ok (.if_icmp .ge 21, 3) := by decide +kernel
theorem dX9_land_87 : decode cX9_land 87 = .ok (.aload_n 0, 1) := by decide +kernel
theorem dX9_land_88 : decode cX9_land 88 = .ok (.getfield 26, 3) := by decide +kernel
theorem dX9_land_91 : decode cX9_land 91 = .ok (.iload_n 2, 1) := by decide +kernel
theorem dX9_land_92 : decode cX9_land 92 = .ok (.aload_n 0, 1) := by decide +kernel
theorem dX9_land_93 : decode cX9_land 93 = .ok (.getfield 17, 3) := by decide +kernel
theorem dX9_land_96 : decode cX9_land 96 = .ok (.iload_n 2, 1) := by decide +kernel
theorem dX9_land_97 : decode cX9_land 97 = .ok (.iaload, 1) := by decide +kernel
theorem dX9_land_98 : decode cX9_land 98 = .ok (.iastore, 1) := by decide +kernel
theorem dX9_land_99 : decode cX9_land 99 = .ok (.iinc 2 1, 3) := by decide +kernel
theorem dX9_land_102 : decode cX9_land 102 = .ok (.goto (-25), 3) := by decide +kernel
theorem dX9_land_105 : decode cX9_land 105 = .ok (.iconst 0, 1) := by decide +kernel
theorem dX9_land_106 : decode cX9_land 106 = .ok (.istore_n 2, 1) := by decide +kernel
theorem dX9_land_107 : decode cX9_land 107 = .ok (.iload_n 2, 1) := by decide +kernel
theorem dX9_land_108 : decode cX9_land 108 = .ok (.iconst 2, 1) := by decide +kernel
theorem dX9_land_109 : decode cX9_land 109 = .ok (.aload_n 0, 1) := by decide +kernel
theorem dX9_land_110 : decode cX9_land 110 = .ok (.getfield 169, 3) := by decide +kernel
theorem dX9_land_113 : decode cX9_land 113 = .ok (.imul, 1) := by decide +kernel
theorem dX9_land_114 : decode cX9_land 114 = .ok (.if_icmp .ge 21, 3) := by decide +kernel
theorem dX9_land_117 : decode cX9_land 117 = .ok (.aload_n 0, 1) := by decide +kernel
theorem dX9_land_118 : decode cX9_land 118 = .ok (.getfield 29, 3) := by decide +kernel
theorem dX9_land_121 : decode cX9_land 121 = .ok (.iload_n 2, 1) := by decide +kernel
theorem dX9_land_122 : decode cX9_land 122 = .ok (.aload_n 0, 1) := by decide +kernel
theorem dX9_land_123 : decode cX9_land 123 = .ok (.getfield 20, 3) := by decide +kernel
theorem dX9_land_126 : decode cX9_land 126 = .ok (.iload_n 2, 1) := by decide +kernel
theorem dX9_land_127 : decode cX9_land 127 = .ok (.iaload, 1) := by decide +kernel
theorem dX9_land_128 : decode cX9_land 128 = .ok (.iastore, 1) := by decide +kernel
theorem dX9_land_129 : decode cX9_land 129 = .ok (.iinc 2 1, 3) := by decide +kernel
theorem dX9_land_132 : decode cX9_land 132 = .ok (.goto (-25), 3) := by decide +kernel
theorem dX9_land_135 : decode cX9_land 135 = .ok (.iconst 0, 1) := by decide +kernel
theorem dX9_land_136 : decode cX9_land 136 = .ok (.istore_n 2, 1) := by decide +kernel
theorem dX9_land_137 : decode cX9_land 137 = .ok (.iload_n 2, 1) := by decide +kernel
theorem dX9_land_138 : decode cX9_land 138 = .ok (.aload_n 0, 1) := by decide +kernel
theorem dX9_land_139 : decode cX9_land 139 = .ok (.getfield 86, 3) := by decide +kernel
theorem dX9_land_142 : decode cX9_land 142 = .ok (.if_icmp .ge 21, 3) := by decide +kernel
theorem dX9_land_145 : decode cX9_land 145 = .ok (.aload_n 0, 1) := by decide +kernel
theorem dX9_land_146 : decode cX9_land 146 = .ok (.getfield 32, 3) := by decide +kernel
theorem dX9_land_149 : decode cX9_land 149 = .ok (.iload_n 2, 1) := by decide +kernel
theorem dX9_land_150 : decode cX9_land 150 = .ok (.aload_n 0, 1) := by decide +kernel
theorem dX9_land_151 : decode cX9_land 151 = .ok (.getfield 23, 3) := by decide +kernel
theorem dX9_land_154 : decode cX9_land 154 = .ok (.iload_n 2, 1) := by decide +kernel
theorem dX9_land_155 : decode cX9_land 155 = .ok (.iaload, 1) := by decide +kernel
theorem dX9_land_156 : decode cX9_land 156 = .ok (.iastore, 1) := by decide +kernel
theorem dX9_land_157 : decode cX9_land 157 = .ok (.iinc 2 1, 3) := by decide +kernel
theorem dX9_land_160 : decode cX9_land 160 = .ok (.goto (-23), 3) := by decide +kernel
theorem dX9_land_163 : decode cX9_land 163 = .ok (.aload_n 0, 1) := by decide +kernel
theorem dX9_land_164 : decode cX9_land 164 = .ok (.invokevirtual 70, 3) := by decide +kernel
theorem dX9_land_167 : decode cX9_land 167 = .ok (.iconst 0, 1) := by decide +kernel
theorem dX9_land_168 : decode cX9_land 168 = .ok (.istore_n 2, 1) := by decide +kernel
theorem dX9_land_169 : decode cX9_land 169 = .ok (.iload_n 2, 1) := by decide +kernel
theorem dX9_land_170 : decode cX9_land 170 = .ok (.aload_n 0, 1) := by decide +kernel
theorem dX9_land_171 : decode cX9_land 171 = .ok (.getfield 83, 3) := by decide +kernel
theorem dX9_land_174 : decode cX9_land 174 = .ok (.if_icmp .ge 72, 3) := by decide +kernel
theorem dX9_land_177 : decode cX9_land 177 = .ok (.iconst 0, 1) := by decide +kernel
theorem dX9_land_178 : decode cX9_land 178 = .ok (.istore_n 3, 1) := by decide +kernel
theorem dX9_land_179 : decode cX9_land 179 = .ok (.iload_n 3, 1) := by decide +kernel
theorem dX9_land_180 : decode cX9_land 180 = .ok (.aload_n 0, 1) := by decide +kernel
theorem dX9_land_181 : decode cX9_land 181 = .ok (.getfield 76, 3) := by decide +kernel
theorem dX9_land_184 : decode cX9_land 184 = .ok (.if_icmp .ge 56, 3) := by decide +kernel
theorem dX9_land_187 : decode cX9_land 187 = .ok (.aload_n 0, 1) := by decide +kernel
theorem dX9_land_188 : decode cX9_land 188 = .ok (.getfield 26, 3) := by decide +kernel
theorem dX9_land_191 : decode cX9_land 191 = .ok (.iconst 4, 1) := by decide +kernel
theorem dX9_land_192 : decode cX9_land 192 = .ok (.iload_n 2, 1) := by decide +kernel
theorem dX9_land_193 : decode cX9_land 193 = .ok (.imul, 1) := by decide +kernel
theorem dX9_land_194 : decode cX9_land 194 = .ok (.iconst 3, 1) := by decide +kernel
theorem dX9_land_195 : decode cX9_land 195 = .ok (.iadd, 1) := by decide +kernel
theorem dX9_land_196 : decode cX9_land 196 = .ok (.iaload, 1) := by decide +kernel
theorem dX9_land_197 : decode cX9_land 197 = .ok (.iconst (-1), 1) := by decide +kernel
theorem dX9_land_198 : decode cX9_land 198 = .ok (.if_icmp .eq 42, 3) := by decide +kernel
theorem dX9_land_201 : decode cX9_land 201 = .ok (.aload_n 0, 1) := by decide +kernel
theorem dX9_land_202 : decode cX9_land 202 = .ok (.getfield 35, 3) := by decide +kernel
theorem dX9_land_205 : decode cX9_land 205 = .ok (.bipush 8, 2) := by decide +kernel
theorem dX9_land_207 : decode cX9_land 207 = .ok (.iload_n 3, 1) := by decide +kernel
theorem dX9_land_208 : decode cX9_land 208 = .ok (.imul, 1) := by decide +kernel
theorem dX9_land_209 : decode cX9_land 209 = .ok (.iload_n 2, 1) := by decide +kernel
theorem dX9_land_210 : decode cX9_land 210 = .ok (.iadd, 1) := by decide +kernel
theorem dX9_land_211 : decode cX9_land 211 = .ok (.aload_n 0, 1) := by decide +kernel
theorem dX9_land_212 : decode cX9_land 212 = .ok (.getfield 26, 3) := by decide +kernel
theorem dX9_land_215 : decode cX9_land 215 = .ok (.iconst 4, 1) := by decide +kernel
theorem dX9_land_216 : decode cX9_land 216 = .ok (.iload_n 2, 1) := by decide +kernel
theorem dX9_land_217 : decode cX9_land 217 = .ok (.imul, 1) := by decide +kernel
theorem dX9_land_218 : decode cX9_land 218 = .ok (.iconst 3, 1) := by decide +kernel
theorem dX9_land_219 : decode cX9_land 219 = .ok (.iadd, 1) := by decide +kernel
theorem dX9_land_220 : decode cX9_land 220 = .ok (.iaload, 1) := by decide +kernel
theorem dX9_land_221 : decode cX9_land 221 = .ok (.iload_n 3, 1) := by decide +kernel
theorem dX9_land_222 : decode cX9_land 222 = .ok (.invokestatic 136, 3) := by decide +kernel
theorem dX9_land_225 : decode cX9_land 225 = .ok (.ifCond .eq 7, 3) := by decide +kernel
theorem dX9_land_228 : decode cX9_land 228 = .ok (.iconst 0, 1) := by decide +kernel
theorem dX9_land_229 : decode cX9_land 229 = .ok (.goto 4, 3) := by decide +kernel
theorem dX9_land_232 : decode cX9_land 232 = .ok (.iconst (-1), 1) := by decide +kernel
theorem dX9_land_233 : decode cX9_land 233 = .ok (.iastore, 1) := by decide +kernel
theorem dX9_land_234 : decode cX9_land 234 = .ok (.iinc 3 1, 3) := by decide +kernel
theorem dX9_land_237 : decode cX9_land 237 = .ok (.goto (-58), 3) := by decide +kernel
theorem dX9_land_240 : decode cX9_land 240 = .ok (.iinc 2 1, 3) := by decide +kernel
theorem dX9_land_243 : decode cX9_land 243 = .ok (.goto (-74), 3) := by decide +kernel
theorem dX9_land_246 : decode cX9_land 246 = .ok (.aload_n 0, 1) := by decide +kernel
theorem dX9_land_247 : decode cX9_land 247 = .ok (.getfield 76, 3) := by decide +kernel
theorem dX9_land_250 : decode cX9_land 250 = .ok (.ireturn, 1) := by decide +kernel
theorem dX9_fault_0 : decode cX9_fault 0 = .ok (.aload_n 0, 1) := by decide +kernel
theorem dX9_fault_1 : decode cX9_fault 1 = .ok (.getfield 13, 3) := by decide +kernel
theorem dX9_fault_4 : decode cX9_fault 4 = .ok (.ireturn, 1) := by decide +kernel
theorem dX9_personOf_0 : decode cX9_personOf 0 = .ok (.aload_n 0, 1) := by decide +kernel
theorem dX9_personOf_1 : decode cX9_personOf 1 = .ok (.getfield 26, 3) := by decide +kernel
theorem dX9_personOf_4 : decode cX9_personOf 4 = .ok (.iconst 4, 1) := by decide +kernel
theorem dX9_personOf_5 : decode cX9_personOf 5 = .ok (.iload_n 1, 1) := by decide +kernel
theorem dX9_personOf_6 : decode cX9_personOf 6 = .ok (.imul, 1) := by decide +kernel
theorem dX9_personOf_7 : decode cX9_personOf 7 = .ok (.iaload, 1) := by decide +kernel
theorem dX9_personOf_8 : decode cX9_personOf 8 = .ok (.ireturn, 1) := by decide +kernel
theorem dX9_gramsOf_0 : decode cX9_gramsOf 0 = .ok (.aload_n 0, 1) := by decide +kernel
theorem dX9_gramsOf_1 : decode cX9_gramsOf 1 = .ok (.getfield 26, 3) := by decide +kernel
theorem dX9_gramsOf_4 : decode cX9_gramsOf 4 = .ok (.iconst 4, 1) := by decide +kernel
theorem dX9_gramsOf_5 : decode cX9_gramsOf 5 = .ok (.iload_n 1, 1) := by decide +kernel
theorem dX9_gramsOf_6 : decode cX9_gramsOf 6 = .ok (.imul, 1) := by decide +kernel
theorem dX9_gramsOf_7 : decode cX9_gramsOf 7 = .ok (.iconst 1, 1) := by decide +kernel
theorem dX9_gramsOf_8 : decode cX9_gramsOf 8 = .ok (.iadd, 1) := by decide +kernel
theorem dX9_gramsOf_9 : decode cX9_gramsOf 9 = .ok (.iaload, 1) := by decide +kernel
theorem dX9_gramsOf_10 : decode cX9_gramsOf 10 = .ok (.ireturn, 1) := by decide +kernel
theorem dX9_isLie_0 : decode cX9_isLie 0 = .ok (.aload_n 0, 1) := by decide +kernel
theorem dX9_isLie_1 : decode cX9_isLie 1 = .ok (.getfield 26, 3) := by decide +kernel
theorem dX9_isLie_4 : decode cX9_isLie 4 = .ok (.iconst 4, 1) := by decide +kernel
theorem dX9_isLie_5 : decode cX9_isLie 5 = .ok (.iload_n 1, 1) := by decide +kernel
theorem dX9_isLie_6 : decode cX9_isLie 6 = .ok (.imul, 1) := by decide +kernel
theorem dX9_isLie_7 : decode cX9_isLie 7 = .ok (.iconst 2, 1) := by decide +kernel
theorem dX9_isLie_8 : decode cX9_isLie 8 = .ok (.iadd, 1) := by decide +kernel
theorem dX9_isLie_9 : decode cX9_isLie 9 = .ok (.iaload, 1) := by decide +kernel
theorem dX9_isLie_10 : decode cX9_isLie 10 = .ok (.iconst 1, 1) := by decide +kernel
theorem dX9_isLie_11 : decode cX9_isLie 11 = .ok (.if_icmp .ne 7, 3) := by decide +kernel
theorem dX9_isLie_14 : decode cX9_isLie 14 = .ok (.iconst 1, 1) := by decide +kernel
theorem dX9_isLie_15 : decode cX9_isLie 15 = .ok (.goto 4, 3) := by decide +kernel
theorem dX9_isLie_18 : decode cX9_isLie 18 = .ok (.iconst 0, 1) := by decide +kernel
theorem dX9_isLie_19 : decode cX9_isLie 19 = .ok (.ireturn, 1) := by decide +kernel
theorem dX9_knows_0 : decode cX9_knows 0 = .ok (.aload_n 0, 1) := by decide +kernel
theorem dX9_knows_1 : decode cX9_knows 1 = .ok (.bipush 8, 2) := by decide +kernel
theorem dX9_knows_3 : decode cX9_knows 3 = .ok (.iload_n 1, 1) := by decide +kernel
theorem dX9_knows_4 : decode cX9_knows 4 = .ok (.imul, 1) := by decide +kernel
theorem dX9_knows_5 : decode cX9_knows 5 = .ok (.iload_n 2, 1) := by decide +kernel
theorem dX9_knows_6 : decode cX9_knows 6 = .ok (.iadd, 1) := by decide +kernel
theorem dX9_knows_7 : decode cX9_knows 7 = .ok (.iaload, 1) := by decide +kernel
theorem dX9_knows_8 : decode cX9_knows 8 = .ok (.iconst (-1), 1) := by decide +kernel
theorem dX9_knows_9 : decode cX9_knows 9 = .ok (.if_icmp .eq 7, 3) := by decide +kernel
theorem dX9_knows_12 : decode cX9_knows 12 = .ok (.iconst 1, 1) := by decide +kernel
theorem dX9_knows_13 : decode cX9_knows 13 = .ok (.goto 4, 3) := by decide +kernel
theorem dX9_knows_16 : decode cX9_knows 16 = .ok (.iconst 0, 1) := by decide +kernel
theorem dX9_knows_17 : decode cX9_knows 17 = .ok (.ireturn, 1) := by decide +kernel
theorem dX9_knowersOf_0 : decode cX9_knowersOf 0 = .ok (.iconst 0, 1) := by decide +kernel
theorem dX9_knowersOf_1 : decode cX9_knowersOf 1 = .ok (.istore_n 3, 1) := by decide +kernel
theorem dX9_knowersOf_2 : decode cX9_knowersOf 2 = .ok (.iconst 0, 1) := by decide +kernel
theorem dX9_knowersOf_3 : decode cX9_knowersOf 3 = .ok (.istore 4, 2) := by decide +kernel
theorem dX9_knowersOf_5 : decode cX9_knowersOf 5 = .ok (.iload 4, 2) := by decide +kernel
theorem dX9_knowersOf_7 : decode cX9_knowersOf 7 = .ok (.aload_n 0, 1) := by decide +kernel
theorem dX9_knowersOf_8 : decode cX9_knowersOf 8 = .ok (.getfield 76, 3) := by decide +kernel
theorem dX9_knowersOf_11 : decode cX9_knowersOf 11 = .ok (.if_icmp .ge 30, 3) := by decide +kernel
theorem dX9_knowersOf_14 : decode cX9_knowersOf 14 = .ok (.iload_n 3, 1) := by decide +kernel
theorem dX9_knowersOf_15 : decode cX9_knowersOf 15 = .ok (.aload_n 1, 1) := by decide +kernel
theorem dX9_knowersOf_16 : decode cX9_knowersOf 16 = .ok (.iload 4, 2) := by decide +kernel
theorem dX9_knowersOf_18 : decode cX9_knowersOf 18 = .ok (.iload_n 2, 1) := by decide +kernel
theorem dX9_knowersOf_19 : decode cX9_knowersOf 19 = .ok (.invokestatic 178, 3) := by decide +kernel
theorem dX9_knowersOf_22 : decode cX9_knowersOf 22 = .ok (.ifCond .eq 10, 3) := by decide +kernel
theorem dX9_knowersOf_25 : decode cX9_knowersOf 25 = .ok (.iconst 1, 1) := by decide +kernel
theorem dX9_knowersOf_26 : decode cX9_knowersOf 26 = .ok (.iload 4, 2) := by decide +kernel
theorem dX9_knowersOf_28 : decode cX9_knowersOf 28 = .ok (.ishl, 1) := by decide +kernel
theorem dX9_knowersOf_29 : decode cX9_knowersOf 29 = .ok (.goto 4, 3) := by decide +kernel
theorem dX9_knowersOf_32 : decode cX9_knowersOf 32 = .ok (.iconst 0, 1) := by decide +kernel
theorem dX9_knowersOf_33 : decode cX9_knowersOf 33 = .ok (.ior, 1) := by decide +kernel
theorem dX9_knowersOf_34 : decode cX9_knowersOf 34 = .ok (.istore_n 3, 1) := by decide +kernel
theorem dX9_knowersOf_35 : decode cX9_knowersOf 35 = .ok (.iinc 4 1, 3) := by decide +kernel
theorem dX9_knowersOf_38 : decode cX9_knowersOf 38 = .ok (.goto (-33), 3) := by decide +kernel
theorem dX9_knowersOf_41 : decode cX9_knowersOf 41 = .ok (.iload_n 3, 1) := by decide +kernel
theorem dX9_knowersOf_42 : decode cX9_knowersOf 42 = .ok (.ireturn, 1) := by decide +kernel
theorem dX9_headsOf_0 : decode cX9_headsOf 0 = .ok (.iconst 0, 1) := by decide +kernel
theorem dX9_headsOf_1 : decode cX9_headsOf 1 = .ok (.istore_n 3, 1) := by decide +kernel
theorem dX9_headsOf_2 : decode cX9_headsOf 2 = .ok (.iconst 0, 1) := by decide +kernel
theorem dX9_headsOf_3 : decode cX9_headsOf 3 = .ok (.istore 4, 2) := by decide +kernel
theorem dX9_headsOf_5 : decode cX9_headsOf 5 = .ok (.iload 4, 2) := by decide +kernel
theorem dX9_headsOf_7 : decode cX9_headsOf 7 = .ok (.aload_n 0, 1) := by decide +kernel
theorem dX9_headsOf_8 : decode cX9_headsOf 8 = .ok (.getfield 76, 3) := by decide +kernel
theorem dX9_headsOf_11 : decode cX9_headsOf 11 = .ok (.if_icmp .ge 37, 3) := by decide +kernel
theorem dX9_headsOf_14 : decode cX9_headsOf 14 = .ok (.iload_n 3, 1) := by decide +kernel
theorem dX9_headsOf_15 : decode cX9_headsOf 15 = .ok (.iload 4, 2) := by decide +kernel
theorem dX9_headsOf_17 : decode cX9_headsOf 17 = .ok (.aload_n 0, 1) := by decide +kernel
theorem dX9_headsOf_18 : decode cX9_headsOf 18 = .ok (.iload_n 2, 1) := by decide +kernel
theorem dX9_headsOf_19 : decode cX9_headsOf 19 = .ok (.invokevirtual 182, 3) := by decide +kernel
theorem dX9_headsOf_22 : decode cX9_headsOf 22 = .ok (.if_icmp .eq 17, 3) := by decide +kernel
theorem dX9_headsOf_25 : decode cX9_headsOf 25 = .ok (.aload_n 1, 1) := by decide +kernel
theorem dX9_headsOf_26 : decode cX9_headsOf 26 = .ok (.iload 4, 2) := by decide +kernel
theorem dX9_headsOf_28 : decode cX9_headsOf 28 = .ok (.iload_n 2, 1) := by decide +kernel
theorem dX9_headsOf_29 : decode cX9_headsOf 29 = .ok (.invokestatic 178, 3) := by decide +kernel
theorem dX9_headsOf_32 : decode cX9_headsOf 32 = .ok (.ifCond .eq 7, 3) := by decide +kernel
theorem dX9_headsOf_35 : decode cX9_headsOf 35 = .ok (.iconst 1, 1) := by decide +kernel
theorem dX9_headsOf_36 : decode cX9_headsOf 36 = .ok (.goto 4, 3) := by decide +kernel
theorem dX9_headsOf_39 : decode cX9_headsOf 39 = .ok (.iconst 0, 1) := by decide +kernel
theorem dX9_headsOf_40 : decode cX9_headsOf 40 = .ok (.iadd, 1) := by decide +kernel
theorem dX9_headsOf_41 : decode cX9_headsOf 41 = .ok (.istore_n 3, 1) := by decide +kernel
theorem dX9_headsOf_42 : decode cX9_headsOf 42 = .ok (.iinc 4 1, 3) := by decide +kernel
theorem dX9_headsOf_45 : decode cX9_headsOf 45 = .ok (.goto (-40), 3) := by decide +kernel
theorem dX9_headsOf_48 : decode cX9_headsOf 48 = .ok (.iload_n 3, 1) := by decide +kernel
theorem dX9_headsOf_49 : decode cX9_headsOf 49 = .ok (.ireturn, 1) := by decide +kernel
theorem dX9_weightOf_0 : decode cX9_weightOf 0 = .ok (.iconst 0, 1) := by decide +kernel
theorem dX9_weightOf_1 : decode cX9_weightOf 1 = .ok (.istore_n 3, 1) := by decide +kernel
theorem dX9_weightOf_2 : decode cX9_weightOf 2 = .ok (.iconst 0, 1) := by decide +kernel
theorem dX9_weightOf_3 : decode cX9_weightOf 3 = .ok (.istore 4, 2) := by decide +kernel
theorem dX9_weightOf_5 : decode cX9_weightOf 5 = .ok (.iload 4, 2) := by decide +kernel
theorem dX9_weightOf_7 : decode cX9_weightOf 7 = .ok (.aload_n 0, 1) := by decide +kernel
theorem dX9_weightOf_8 : decode cX9_weightOf 8 = .ok (.getfield 83, 3) := by decide +kernel
theorem dX9_weightOf_11 : decode cX9_weightOf 11 = .ok (.if_icmp .ge 59, 3) := by decide +kernel
theorem dX9_weightOf_14 : decode cX9_weightOf 14 = .ok (.aload_n 0, 1) := by decide +kernel
theorem dX9_weightOf_15 : decode cX9_weightOf 15 = .ok (.iload 4, 2) := by decide +kernel
theorem dX9_weightOf_17 : decode cX9_weightOf 17 = .ok (.invokevirtual 182, 3) := by decide +kernel
theorem dX9_weightOf_20 : decode cX9_weightOf 20 = .ok (.iload_n 2, 1) := by decide +kernel
theorem dX9_weightOf_21 : decode cX9_weightOf 21 = .ok (.if_icmp .ne 20, 3) := by decide +kernel
theorem dX9_weightOf_24 : decode cX9_weightOf 24 = .ok (.aload_n 0, 1) := by decide +kernel
theorem dX9_weightOf_25 : decode cX9_weightOf 25 = .ok (.iload 4, 2) := by decide +kernel
theorem dX9_weightOf_27 : decode cX9_weightOf 27 = .ok (.invokevirtual 186, 3) := by decide +kernel
theorem dX9_weightOf_30 : decode cX9_weightOf 30 = .ok (.aload_n 0, 1) := by decide +kernel
theorem dX9_weightOf_31 : decode cX9_weightOf 31 = .ok (.aload_n 1, 1) := by decide +kernel
theorem dX9_weightOf_32 : decode cX9_weightOf 32 = .ok (.iload 4, 2) := by decide +kernel
theorem dX9_weightOf_34 : decode cX9_weightOf 34 = .ok (.invokevirtual 189, 3) := by decide +kernel
theorem dX9_weightOf_37 : decode cX9_weightOf 37 = .ok (.imul, 1) := by decide +kernel
theorem dX9_weightOf_38 : decode cX9_weightOf 38 = .ok (.goto 4, 3) := by decide +kernel
theorem dX9_weightOf_41 : decode cX9_weightOf 41 = .ok (.iconst 0, 1) := by decide +kernel
theorem dX9_weightOf_42 : decode cX9_weightOf 42 = .ok (.istore 5, 2) := by decide +kernel
theorem dX9_weightOf_44 : decode cX9_weightOf 44 = .ok (.iload_n 3, 1) := by decide +kernel
theorem dX9_weightOf_45 : decode cX9_weightOf 45 = .ok (.aload_n 0, 1) := by decide +kernel
theorem dX9_weightOf_46 : decode cX9_weightOf 46 = .ok (.iload 4, 2) := by decide +kernel
theorem dX9_weightOf_48 : decode cX9_weightOf 48 = .ok (.invokevirtual 193, 3) := by decide +kernel
theorem dX9_weightOf_51 : decode cX9_weightOf 51 = .ok (.ifCond .eq 9, 3) := by decide +kernel
theorem dX9_weightOf_54 : decode cX9_weightOf 54 = .ok (.iload 5, 2) := by decide +kernel
theorem dX9_weightOf_56 : decode cX9_weightOf 56 = .ok (.ineg, 1) := by decide +kernel
theorem dX9_weightOf_57 : decode cX9_weightOf 57 = .ok (.goto 5, 3) := by decide +kernel
theorem dX9_weightOf_60 : decode cX9_weightOf 60 = .ok (.iload 5, 2) := by decide +kernel
theorem dX9_weightOf_62 : decode cX9_weightOf 62 = .ok (.iadd, 1) := by decide +kernel
theorem dX9_weightOf_63 : decode cX9_weightOf 63 = .ok (.istore_n 3, 1) := by decide +kernel
theorem dX9_weightOf_64 : decode cX9_weightOf 64 = .ok (.iinc 4 1, 3) := by decide +kernel
theorem dX9_weightOf_67 : decode cX9_weightOf 67 = .ok (.goto (-62), 3) := by decide +kernel
theorem dX9_weightOf_70 : decode cX9_weightOf 70 = .ok (.iload_n 3, 1) := by decide +kernel
theorem dX9_weightOf_71 : decode cX9_weightOf 71 = .ok (.ireturn, 1) := by decide +kernel
theorem dX9_friendsOf_0 : decode cX9_friendsOf 0 = .ok (.iconst 0, 1) := by decide +kernel
theorem dX9_friendsOf_1 : decode cX9_friendsOf 1 = .ok (.istore_n 2, 1) := by decide +kernel
theorem dX9_friendsOf_2 : decode cX9_friendsOf 2 = .ok (.iconst 0, 1) := by decide +kernel
theorem dX9_friendsOf_3 : decode cX9_friendsOf 3 = .ok (.istore_n 3, 1) := by decide +kernel
theorem dX9_friendsOf_4 : decode cX9_friendsOf 4 = .ok (.iload_n 3, 1) := by decide +kernel
theorem dX9_friendsOf_5 : decode cX9_friendsOf 5 = .ok (.aload_n 0, 1) := by decide +kernel
theorem dX9_friendsOf_6 : decode cX9_friendsOf 6 = .ok (.getfield 169, 3) := by decide +kernel
theorem dX9_friendsOf_9 : decode cX9_friendsOf 9 = .ok (.if_icmp .ge 71, 3) := by decide +kernel
theorem dX9_friendsOf_12 : decode cX9_friendsOf 12 = .ok (.iload_n 2, 1) := by decide +kernel
theorem dX9_friendsOf_13 : decode cX9_friendsOf 13 = .ok (.aload_n 0, 1) := by decide +kernel
theorem dX9_friendsOf_14 : decode cX9_friendsOf 14 = .ok (.getfield 29, 3) := by decide +kernel
theorem dX9_friendsOf_17 : decode cX9_friendsOf 17 = .ok (.iconst 2, 1) := by decide +kernel
theorem dX9_friendsOf_18 : decode cX9_friendsOf 18 = .ok (.iload_n 3, 1) := by decide +kernel
theorem dX9_friendsOf_19 : decode cX9_friendsOf 19 = .ok (.imul, 1) := by decide +kernel
theorem dX9_friendsOf_20 : decode cX9_friendsOf 20 = .ok (.iaload, 1) := by decide +kernel
theorem dX9_friendsOf_21 : decode cX9_friendsOf 21 = .ok (.iload_n 1, 1) := by decide +kernel
theorem dX9_friendsOf_22 : decode cX9_friendsOf 22 = .ok (.if_icmp .ne 18, 3) := by decide +kernel
theorem dX9_friendsOf_25 : decode cX9_friendsOf 25 = .ok (.iconst 1, 1) := by decide +kernel
theorem dX9_friendsOf_26 : decode cX9_friendsOf 26 = .ok (.aload_n 0, 1) := by decide +kernel
theorem dX9_friendsOf_27 : decode cX9_friendsOf 27 = .ok (.getfield 29, 3) := by decide +kernel
theorem dX9_friendsOf_30 : decode cX9_friendsOf 30 = .ok (.iconst 2, 1) := by decide +kernel
theorem dX9_friendsOf_31 : decode cX9_friendsOf 31 = .ok (.iload_n 3, 1) := by decide +kernel
theorem dX9_friendsOf_32 : decode cX9_friendsOf 32 = .ok (.imul, 1) := by decide +kernel
theorem dX9_friendsOf_33 : decode cX9_friendsOf 33 = .ok (.iconst 1, 1) := by decide +kernel
theorem dX9_friendsOf_34 : decode cX9_friendsOf 34 = .ok (.iadd, 1) := by decide +kernel
theorem dX9_friendsOf_35 : decode cX9_friendsOf 35 = .ok (.iaload, 1) := by decide +kernel
theorem dX9_friendsOf_36 : decode cX9_friendsOf 36 = .ok (.ishl, 1) := by decide +kernel
theorem dX9_friendsOf_37 : decode cX9_friendsOf 37 = .ok (.goto 4, 3) := by decide +kernel
theorem dX9_friendsOf_40 : decode cX9_friendsOf 40 = .ok (.iconst 0, 1) := by decide +kernel
theorem dX9_friendsOf_41 : decode cX9_friendsOf 41 = .ok (.ior, 1) := by decide +kernel
theorem dX9_friendsOf_42 : decode cX9_friendsOf 42 = .ok (.istore_n 2, 1) := by decide +kernel
theorem dX9_friendsOf_43 : decode cX9_friendsOf 43 = .ok (.iload_n 2, 1) := by decide +kernel
theorem dX9_friendsOf_44 : decode cX9_friendsOf 44 = .ok (.aload_n 0, 1) := by decide +kernel
theorem dX9_friendsOf_45 : decode cX9_friendsOf 45 = .ok (.getfield 29, 3) := by decide +kernel
theorem dX9_friendsOf_48 : decode cX9_friendsOf 48 = .ok (.iconst 2, 1) := by decide +kernel
theorem dX9_friendsOf_49 : decode cX9_friendsOf 49 = .ok (.iload_n 3, 1) := by decide +kernel
theorem dX9_friendsOf_50 : decode cX9_friendsOf 50 = .ok (.imul, 1) := by decide +kernel
theorem dX9_friendsOf_51 : decode cX9_friendsOf 51 = .ok (.iconst 1, 1) := by decide +kernel
theorem dX9_friendsOf_52 : decode cX9_friendsOf 52 = .ok (.iadd, 1) := by decide +kernel
theorem dX9_friendsOf_53 : decode cX9_friendsOf 53 = .ok (.iaload, 1) := by decide +kernel
theorem dX9_friendsOf_54 : decode cX9_friendsOf 54 = .ok (.iload_n 1, 1) := by decide +kernel
theorem dX9_friendsOf_55 : decode cX9_friendsOf 55 = .ok (.if_icmp .ne 16, 3) := by decide +kernel
theorem dX9_friendsOf_58 : decode cX9_friendsOf 58 = .ok (.iconst 1, 1) := by decide +kernel
theorem dX9_friendsOf_59 : decode cX9_friendsOf 59 = .ok (.aload_n 0, 1) := by decide +kernel
theorem dX9_friendsOf_60 : decode cX9_friendsOf 60 = .ok (.getfield 29, 3) := by decide +kernel
theorem dX9_friendsOf_63 : decode cX9_friendsOf 63 = .ok (.iconst 2, 1) := by decide +kernel
theorem dX9_friendsOf_64 : decode cX9_friendsOf 64 = .ok (.iload_n 3, 1) := by decide +kernel
theorem dX9_friendsOf_65 : decode cX9_friendsOf 65 = .ok (.imul, 1) := by decide +kernel
theorem dX9_friendsOf_66 : decode cX9_friendsOf 66 = .ok (.iaload, 1) := by decide +kernel
theorem dX9_friendsOf_67 : decode cX9_friendsOf 67 = .ok (.ishl, 1) := by decide +kernel
theorem dX9_friendsOf_68 : decode cX9_friendsOf 68 = .ok (.goto 4, 3) := by decide +kernel
theorem dX9_friendsOf_71 : decode cX9_friendsOf 71 = .ok (.iconst 0, 1) := by decide +kernel
theorem dX9_friendsOf_72 : decode cX9_friendsOf 72 = .ok (.ior, 1) := by decide +kernel
theorem dX9_friendsOf_73 : decode cX9_friendsOf 73 = .ok (.istore_n 2, 1) := by decide +kernel
theorem dX9_friendsOf_74 : decode cX9_friendsOf 74 = .ok (.iinc 3 1, 3) := by decide +kernel
theorem dX9_friendsOf_77 : decode cX9_friendsOf 77 = .ok (.goto (-73), 3) := by decide +kernel
theorem dX9_friendsOf_80 : decode cX9_friendsOf 80 = .ok (.iload_n 2, 1) := by decide +kernel
theorem dX9_friendsOf_81 : decode cX9_friendsOf 81 = .ok (.ireturn, 1) := by decide +kernel
theorem dX9_copy_0 : decode cX9_copy 0 = .ok (.iconst 0, 1) := by decide +kernel
theorem dX9_copy_1 : decode cX9_copy 1 = .ok (.istore 4, 2) := by decide +kernel
theorem dX9_copy_3 : decode cX9_copy 3 = .ok (.iload 4, 2) := by decide +kernel
theorem dX9_copy_5 : decode cX9_copy 5 = .ok (.bipush 58, 2) := by decide +kernel
theorem dX9_copy_7 : decode cX9_copy 7 = .ok (.if_icmp .ge 21, 3) := by decide +kernel
theorem dX9_copy_10 : decode cX9_copy 10 = .ok (.aload_n 2, 1) := by decide +kernel
theorem dX9_copy_11 : decode cX9_copy 11 = .ok (.iload_n 3, 1) := by decide +kernel
theorem dX9_copy_12 : decode cX9_copy 12 = .ok (.iload 4, 2) := by decide +kernel
theorem dX9_copy_14 : decode cX9_copy 14 = .ok (.iadd, 1) := by decide +kernel
theorem dX9_copy_15 : decode cX9_copy 15 = .ok (.aload_n 0, 1) := by decide +kernel
theorem dX9_copy_16 : decode cX9_copy 16 = .ok (.iload_n 1, 1) := by decide +kernel
theorem dX9_copy_17 : decode cX9_copy 17 = .ok (.iload 4, 2) := by decide +kernel
theorem dX9_copy_19 : decode cX9_copy 19 = .ok (.iadd, 1) := by decide +kernel
theorem dX9_copy_20 : decode cX9_copy 20 = .ok (.iaload, 1) := by decide +kernel
theorem dX9_copy_21 : decode cX9_copy 21 = .ok (.iastore, 1) := by decide +kernel
theorem dX9_copy_22 : decode cX9_copy 22 = .ok (.iinc 4 1, 3) := by decide +kernel
theorem dX9_copy_25 : decode cX9_copy 25 = .ok (.goto (-22), 3) := by decide +kernel
theorem dX9_copy_28 : decode cX9_copy 28 = .ok (.return_, 1) := by decide +kernel
theorem dX9_tells_0 : decode cX9_tells 0 = .ok (.aload_n 0, 1) := by decide +kernel
theorem dX9_tells_1 : decode cX9_tells 1 = .ok (.iload_n 1, 1) := by decide +kernel
theorem dX9_tells_2 : decode cX9_tells 2 = .ok (.invokevirtual 196, 3) := by decide +kernel
theorem dX9_tells_5 : decode cX9_tells 5 = .ok (.istore_n 2, 1) := by decide +kernel
theorem dX9_tells_6 : decode cX9_tells 6 = .ok (.iconst 0, 1) := by decide +kernel
theorem dX9_tells_7 : decode cX9_tells 7 = .ok (.istore_n 3, 1) := by decide +kernel
theorem dX9_tells_8 : decode cX9_tells 8 = .ok (.iload_n 3, 1) := by decide +kernel
theorem dX9_tells_9 : decode cX9_tells 9 = .ok (.aload_n 0, 1) := by decide +kernel
theorem dX9_tells_10 : decode cX9_tells 10 = .ok (.getfield 83, 3) := by decide +kernel
theorem dX9_tells_13 : decode cX9_tells 13 = .ok (.if_icmp .ge 84, 3) := by decide +kernel
theorem dX9_tells_16 : decode cX9_tells 16 = .ok (.aload_n 0, 1) := by decide +kernel
theorem dX9_tells_17 : decode cX9_tells 17 = .ok (.getfield 41, 3) := by decide +kernel
theorem dX9_tells_20 : decode cX9_tells 20 = .ok (.iload_n 1, 1) := by decide +kernel
theorem dX9_tells_21 : decode cX9_tells 21 = .ok (.iload_n 3, 1) := by decide +kernel
theorem dX9_tells_22 : decode cX9_tells 22 = .ok (.invokestatic 178, 3) := by decide +kernel
theorem dX9_tells_25 : decode cX9_tells 25 = .ok (.ifCond .eq 19, 3) := by decide +kernel
theorem dX9_tells_28 : decode cX9_tells 28 = .ok (.iload_n 2, 1) := by decide +kernel
theorem dX9_tells_29 : decode cX9_tells 29 = .ok (.aload_n 0, 1) := by decide +kernel
theorem dX9_tells_30 : decode cX9_tells 30 = .ok (.aload_n 0, 1) := by decide +kernel
theorem dX9_tells_31 : decode cX9_tells 31 = .ok (.getfield 41, 3) := by decide +kernel
theorem dX9_tells_34 : decode cX9_tells 34 = .ok (.iload_n 3, 1) := by decide +kernel
theorem dX9_tells_35 : decode cX9_tells 35 = .ok (.invokevirtual 199, 3) := by decide +kernel
theorem dX9_tells_38 : decode cX9_tells 38 = .ok (.iconst (-1), 1) := by decide +kernel
theorem dX9_tells_39 : decode cX9_tells 39 = .ok (.ixor, 1) := by decide +kernel
theorem dX9_tells_40 : decode cX9_tells 40 = .ok (.iand, 1) := by decide +kernel
theorem dX9_tells_41 : decode cX9_tells 41 = .ok (.goto 4, 3) := by decide +kernel
theorem dX9_tells_44 : decode cX9_tells 44 = .ok (.iconst 0, 1) := by decide +kernel
theorem dX9_tells_45 : decode cX9_tells 45 = .ok (.istore 4, 2) := by decide +kernel
theorem dX9_tells_47 : decode cX9_tells 47 = .ok (.iload 4, 2) := by decide +kernel
theorem dX9_tells_49 : decode cX9_tells 49 = .ok (.ifCond .eq 42, 3) := by decide +kernel
theorem dX9_tells_52 : decode cX9_tells 52 = .ok (.iconst 0, 1) := by decide +kernel
theorem dX9_tells_53 : decode cX9_tells 53 = .ok (.istore 5, 2) := by decide +kernel
theorem dX9_tells_55 : decode cX9_tells 55 = .ok (.iload 4, 2) := by decide +kernel
theorem dX9_tells_57 : decode cX9_tells 57 = .ok (.iload 5, 2) := by decide +kernel
theorem dX9_tells_59 : decode cX9_tells 59 = .ok (.invokestatic 136, 3) := by decide +kernel
theorem dX9_tells_62 : decode cX9_tells 62 = .ok (.ifCond .ne 9, 3) := by decide +kernel
theorem dX9_tells_65 : decode cX9_tells 65 = .ok (.iinc 5 1, 3) := by decide +kernel
theorem dX9_tells_68 : decode cX9_tells 68 = .ok (.goto (-13), 3) := by decide +kernel
theorem dX9_tells_71 : decode cX9_tells 71 = .ok (.aload_n 0, 1) := by decide +kernel
theorem dX9_tells_72 : decode cX9_tells 72 = .ok (.getfield 38, 3) := by decide +kernel
theorem dX9_tells_75 : decode cX9_tells 75 = .ok (.bipush 8, 2) := by decide +kernel
theorem dX9_tells_77 : decode cX9_tells 77 = .ok (.iload 5, 2) := by decide +kernel
theorem dX9_tells_79 : decode cX9_tells 79 = .ok (.imul, 1) := by decide +kernel
theorem dX9_tells_80 : decode cX9_tells 80 = .ok (.iload_n 3, 1) := by decide +kernel
theorem dX9_tells_81 : decode cX9_tells 81 = .ok (.iadd, 1) := by decide +kernel
theorem dX9_tells_82 : decode cX9_tells 82 = .ok (.aload_n 0, 1) := by decide +kernel
theorem dX9_tells_83 : decode cX9_tells 83 = .ok (.getfield 38, 3) := by decide +kernel
theorem dX9_tells_86 : decode cX9_tells 86 = .ok (.bipush 56, 2) := by decide +kernel
theorem dX9_tells_88 : decode cX9_tells 88 = .ok (.iaload, 1) := by decide +kernel
theorem dX9_tells_89 : decode cX9_tells 89 = .ok (.iastore, 1) := by decide +kernel
theorem dX9_tells_90 : decode cX9_tells 90 = .ok (.return_, 1) := by decide +kernel
theorem dX9_tells_91 : decode cX9_tells 91 = .ok (.iinc 3 1, 3) := by decide +kernel
theorem dX9_tells_94 : decode cX9_tells 94 = .ok (.goto (-86), 3) := by decide +kernel
theorem dX9_tells_97 : decode cX9_tells 97 = .ok (.return_, 1) := by decide +kernel
theorem dX9_pass_0 : decode cX9_pass 0 = .ok (.aload_n 0, 1) := by decide +kernel
theorem dX9_pass_1 : decode cX9_pass 1 = .ok (.getfield 38, 3) := by decide +kernel
theorem dX9_pass_4 : decode cX9_pass 4 = .ok (.bipush 56, 2) := by decide +kernel
theorem dX9_pass_6 : decode cX9_pass 6 = .ok (.dup2, 1) := by decide +kernel
theorem dX9_pass_7 : decode cX9_pass 7 = .ok (.iaload, 1) := by decide +kernel
theorem dX9_pass_8 : decode cX9_pass 8 = .ok (.iconst 1, 1) := by decide +kernel
theorem dX9_pass_9 : decode cX9_pass 9 = .ok (.iadd, 1) := by decide +kernel
theorem dX9_pass_10 : decode cX9_pass 10 = .ok (.iastore, 1) := by decide +kernel
theorem dX9_pass_11 : decode cX9_pass 11 = .ok (.iconst 0, 1) := by decide +kernel
theorem dX9_pass_12 : decode cX9_pass 12 = .ok (.istore_n 1, 1) := by decide +kernel
theorem dX9_pass_13 : decode cX9_pass 13 = .ok (.iload_n 1, 1) := by decide +kernel
theorem dX9_pass_14 : decode cX9_pass 14 = .ok (.bipush 56, 2) := by decide +kernel
theorem dX9_pass_16 : decode cX9_pass 16 = .ok (.if_icmp .ge 63, 3) := by decide +kernel
theorem dX9_pass_19 : decode cX9_pass 19 = .ok (.aload_n 0, 1) := by decide +kernel
theorem dX9_pass_20 : decode cX9_pass 20 = .ok (.getfield 38, 3) := by decide +kernel
theorem dX9_pass_23 : decode cX9_pass 23 = .ok (.iload_n 1, 1) := by decide +kernel
theorem dX9_pass_24 : decode cX9_pass 24 = .ok (.aload_n 0, 1) := by decide +kernel
theorem dX9_pass_25 : decode cX9_pass 25 = .ok (.getfield 175, 3) := by decide +kernel
theorem dX9_pass_28 : decode cX9_pass 28 = .ok (.ifCond .le 38, 3) := by decide +kernel
theorem dX9_pass_31 : decode cX9_pass 31 = .ok (.aload_n 0, 1) := by decide +kernel
theorem dX9_pass_32 : decode cX9_pass 32 = .ok (.getfield 38, 3) := by decide +kernel
theorem dX9_pass_35 : decode cX9_pass 35 = .ok (.iload_n 1, 1) := by decide +kernel
theorem dX9_pass_36 : decode cX9_pass 36 = .ok (.iaload, 1) := by decide +kernel
theorem dX9_pass_37 : decode cX9_pass 37 = .ok (.iconst (-1), 1) := by decide +kernel
theorem dX9_pass_38 : decode cX9_pass 38 = .ok (.if_icmp .eq 28, 3) := by decide +kernel
theorem dX9_pass_41 : decode cX9_pass 41 = .ok (.aload_n 0, 1) := by decide +kernel
theorem dX9_pass_42 : decode cX9_pass 42 = .ok (.getfield 38, 3) := by decide +kernel
theorem dX9_pass_45 : decode cX9_pass 45 = .ok (.bipush 56, 2) := by decide +kernel
theorem dX9_pass_47 : decode cX9_pass 47 = .ok (.iaload, 1) := by decide +kernel
theorem dX9_pass_48 : decode cX9_pass 48 = .ok (.aload_n 0, 1) := by decide +kernel
theorem dX9_pass_49 : decode cX9_pass 49 = .ok (.getfield 38, 3) := by decide +kernel
theorem dX9_pass_52 : decode cX9_pass 52 = .ok (.iload_n 1, 1) := by decide +kernel
theorem dX9_pass_53 : decode cX9_pass 53 = .ok (.iaload, 1) := by decide +kernel
theorem dX9_pass_54 : decode cX9_pass 54 = .ok (.isub, 1) := by decide +kernel
theorem dX9_pass_55 : decode cX9_pass 55 = .ok (.aload_n 0, 1) := by decide +kernel
theorem dX9_pass_56 : decode cX9_pass 56 = .ok (.getfield 175, 3) := by decide +kernel
theorem dX9_pass_59 : decode cX9_pass 59 = .ok (.if_icmp .lt 7, 3) := by decide +kernel
theorem dX9_pass_62 : decode cX9_pass 62 = .ok (.iconst (-1), 1) := by decide +kernel
theorem dX9_pass_63 : decode cX9_pass 63 = .ok (.goto 9, 3) := by decide +kernel
theorem dX9_pass_66 : decode cX9_pass 66 = .ok (.aload_n 0, 1) := by decide +kernel
theorem dX9_pass_67 : decode cX9_pass 67 = .ok (.getfield 38, 3) := by decide +kernel
theorem dX9_pass_70 : decode cX9_pass 70 = .ok (.iload_n 1, 1) := by decide +kernel
theorem dX9_pass_71 : decode cX9_pass 71 = .ok (.iaload, 1) := by decide +kernel
theorem dX9_pass_72 : decode cX9_pass 72 = .ok (.iastore, 1) := by decide +kernel
theorem dX9_pass_73 : decode cX9_pass 73 = .ok (.iinc 1 1, 3) := by decide +kernel
theorem dX9_pass_76 : decode cX9_pass 76 = .ok (.goto (-63), 3) := by decide +kernel
theorem dX9_pass_79 : decode cX9_pass 79 = .ok (.aload_n 0, 1) := by decide +kernel
theorem dX9_pass_80 : decode cX9_pass 80 = .ok (.getfield 38, 3) := by decide +kernel
theorem dX9_pass_83 : decode cX9_pass 83 = .ok (.iconst 0, 1) := by decide +kernel
theorem dX9_pass_84 : decode cX9_pass 84 = .ok (.aload_n 0, 1) := by decide +kernel
theorem dX9_pass_85 : decode cX9_pass 85 = .ok (.getfield 41, 3) := by decide +kernel
theorem dX9_pass_88 : decode cX9_pass 88 = .ok (.iconst 0, 1) := by decide +kernel
theorem dX9_pass_89 : decode cX9_pass 89 = .ok (.invokestatic 202, 3) := by decide +kernel
theorem dX9_pass_92 : decode cX9_pass 92 = .ok (.iconst 0, 1) := by decide +kernel
theorem dX9_pass_93 : decode cX9_pass 93 = .ok (.istore_n 1, 1) := by decide +kernel
theorem dX9_pass_94 : decode cX9_pass 94 = .ok (.iload_n 1, 1) := by decide +kernel
theorem dX9_pass_95 : decode cX9_pass 95 = .ok (.aload_n 0, 1) := by decide +kernel
theorem dX9_pass_96 : decode cX9_pass 96 = .ok (.getfield 76, 3) := by decide +kernel
theorem dX9_pass_99 : decode cX9_pass 99 = .ok (.if_icmp .ge 25, 3) := by decide +kernel
theorem dX9_pass_102 : decode cX9_pass 102 = .ok (.aload_n 0, 1) := by decide +kernel
theorem dX9_pass_103 : decode cX9_pass 103 = .ok (.getfield 172, 3) := by decide +kernel
theorem dX9_pass_106 : decode cX9_pass 106 = .ok (.iload_n 1, 1) := by decide +kernel
theorem dX9_pass_107 : decode cX9_pass 107 = .ok (.invokestatic 136, 3) := by decide +kernel
theorem dX9_pass_110 : decode cX9_pass 110 = .ok (.ifCond .ne 8, 3) := by decide +kernel
theorem dX9_pass_113 : decode cX9_pass 113 = .ok (.aload_n 0, 1) := by decide +kernel
theorem dX9_pass_114 : decode cX9_pass 114 = .ok (.iload_n 1, 1) := by decide +kernel
theorem dX9_pass_115 : decode cX9_pass 115 = .ok (.invokevirtual 206, 3) := by decide +kernel
theorem dX9_pass_118 : decode cX9_pass 118 = .ok (.iinc 1 1, 3) := by decide +kernel
theorem dX9_pass_121 : decode cX9_pass 121 = .ok (.goto (-27), 3) := by decide +kernel
theorem dX9_pass_124 : decode cX9_pass 124 = .ok (.return_, 1) := by decide +kernel
theorem dX9_told_0 : decode cX9_told 0 = .ok (.iconst 0, 1) := by decide +kernel
theorem dX9_told_1 : decode cX9_told 1 = .ok (.istore_n 2, 1) := by decide +kernel
theorem dX9_told_2 : decode cX9_told 2 = .ok (.iconst 0, 1) := by decide +kernel
theorem dX9_told_3 : decode cX9_told 3 = .ok (.istore_n 3, 1) := by decide +kernel
theorem dX9_told_4 : decode cX9_told 4 = .ok (.iload_n 3, 1) := by decide +kernel
theorem dX9_told_5 : decode cX9_told 5 = .ok (.aload_n 0, 1) := by decide +kernel
theorem dX9_told_6 : decode cX9_told 6 = .ok (.getfield 83, 3) := by decide +kernel
theorem dX9_told_9 : decode cX9_told 9 = .ok (.if_icmp .ge 21, 3) := by decide +kernel
theorem dX9_told_12 : decode cX9_told 12 = .ok (.iload_n 2, 1) := by decide +kernel
theorem dX9_told_13 : decode cX9_told 13 = .ok (.aload_n 0, 1) := by decide +kernel
theorem dX9_told_14 : decode cX9_told 14 = .ok (.aload_n 0, 1) := by decide +kernel
theorem dX9_told_15 : decode cX9_told 15 = .ok (.getfield 35, 3) := by decide +kernel
theorem dX9_told_18 : decode cX9_told 18 = .ok (.iload_n 3, 1) := by decide +kernel
theorem dX9_told_19 : decode cX9_told 19 = .ok (.invokevirtual 189, 3) := by decide +kernel
theorem dX9_told_22 : decode cX9_told 22 = .ok (.iadd, 1) := by decide +kernel
theorem dX9_told_23 : decode cX9_told 23 = .ok (.istore_n 2, 1) := by decide +kernel
theorem dX9_told_24 : decode cX9_told 24 = .ok (.iinc 3 1, 3) := by decide +kernel
theorem dX9_told_27 : decode cX9_told 27 = .ok (.goto (-23), 3) := by decide +kernel
theorem dX9_told_30 : decode cX9_told 30 = .ok (.iload_n 1, 1) := by decide +kernel
theorem dX9_told_31 : decode cX9_told 31 = .ok (.tableswitch 103 0 9 #[53, 58, 63, 68, 73, 78, 83, 91, 96, 98], 53) := by decide +kernel
theorem dX9_told_84 : decode cX9_told 84 = .ok (.aload_n 0, 1) := by decide +kernel
theorem dX9_told_85 : decode cX9_told 85 = .ok (.getfield 76, 3) := by decide +kernel
theorem dX9_told_88 : decode cX9_told 88 = .ok (.ireturn, 1) := by decide +kernel
theorem dX9_told_89 : decode cX9_told 89 = .ok (.aload_n 0, 1) := by decide +kernel
theorem dX9_told_90 : decode cX9_told 90 = .ok (.getfield 83, 3) := by decide +kernel
theorem dX9_told_93 : decode cX9_told 93 = .ok (.ireturn, 1) := by decide +kernel
theorem dX9_told_94 : decode cX9_told 94 = .ok (.aload_n 0, 1) := by decide +kernel
theorem dX9_told_95 : decode cX9_told 95 = .ok (.getfield 169, 3) := by decide +kernel
theorem dX9_told_98 : decode cX9_told 98 = .ok (.ireturn, 1) := by decide +kernel
theorem dX9_told_99 : decode cX9_told 99 = .ok (.aload_n 0, 1) := by decide +kernel
theorem dX9_told_100 : decode cX9_told 100 = .ok (.getfield 86, 3) := by decide +kernel
theorem dX9_told_103 : decode cX9_told 103 = .ok (.ireturn, 1) := by decide +kernel
theorem dX9_told_104 : decode cX9_told 104 = .ok (.aload_n 0, 1) := by decide +kernel
theorem dX9_told_105 : decode cX9_told 105 = .ok (.getfield 175, 3) := by decide +kernel
theorem dX9_told_108 : decode cX9_told 108 = .ok (.ireturn, 1) := by decide +kernel
theorem dX9_told_109 : decode cX9_told 109 = .ok (.aload_n 0, 1) := by decide +kernel
theorem dX9_told_110 : decode cX9_told 110 = .ok (.getfield 90, 3) := by decide +kernel
theorem dX9_told_113 : decode cX9_told 113 = .ok (.ireturn, 1) := by decide +kernel
theorem dX9_told_114 : decode cX9_told 114 = .ok (.aload_n 0, 1) := by decide +kernel
theorem dX9_told_115 : decode cX9_told 115 = .ok (.getfield 35, 3) := by decide +kernel
theorem dX9_told_118 : decode cX9_told 118 = .ok (.bipush 56, 2) := by decide +kernel
theorem dX9_told_120 : decode cX9_told 120 = .ok (.iaload, 1) := by decide +kernel
theorem dX9_told_121 : decode cX9_told 121 = .ok (.ireturn, 1) := by decide +kernel
theorem dX9_told_122 : decode cX9_told 122 = .ok (.aload_n 0, 1) := by decide +kernel
theorem dX9_told_123 : decode cX9_told 123 = .ok (.getfield 172, 3) := by decide +kernel
theorem dX9_told_126 : decode cX9_told 126 = .ok (.ireturn, 1) := by decide +kernel
theorem dX9_told_127 : decode cX9_told 127 = .ok (.iload_n 2, 1) := by decide +kernel
theorem dX9_told_128 : decode cX9_told 128 = .ok (.ireturn, 1) := by decide +kernel
theorem dX9_told_129 : decode cX9_told 129 = .ok (.aload_n 0, 1) := by decide +kernel
theorem dX9_told_130 : decode cX9_told 130 = .ok (.getfield 73, 3) := by decide +kernel
theorem dX9_told_133 : decode cX9_told 133 = .ok (.ireturn, 1) := by decide +kernel
theorem dX9_told_134 : decode cX9_told 134 = .ok (.ldc 89, 2) := by decide +kernel
theorem dX9_told_136 : decode cX9_told 136 = .ok (.ireturn, 1) := by decide +kernel
theorem dX9_fact_0 : decode cX9_fact 0 = .ok (.aload_n 0, 1) := by decide +kernel
theorem dX9_fact_1 : decode cX9_fact 1 = .ok (.iload_n 1, 1) := by decide +kernel
theorem dX9_fact_2 : decode cX9_fact 2 = .ok (.invokevirtual 210, 3) := by decide +kernel
theorem dX9_fact_5 : decode cX9_fact 5 = .ok (.ifCond .ne 6, 3) := by decide +kernel
theorem dX9_fact_8 : decode cX9_fact 8 = .ok (.ldc 213, 2) := by decide +kernel
theorem dX9_fact_10 : decode cX9_fact 10 = .ok (.ireturn, 1) := by decide +kernel
theorem dX9_fact_11 : decode cX9_fact 11 = .ok (.iload_n 2, 1) := by decide +kernel
theorem dX9_fact_12 : decode cX9_fact 12 = .ok (.tableswitch 67 0 4 #[36, 36, 36, 47, 57], 36) := by decide +kernel
theorem dX9_fact_48 : decode cX9_fact 48 = .ok (.aload_n 0, 1) := by decide +kernel
theorem dX9_fact_49 : decode cX9_fact 49 = .ok (.getfield 26, 3) := by decide +kernel
theorem dX9_fact_52 : decode cX9_fact 52 = .ok (.iconst 4, 1) := by decide +kernel
theorem dX9_fact_53 : decode cX9_fact 53 = .ok (.iload_n 1, 1) := by decide +kernel
theorem dX9_fact_54 : decode cX9_fact 54 = .ok (.imul, 1) := by decide +kernel
theorem dX9_fact_55 : decode cX9_fact 55 = .ok (.iload_n 2, 1) := by decide +kernel
theorem dX9_fact_56 : decode cX9_fact 56 = .ok (.iadd, 1) := by decide +kernel
theorem dX9_fact_57 : decode cX9_fact 57 = .ok (.iaload, 1) := by decide +kernel
theorem dX9_fact_58 : decode cX9_fact 58 = .ok (.ireturn, 1) := by decide +kernel
theorem dX9_fact_59 : decode cX9_fact 59 = .ok (.aload_n 0, 1) := by decide +kernel
theorem dX9_fact_60 : decode cX9_fact 60 = .ok (.aload_n 0, 1) := by decide +kernel
theorem dX9_fact_61 : decode cX9_fact 61 = .ok (.getfield 35, 3) := by decide +kernel
theorem dX9_fact_64 : decode cX9_fact 64 = .ok (.iload_n 1, 1) := by decide +kernel
theorem dX9_fact_65 : decode cX9_fact 65 = .ok (.invokevirtual 199, 3) := by decide +kernel
theorem dX9_fact_68 : decode cX9_fact 68 = .ok (.ireturn, 1) := by decide +kernel
theorem dX9_fact_69 : decode cX9_fact 69 = .ok (.aload_n 0, 1) := by decide +kernel
theorem dX9_fact_70 : decode cX9_fact 70 = .ok (.aload_n 0, 1) := by decide +kernel
theorem dX9_fact_71 : decode cX9_fact 71 = .ok (.getfield 35, 3) := by decide +kernel
theorem dX9_fact_74 : decode cX9_fact 74 = .ok (.iload_n 1, 1) := by decide +kernel
theorem dX9_fact_75 : decode cX9_fact 75 = .ok (.invokevirtual 189, 3) := by decide +kernel
theorem dX9_fact_78 : decode cX9_fact 78 = .ok (.ireturn, 1) := by decide +kernel
theorem dX9_fact_79 : decode cX9_fact 79 = .ok (.ldc 89, 2) := by decide +kernel
theorem dX9_fact_81 : decode cX9_fact 81 = .ok (.ireturn, 1) := by decide +kernel
theorem dX9_person_0 : decode cX9_person 0 = .ok (.aload_n 0, 1) := by decide +kernel
theorem dX9_person_1 : decode cX9_person 1 = .ok (.iload_n 1, 1) := by decide +kernel
theorem dX9_person_2 : decode cX9_person 2 = .ok (.invokevirtual 214, 3) := by decide +kernel
theorem dX9_person_5 : decode cX9_person 5 = .ok (.ifCond .ne 6, 3) := by decide +kernel
theorem dX9_person_8 : decode cX9_person 8 = .ok (.ldc 213, 2) := by decide +kernel
theorem dX9_person_10 : decode cX9_person 10 = .ok (.ireturn, 1) := by decide +kernel
theorem dX9_person_11 : decode cX9_person 11 = .ok (.iconst 0, 1) := by decide +kernel
theorem dX9_person_12 : decode cX9_person 12 = .ok (.istore_n 3, 1) := by decide +kernel
theorem dX9_person_13 : decode cX9_person 13 = .ok (.iconst 0, 1) := by decide +kernel
theorem dX9_person_14 : decode cX9_person 14 = .ok (.istore 4, 2) := by decide +kernel
theorem dX9_person_16 : decode cX9_person 16 = .ok (.iconst 0, 1) := by decide +kernel
theorem dX9_person_17 : decode cX9_person 17 = .ok (.istore 5, 2) := by decide +kernel
theorem dX9_person_19 : decode cX9_person 19 = .ok (.iload 5, 2) := by decide +kernel
theorem dX9_person_21 : decode cX9_person 21 = .ok (.aload_n 0, 1) := by decide +kernel
theorem dX9_person_22 : decode cX9_person 22 = .ok (.getfield 83, 3) := by decide +kernel
theorem dX9_person_25 : decode cX9_person 25 = .ok (.if_icmp .ge 56, 3) := by decide +kernel
theorem dX9_person_28 : decode cX9_person 28 = .ok (.iload_n 3, 1) := by decide +kernel
theorem dX9_person_29 : decode cX9_person 29 = .ok (.aload_n 0, 1) := by decide +kernel
theorem dX9_person_30 : decode cX9_person 30 = .ok (.iload 5, 2) := by decide +kernel
theorem dX9_person_32 : decode cX9_person 32 = .ok (.invokevirtual 182, 3) := by decide +kernel
theorem dX9_person_35 : decode cX9_person 35 = .ok (.iload_n 1, 1) := by decide +kernel
theorem dX9_person_36 : decode cX9_person 36 = .ok (.if_icmp .ne 10, 3) := by decide +kernel
theorem dX9_person_39 : decode cX9_person 39 = .ok (.iconst 1, 1) := by decide +kernel
theorem dX9_person_40 : decode cX9_person 40 = .ok (.iload 5, 2) := by decide +kernel
theorem dX9_person_42 : decode cX9_person 42 = .ok (.ishl, 1) := by decide +kernel
theorem dX9_person_43 : decode cX9_person 43 = .ok (.goto 4, 3) := by decide +kernel
theorem dX9_person_46 : decode cX9_person 46 = .ok (.iconst 0, 1) := by decide +kernel
theorem dX9_person_47 : decode cX9_person 47 = .ok (.ior, 1) := by decide +kernel
theorem dX9_person_48 : decode cX9_person 48 = .ok (.istore_n 3, 1) := by decide +kernel
theorem dX9_person_49 : decode cX9_person 49 = .ok (.iload 4, 2) := by decide +kernel
theorem dX9_person_51 : decode cX9_person 51 = .ok (.aload_n 0, 1) := by decide +kernel
theorem dX9_person_52 : decode cX9_person 52 = .ok (.getfield 35, 3) := by decide +kernel
theorem dX9_person_55 : decode cX9_person 55 = .ok (.iload_n 1, 1) := by decide +kernel
theorem dX9_person_56 : decode cX9_person 56 = .ok (.iload 5, 2) := by decide +kernel
theorem dX9_person_58 : decode cX9_person 58 = .ok (.invokestatic 178, 3) := by decide +kernel
theorem dX9_person_61 : decode cX9_person 61 = .ok (.ifCond .eq 10, 3) := by decide +kernel
theorem dX9_person_64 : decode cX9_person 64 = .ok (.iconst 1, 1) := by decide +kernel
theorem dX9_person_65 : decode cX9_person 65 = .ok (.iload 5, 2) := by decide +kernel
theorem dX9_person_67 : decode cX9_person 67 = .ok (.ishl, 1) := by decide +kernel
theorem dX9_person_68 : decode cX9_person 68 = .ok (.goto 4, 3) := by decide +kernel
theorem dX9_person_71 : decode cX9_person 71 = .ok (.iconst 0, 1) := by decide +kernel
theorem dX9_person_72 : decode cX9_person 72 = .ok (.ior, 1) := by decide +kernel
theorem dX9_person_73 : decode cX9_person 73 = .ok (.istore 4, 2) := by decide +kernel
theorem dX9_person_75 : decode cX9_person 75 = .ok (.iinc 5 1, 3) := by decide +kernel
theorem dX9_person_78 : decode cX9_person 78 = .ok (.goto (-59), 3) := by decide +kernel
theorem dX9_person_81 : decode cX9_person 81 = .ok (.iload_n 2, 1) := by decide +kernel
theorem dX9_person_82 : decode cX9_person 82 = .ok (.tableswitch 50 0 3 #[30, 36, 38, 41], 30) := by decide +kernel
theorem dX9_person_112 : decode cX9_person 112 = .ok (.aload_n 0, 1) := by decide +kernel
theorem dX9_person_113 : decode cX9_person 113 = .ok (.iload_n 1, 1) := by decide +kernel
theorem dX9_person_114 : decode cX9_person 114 = .ok (.invokevirtual 196, 3) := by decide +kernel
theorem dX9_person_117 : decode cX9_person 117 = .ok (.ireturn, 1) := by decide +kernel
theorem dX9_person_118 : decode cX9_person 118 = .ok (.iload_n 3, 1) := by decide +kernel
theorem dX9_person_119 : decode cX9_person 119 = .ok (.ireturn, 1) := by decide +kernel
theorem dX9_person_120 : decode cX9_person 120 = .ok (.iload 4, 2) := by decide +kernel
theorem dX9_person_122 : decode cX9_person 122 = .ok (.ireturn, 1) := by decide +kernel
theorem dX9_person_123 : decode cX9_person 123 = .ok (.aload_n 0, 1) := by decide +kernel
theorem dX9_person_124 : decode cX9_person 124 = .ok (.getfield 172, 3) := by decide +kernel
theorem dX9_person_127 : decode cX9_person 127 = .ok (.iload_n 1, 1) := by decide +kernel
theorem dX9_person_128 : decode cX9_person 128 = .ok (.ishr, 1) := by decide +kernel
theorem dX9_person_129 : decode cX9_person 129 = .ok (.iconst 1, 1) := by decide +kernel
theorem dX9_person_130 : decode cX9_person 130 = .ok (.iand, 1) := by decide +kernel
theorem dX9_person_131 : decode cX9_person 131 = .ok (.ireturn, 1) := by decide +kernel
theorem dX9_person_132 : decode cX9_person 132 = .ok (.ldc 89, 2) := by decide +kernel
theorem dX9_person_134 : decode cX9_person 134 = .ok (.ireturn, 1) := by decide +kernel
theorem dX9_since_0 : decode cX9_since 0 = .ok (.aload_n 0, 1) := by decide +kernel
theorem dX9_since_1 : decode cX9_since 1 = .ok (.iload_n 1, 1) := by decide +kernel
theorem dX9_since_2 : decode cX9_since 2 = .ok (.invokevirtual 214, 3) := by decide +kernel
theorem dX9_since_5 : decode cX9_since 5 = .ok (.ifCond .eq 25, 3) := by decide +kernel
theorem dX9_since_8 : decode cX9_since 8 = .ok (.aload_n 0, 1) := by decide +kernel
theorem dX9_since_9 : decode cX9_since 9 = .ok (.iload_n 2, 1) := by decide +kernel
theorem dX9_since_10 : decode cX9_since 10 = .ok (.invokevirtual 210, 3) := by decide +kernel
theorem dX9_since_13 : decode cX9_since 13 = .ok (.ifCond .eq 17, 3) := by decide +kernel
theorem dX9_since_16 : decode cX9_since 16 = .ok (.aload_n 0, 1) := by decide +kernel
theorem dX9_since_17 : decode cX9_since 17 = .ok (.getfield 35, 3) := by decide +kernel
theorem dX9_since_20 : decode cX9_since 20 = .ok (.bipush 8, 2) := by decide +kernel
theorem dX9_since_22 : decode cX9_since 22 = .ok (.iload_n 1, 1) := by decide +kernel
theorem dX9_since_23 : decode cX9_since 23 = .ok (.imul, 1) := by decide +kernel
theorem dX9_since_24 : decode cX9_since 24 = .ok (.iload_n 2, 1) := by decide +kernel
theorem dX9_since_25 : decode cX9_since 25 = .ok (.iadd, 1) := by decide +kernel
theorem dX9_since_26 : decode cX9_since 26 = .ok (.iaload, 1) := by decide +kernel
theorem dX9_since_27 : decode cX9_since 27 = .ok (.goto 5, 3) := by decide +kernel
theorem dX9_since_30 : decode cX9_since 30 = .ok (.ldc 213, 2) := by decide +kernel
theorem dX9_since_32 : decode cX9_since 32 = .ok (.ireturn, 1) := by decide +kernel
theorem dX9_weight_0 : decode cX9_weight 0 = .ok (.aload_n 0, 1) := by decide +kernel
theorem dX9_weight_1 : decode cX9_weight 1 = .ok (.iload_n 1, 1) := by decide +kernel
theorem dX9_weight_2 : decode cX9_weight 2 = .ok (.invokevirtual 214, 3) := by decide +kernel
theorem dX9_weight_5 : decode cX9_weight 5 = .ok (.ifCond .eq 15, 3) := by decide +kernel
theorem dX9_weight_8 : decode cX9_weight 8 = .ok (.aload_n 0, 1) := by decide +kernel
theorem dX9_weight_9 : decode cX9_weight 9 = .ok (.aload_n 0, 1) := by decide +kernel
theorem dX9_weight_10 : decode cX9_weight 10 = .ok (.getfield 35, 3) := by decide +kernel
theorem dX9_weight_13 : decode cX9_weight 13 = .ok (.iload_n 1, 1) := by decide +kernel
theorem dX9_weight_14 : decode cX9_weight 14 = .ok (.invokevirtual 217, 3) := by decide +kernel
theorem dX9_weight_17 : decode cX9_weight 17 = .ok (.goto 5, 3) := by decide +kernel
theorem dX9_weight_20 : decode cX9_weight 20 = .ok (.ldc 213, 2) := by decide +kernel
theorem dX9_weight_22 : decode cX9_weight 22 = .ok (.ireturn, 1) := by decide +kernel
theorem dX9_bridge_0 : decode cX9_bridge 0 = .ok (.aload_n 0, 1) := by decide +kernel
theorem dX9_bridge_1 : decode cX9_bridge 1 = .ok (.iload_n 1, 1) := by decide +kernel
theorem dX9_bridge_2 : decode cX9_bridge 2 = .ok (.invokevirtual 220, 3) := by decide +kernel
theorem dX9_bridge_5 : decode cX9_bridge 5 = .ok (.ifCond .eq 12, 3) := by decide +kernel
theorem dX9_bridge_8 : decode cX9_bridge 8 = .ok (.aload_n 0, 1) := by decide +kernel
theorem dX9_bridge_9 : decode cX9_bridge 9 = .ok (.getfield 32, 3) := by decide +kernel
theorem dX9_bridge_12 : decode cX9_bridge 12 = .ok (.iload_n 1, 1) := by decide +kernel
theorem dX9_bridge_13 : decode cX9_bridge 13 = .ok (.iaload, 1) := by decide +kernel
theorem dX9_bridge_14 : decode cX9_bridge 14 = .ok (.goto 5, 3) := by decide +kernel
theorem dX9_bridge_17 : decode cX9_bridge 17 = .ok (.ldc 213, 2) := by decide +kernel
theorem dX9_bridge_19 : decode cX9_bridge 19 = .ok (.ireturn, 1) := by decide +kernel
theorem dX9_tell_0 : decode cX9_tell 0 = .ok (.aload_n 0, 1) := by decide +kernel
theorem dX9_tell_1 : decode cX9_tell 1 = .ok (.iload_n 1, 1) := by decide +kernel
theorem dX9_tell_2 : decode cX9_tell 2 = .ok (.invokevirtual 214, 3) := by decide +kernel
theorem dX9_tell_5 : decode cX9_tell 5 = .ok (.ifCond .eq 11, 3) := by decide +kernel
theorem dX9_tell_8 : decode cX9_tell 8 = .ok (.aload_n 0, 1) := by decide +kernel
theorem dX9_tell_9 : decode cX9_tell 9 = .ok (.iload_n 2, 1) := by decide +kernel
theorem dX9_tell_10 : decode cX9_tell 10 = .ok (.invokevirtual 210, 3) := by decide +kernel
theorem dX9_tell_13 : decode cX9_tell 13 = .ok (.ifCond .ne 6, 3) := by decide +kernel
theorem dX9_tell_16 : decode cX9_tell 16 = .ok (.ldc 213, 2) := by decide +kernel
theorem dX9_tell_18 : decode cX9_tell 18 = .ok (.ireturn, 1) := by decide +kernel
theorem dX9_tell_19 : decode cX9_tell 19 = .ok (.aload_n 0, 1) := by decide +kernel
theorem dX9_tell_20 : decode cX9_tell 20 = .ok (.getfield 35, 3) := by decide +kernel
theorem dX9_tell_23 : decode cX9_tell 23 = .ok (.iload_n 1, 1) := by decide +kernel
theorem dX9_tell_24 : decode cX9_tell 24 = .ok (.iload_n 2, 1) := by decide +kernel
theorem dX9_tell_25 : decode cX9_tell 25 = .ok (.invokestatic 178, 3) := by decide +kernel
theorem dX9_tell_28 : decode cX9_tell 28 = .ok (.ifCond .eq 6, 3) := by decide +kernel
theorem dX9_tell_31 : decode cX9_tell 31 = .ok (.ldc 223, 2) := by decide +kernel
theorem dX9_tell_33 : decode cX9_tell 33 = .ok (.ireturn, 1) := by decide +kernel
theorem dX9_tell_34 : decode cX9_tell 34 = .ok (.aload_n 0, 1) := by decide +kernel
theorem dX9_tell_35 : decode cX9_tell 35 = .ok (.getfield 35, 3) := by decide +kernel
theorem dX9_tell_38 : decode cX9_tell 38 = .ok (.bipush 8, 2) := by decide +kernel
theorem dX9_tell_40 : decode cX9_tell 40 = .ok (.iload_n 1, 1) := by decide +kernel
theorem dX9_tell_41 : decode cX9_tell 41 = .ok (.imul, 1) := by decide +kernel
theorem dX9_tell_42 : decode cX9_tell 42 = .ok (.iload_n 2, 1) := by decide +kernel
theorem dX9_tell_43 : decode cX9_tell 43 = .ok (.iadd, 1) := by decide +kernel
theorem dX9_tell_44 : decode cX9_tell 44 = .ok (.aload_n 0, 1) := by decide +kernel
theorem dX9_tell_45 : decode cX9_tell 45 = .ok (.getfield 35, 3) := by decide +kernel
theorem dX9_tell_48 : decode cX9_tell 48 = .ok (.bipush 56, 2) := by decide +kernel
theorem dX9_tell_50 : decode cX9_tell 50 = .ok (.iaload, 1) := by decide +kernel
theorem dX9_tell_51 : decode cX9_tell 51 = .ok (.iastore, 1) := by decide +kernel
theorem dX9_tell_52 : decode cX9_tell 52 = .ok (.aload_n 0, 1) := by decide +kernel
theorem dX9_tell_53 : decode cX9_tell 53 = .ok (.aload_n 0, 1) := by decide +kernel
theorem dX9_tell_54 : decode cX9_tell 54 = .ok (.getfield 35, 3) := by decide +kernel
theorem dX9_tell_57 : decode cX9_tell 57 = .ok (.iload_n 2, 1) := by decide +kernel
theorem dX9_tell_58 : decode cX9_tell 58 = .ok (.invokevirtual 189, 3) := by decide +kernel
theorem dX9_tell_61 : decode cX9_tell 61 = .ok (.ireturn, 1) := by decide +kernel
theorem dX9_forget_0 : decode cX9_forget 0 = .ok (.aload_n 0, 1) := by decide +kernel
theorem dX9_forget_1 : decode cX9_forget 1 = .ok (.iload_n 1, 1) := by decide +kernel
theorem dX9_forget_2 : decode cX9_forget 2 = .ok (.invokevirtual 214, 3) := by decide +kernel
theorem dX9_forget_5 : decode cX9_forget 5 = .ok (.ifCond .eq 11, 3) := by decide +kernel
theorem dX9_forget_8 : decode cX9_forget 8 = .ok (.aload_n 0, 1) := by decide +kernel
theorem dX9_forget_9 : decode cX9_forget 9 = .ok (.iload_n 2, 1) := by decide +kernel
theorem dX9_forget_10 : decode cX9_forget 10 = .ok (.invokevirtual 210, 3) := by decide +kernel
theorem dX9_forget_13 : decode cX9_forget 13 = .ok (.ifCond .ne 6, 3) := by decide +kernel
theorem dX9_forget_16 : decode cX9_forget 16 = .ok (.ldc 213, 2) := by decide +kernel
theorem dX9_forget_18 : decode cX9_forget 18 = .ok (.ireturn, 1) := by decide +kernel
theorem dX9_forget_19 : decode cX9_forget 19 = .ok (.aload_n 0, 1) := by decide +kernel
theorem dX9_forget_20 : decode cX9_forget 20 = .ok (.getfield 35, 3) := by decide +kernel
theorem dX9_forget_23 : decode cX9_forget 23 = .ok (.iload_n 1, 1) := by decide +kernel
theorem dX9_forget_24 : decode cX9_forget 24 = .ok (.iload_n 2, 1) := by decide +kernel
theorem dX9_forget_25 : decode cX9_forget 25 = .ok (.invokestatic 178, 3) := by decide +kernel
theorem dX9_forget_28 : decode cX9_forget 28 = .ok (.ifCond .ne 6, 3) := by decide +kernel
theorem dX9_forget_31 : decode cX9_forget 31 = .ok (.ldc 223, 2) := by decide +kernel
theorem dX9_forget_33 : decode cX9_forget 33 = .ok (.ireturn, 1) := by decide +kernel
theorem dX9_forget_34 : decode cX9_forget 34 = .ok (.aload_n 0, 1) := by decide +kernel
theorem dX9_forget_35 : decode cX9_forget 35 = .ok (.getfield 35, 3) := by decide +kernel
theorem dX9_forget_38 : decode cX9_forget 38 = .ok (.bipush 8, 2) := by decide +kernel
theorem dX9_forget_40 : decode cX9_forget 40 = .ok (.iload_n 1, 1) := by decide +kernel
theorem dX9_forget_41 : decode cX9_forget 41 = .ok (.imul, 1) := by decide +kernel
theorem dX9_forget_42 : decode cX9_forget 42 = .ok (.iload_n 2, 1) := by decide +kernel
theorem dX9_forget_43 : decode cX9_forget 43 = .ok (.iadd, 1) := by decide +kernel
theorem dX9_forget_44 : decode cX9_forget 44 = .ok (.iconst (-1), 1) := by decide +kernel
theorem dX9_forget_45 : decode cX9_forget 45 = .ok (.iastore, 1) := by decide +kernel
theorem dX9_forget_46 : decode cX9_forget 46 = .ok (.aload_n 0, 1) := by decide +kernel
theorem dX9_forget_47 : decode cX9_forget 47 = .ok (.aload_n 0, 1) := by decide +kernel
theorem dX9_forget_48 : decode cX9_forget 48 = .ok (.getfield 35, 3) := by decide +kernel
theorem dX9_forget_51 : decode cX9_forget 51 = .ok (.iload_n 2, 1) := by decide +kernel
theorem dX9_forget_52 : decode cX9_forget 52 = .ok (.invokevirtual 189, 3) := by decide +kernel
theorem dX9_forget_55 : decode cX9_forget 55 = .ok (.ireturn, 1) := by decide +kernel
theorem dX9_barred_0 : decode cX9_barred 0 = .ok (.iload_n 1, 1) := by decide +kernel
theorem dX9_barred_1 : decode cX9_barred 1 = .ok (.iconst 1, 1) := by decide +kernel
theorem dX9_barred_2 : decode cX9_barred 2 = .ok (.bipush 99, 2) := by decide +kernel
theorem dX9_barred_4 : decode cX9_barred 4 = .ok (.invokestatic 79, 3) := by decide +kernel
theorem dX9_barred_7 : decode cX9_barred 7 = .ok (.ifCond .ne 8, 3) := by decide +kernel
theorem dX9_barred_10 : decode cX9_barred 10 = .ok (.ldc 89, 2) := by decide +kernel
theorem dX9_barred_12 : decode cX9_barred 12 = .ok (.goto 33, 3) := by decide +kernel
theorem dX9_barred_15 : decode cX9_barred 15 = .ok (.aload_n 0, 1) := by decide +kernel
theorem dX9_barred_16 : decode cX9_barred 16 = .ok (.getfield 76, 3) := by decide +kernel
theorem dX9_barred_19 : decode cX9_barred 19 = .ok (.ifCond .ne 8, 3) := by decide +kernel
theorem dX9_barred_22 : decode cX9_barred 22 = .ok (.ldc 223, 2) := by decide +kernel
theorem dX9_barred_24 : decode cX9_barred 24 = .ok (.goto 21, 3) := by decide +kernel
theorem dX9_barred_27 : decode cX9_barred 27 = .ok (.aload_n 0, 1) := by decide +kernel
theorem dX9_barred_28 : decode cX9_barred 28 = .ok (.getfield 35, 3) := by decide +kernel
theorem dX9_barred_31 : decode cX9_barred 31 = .ok (.bipush 56, 2) := by decide +kernel
theorem dX9_barred_33 : decode cX9_barred 33 = .ok (.iaload, 1) := by decide +kernel
theorem dX9_barred_34 : decode cX9_barred 34 = .ok (.ldc 224, 2) := by decide +kernel
theorem dX9_barred_36 : decode cX9_barred 36 = .ok (.if_icmp .le 8, 3) := by decide +kernel
theorem dX9_barred_39 : decode cX9_barred 39 = .ok (.ldc 93, 2) := by decide +kernel
theorem dX9_barred_41 : decode cX9_barred 41 = .ok (.goto 4, 3) := by decide +kernel
theorem dX9_barred_44 : decode cX9_barred 44 = .ok (.iconst 0, 1) := by decide +kernel
theorem dX9_barred_45 : decode cX9_barred 45 = .ok (.ireturn, 1) := by decide +kernel
theorem dX9_hour_0 : decode cX9_hour 0 = .ok (.aload_n 0, 1) := by decide +kernel
theorem dX9_hour_1 : decode cX9_hour 1 = .ok (.iload_n 1, 1) := by decide +kernel
theorem dX9_hour_2 : decode cX9_hour 2 = .ok (.invokevirtual 225, 3) := by decide +kernel
theorem dX9_hour_5 : decode cX9_hour 5 = .ok (.istore_n 2, 1) := by decide +kernel
theorem dX9_hour_6 : decode cX9_hour 6 = .ok (.iload_n 2, 1) := by decide +kernel
theorem dX9_hour_7 : decode cX9_hour 7 = .ok (.ifCond .ge 5, 3) := by decide +kernel
theorem dX9_hour_10 : decode cX9_hour 10 = .ok (.iload_n 2, 1) := by decide +kernel
theorem dX9_hour_11 : decode cX9_hour 11 = .ok (.ireturn, 1) := by decide +kernel
theorem dX9_hour_12 : decode cX9_hour 12 = .ok (.aload_n 0, 1) := by decide +kernel
theorem dX9_hour_13 : decode cX9_hour 13 = .ok (.getfield 35, 3) := by decide +kernel
theorem dX9_hour_16 : decode cX9_hour 16 = .ok (.iconst 0, 1) := by decide +kernel
theorem dX9_hour_17 : decode cX9_hour 17 = .ok (.aload_n 0, 1) := by decide +kernel
theorem dX9_hour_18 : decode cX9_hour 18 = .ok (.getfield 38, 3) := by decide +kernel
theorem dX9_hour_21 : decode cX9_hour 21 = .ok (.iconst 0, 1) := by decide +kernel
theorem dX9_hour_22 : decode cX9_hour 22 = .ok (.invokestatic 202, 3) := by decide +kernel
theorem dX9_hour_25 : decode cX9_hour 25 = .ok (.iconst 0, 1) := by decide +kernel
theorem dX9_hour_26 : decode cX9_hour 26 = .ok (.istore_n 3, 1) := by decide +kernel
theorem dX9_hour_27 : decode cX9_hour 27 = .ok (.iload_n 3, 1) := by decide +kernel
theorem dX9_hour_28 : decode cX9_hour 28 = .ok (.iload_n 1, 1) := by decide +kernel
end
section
theorem dX9_hour_29 : decode cX9_hour 29 = .ok (.if_icmp .ge 13, 3) := by decide +kernel
theorem dX9_hour_32 : decode cX9_hour 32 = .ok (.aload_n 0, 1) := by decide +kernel
theorem dX9_hour_33 : decode cX9_hour 33 = .ok (.invokevirtual 228, 3) := by decide +kernel
theorem dX9_hour_36 : decode cX9_hour 36 = .ok (.iinc 3 1, 3) := by decide +kernel
theorem dX9_hour_39 : decode cX9_hour 39 = .ok (.goto (-12), 3) := by decide +kernel
theorem dX9_hour_42 : decode cX9_hour 42 = .ok (.aload_n 0, 1) := by decide +kernel
theorem dX9_hour_43 : decode cX9_hour 43 = .ok (.getfield 38, 3) := by decide +kernel
theorem dX9_hour_46 : decode cX9_hour 46 = .ok (.iconst 0, 1) := by decide +kernel
theorem dX9_hour_47 : decode cX9_hour 47 = .ok (.aload_n 0, 1) := by decide +kernel
theorem dX9_hour_48 : decode cX9_hour 48 = .ok (.getfield 35, 3) := by decide +kernel
theorem dX9_hour_51 : decode cX9_hour 51 = .ok (.iconst 0, 1) := by decide +kernel
theorem dX9_hour_52 : decode cX9_hour 52 = .ok (.invokestatic 202, 3) := by decide +kernel
theorem dX9_hour_55 : decode cX9_hour 55 = .ok (.aload_n 0, 1) := by decide +kernel
theorem dX9_hour_56 : decode cX9_hour 56 = .ok (.getfield 35, 3) := by decide +kernel
theorem dX9_hour_59 : decode cX9_hour 59 = .ok (.bipush 56, 2) := by decide +kernel
theorem dX9_hour_61 : decode cX9_hour 61 = .ok (.iaload, 1) := by decide +kernel
theorem dX9_hour_62 : decode cX9_hour 62 = .ok (.ireturn, 1) := by decide +kernel
theorem dX9_draw_0 : decode cX9_draw 0 = .ok (.aload_n 0, 1) := by decide +kernel
theorem dX9_draw_1 : decode cX9_draw 1 = .ok (.getfield 38, 3) := by decide +kernel
theorem dX9_draw_4 : decode cX9_draw 4 = .ok (.bipush 57, 2) := by decide +kernel
theorem dX9_draw_6 : decode cX9_draw 6 = .ok (.aload_n 0, 1) := by decide +kernel
theorem dX9_draw_7 : decode cX9_draw 7 = .ok (.getfield 38, 3) := by decide +kernel
theorem dX9_draw_10 : decode cX9_draw 10 = .ok (.bipush 57, 2) := by decide +kernel
theorem dX9_draw_12 : decode cX9_draw 12 = .ok (.iaload, 1) := by decide +kernel
theorem dX9_draw_13 : decode cX9_draw 13 = .ok (.i2l, 1) := by decide +kernel
theorem dX9_draw_14 : decode cX9_draw 14 = .ok (.ldc2_w 231, 3) := by decide +kernel
theorem dX9_draw_17 : decode cX9_draw 17 = .ok (.lmul, 1) := by decide +kernel
theorem dX9_draw_18 : decode cX9_draw 18 = .ok (.ldc2_w 233, 3) := by decide +kernel
theorem dX9_draw_21 : decode cX9_draw 21 = .ok (.ladd, 1) := by decide +kernel
theorem dX9_draw_22 : decode cX9_draw 22 = .ok (.ldc2_w 235, 3) := by decide +kernel
theorem dX9_draw_25 : decode cX9_draw 25 = .ok (.lrem, 1) := by decide +kernel
theorem dX9_draw_26 : decode cX9_draw 26 = .ok (.l2i, 1) := by decide +kernel
theorem dX9_draw_27 : decode cX9_draw 27 = .ok (.iastore, 1) := by decide +kernel
theorem dX9_draw_28 : decode cX9_draw 28 = .ok (.aload_n 0, 1) := by decide +kernel
theorem dX9_draw_29 : decode cX9_draw 29 = .ok (.getfield 38, 3) := by decide +kernel
theorem dX9_draw_32 : decode cX9_draw 32 = .ok (.bipush 57, 2) := by decide +kernel
theorem dX9_draw_34 : decode cX9_draw 34 = .ok (.iaload, 1) := by decide +kernel
theorem dX9_draw_35 : decode cX9_draw 35 = .ok (.ldc 237, 2) := by decide +kernel
theorem dX9_draw_37 : decode cX9_draw 37 = .ok (.idiv, 1) := by decide +kernel
theorem dX9_draw_38 : decode cX9_draw 38 = .ok (.iload_n 1, 1) := by decide +kernel
theorem dX9_draw_39 : decode cX9_draw 39 = .ok (.irem, 1) := by decide +kernel
theorem dX9_draw_40 : decode cX9_draw 40 = .ok (.ireturn, 1) := by decide +kernel
theorem dX9_drift_0 : decode cX9_drift 0 = .ok (.aload_n 0, 1) := by decide +kernel
theorem dX9_drift_1 : decode cX9_drift 1 = .ok (.iload_n 1, 1) := by decide +kernel
theorem dX9_drift_2 : decode cX9_drift 2 = .ok (.invokevirtual 225, 3) := by decide +kernel
theorem dX9_drift_5 : decode cX9_drift 5 = .ok (.istore_n 2, 1) := by decide +kernel
theorem dX9_drift_6 : decode cX9_drift 6 = .ok (.iload_n 2, 1) := by decide +kernel
theorem dX9_drift_7 : decode cX9_drift 7 = .ok (.ifCond .ge 5, 3) := by decide +kernel
theorem dX9_drift_10 : decode cX9_drift 10 = .ok (.iload_n 2, 1) := by decide +kernel
theorem dX9_drift_11 : decode cX9_drift 11 = .ok (.ireturn, 1) := by decide +kernel
theorem dX9_drift_12 : decode cX9_drift 12 = .ok (.aload_n 0, 1) := by decide +kernel
theorem dX9_drift_13 : decode cX9_drift 13 = .ok (.getfield 35, 3) := by decide +kernel
theorem dX9_drift_16 : decode cX9_drift 16 = .ok (.iconst 0, 1) := by decide +kernel
theorem dX9_drift_17 : decode cX9_drift 17 = .ok (.aload_n 0, 1) := by decide +kernel
theorem dX9_drift_18 : decode cX9_drift 18 = .ok (.getfield 38, 3) := by decide +kernel
theorem dX9_drift_21 : decode cX9_drift 21 = .ok (.iconst 0, 1) := by decide +kernel
theorem dX9_drift_22 : decode cX9_drift 22 = .ok (.invokestatic 202, 3) := by decide +kernel
theorem dX9_drift_25 : decode cX9_drift 25 = .ok (.iconst 0, 1) := by decide +kernel
theorem dX9_drift_26 : decode cX9_drift 26 = .ok (.istore_n 3, 1) := by decide +kernel
theorem dX9_drift_27 : decode cX9_drift 27 = .ok (.iload_n 3, 1) := by decide +kernel
theorem dX9_drift_28 : decode cX9_drift 28 = .ok (.iload_n 1, 1) := by decide +kernel
theorem dX9_drift_29 : decode cX9_drift 29 = .ok (.if_icmp .ge 78, 3) := by decide +kernel
theorem dX9_drift_32 : decode cX9_drift 32 = .ok (.aload_n 0, 1) := by decide +kernel
theorem dX9_drift_33 : decode cX9_drift 33 = .ok (.aload_n 0, 1) := by decide +kernel
theorem dX9_drift_34 : decode cX9_drift 34 = .ok (.getfield 76, 3) := by decide +kernel
theorem dX9_drift_37 : decode cX9_drift 37 = .ok (.invokevirtual 238, 3) := by decide +kernel
theorem dX9_drift_40 : decode cX9_drift 40 = .ok (.istore 4, 2) := by decide +kernel
theorem dX9_drift_42 : decode cX9_drift 42 = .ok (.aload_n 0, 1) := by decide +kernel
theorem dX9_drift_43 : decode cX9_drift 43 = .ok (.getfield 83, 3) := by decide +kernel
theorem dX9_drift_46 : decode cX9_drift 46 = .ok (.ifCond .le 51, 3) := by decide +kernel
theorem dX9_drift_49 : decode cX9_drift 49 = .ok (.aload_n 0, 1) := by decide +kernel
theorem dX9_drift_50 : decode cX9_drift 50 = .ok (.aload_n 0, 1) := by decide +kernel
theorem dX9_drift_51 : decode cX9_drift 51 = .ok (.getfield 83, 3) := by decide +kernel
theorem dX9_drift_54 : decode cX9_drift 54 = .ok (.invokevirtual 238, 3) := by decide +kernel
theorem dX9_drift_57 : decode cX9_drift 57 = .ok (.istore 5, 2) := by decide +kernel
theorem dX9_drift_59 : decode cX9_drift 59 = .ok (.aload_n 0, 1) := by decide +kernel
theorem dX9_drift_60 : decode cX9_drift 60 = .ok (.getfield 38, 3) := by decide +kernel
theorem dX9_drift_63 : decode cX9_drift 63 = .ok (.bipush 8, 2) := by decide +kernel
theorem dX9_drift_65 : decode cX9_drift 65 = .ok (.iload 4, 2) := by decide +kernel
theorem dX9_drift_67 : decode cX9_drift 67 = .ok (.imul, 1) := by decide +kernel
theorem dX9_drift_68 : decode cX9_drift 68 = .ok (.iload 5, 2) := by decide +kernel
theorem dX9_drift_70 : decode cX9_drift 70 = .ok (.iadd, 1) := by decide +kernel
theorem dX9_drift_71 : decode cX9_drift 71 = .ok (.aload_n 0, 1) := by decide +kernel
theorem dX9_drift_72 : decode cX9_drift 72 = .ok (.getfield 38, 3) := by decide +kernel
theorem dX9_drift_75 : decode cX9_drift 75 = .ok (.iload 4, 2) := by decide +kernel
theorem dX9_drift_77 : decode cX9_drift 77 = .ok (.iload 5, 2) := by decide +kernel
theorem dX9_drift_79 : decode cX9_drift 79 = .ok (.invokestatic 178, 3) := by decide +kernel
theorem dX9_drift_82 : decode cX9_drift 82 = .ok (.ifCond .eq 7, 3) := by decide +kernel
theorem dX9_drift_85 : decode cX9_drift 85 = .ok (.iconst (-1), 1) := by decide +kernel
theorem dX9_drift_86 : decode cX9_drift 86 = .ok (.goto 10, 3) := by decide +kernel
theorem dX9_drift_89 : decode cX9_drift 89 = .ok (.aload_n 0, 1) := by decide +kernel
theorem dX9_drift_90 : decode cX9_drift 90 = .ok (.getfield 38, 3) := by decide +kernel
theorem dX9_drift_93 : decode cX9_drift 93 = .ok (.bipush 56, 2) := by decide +kernel
theorem dX9_drift_95 : decode cX9_drift 95 = .ok (.iaload, 1) := by decide +kernel
theorem dX9_drift_96 : decode cX9_drift 96 = .ok (.iastore, 1) := by decide +kernel
theorem dX9_drift_97 : decode cX9_drift 97 = .ok (.aload_n 0, 1) := by decide +kernel
theorem dX9_drift_98 : decode cX9_drift 98 = .ok (.invokevirtual 228, 3) := by decide +kernel
theorem dX9_drift_101 : decode cX9_drift 101 = .ok (.iinc 3 1, 3) := by decide +kernel
theorem dX9_drift_104 : decode cX9_drift 104 = .ok (.goto (-77), 3) := by decide +kernel
theorem dX9_drift_107 : decode cX9_drift 107 = .ok (.aload_n 0, 1) := by decide +kernel
theorem dX9_drift_108 : decode cX9_drift 108 = .ok (.getfield 38, 3) := by decide +kernel
theorem dX9_drift_111 : decode cX9_drift 111 = .ok (.iconst 0, 1) := by decide +kernel
theorem dX9_drift_112 : decode cX9_drift 112 = .ok (.aload_n 0, 1) := by decide +kernel
theorem dX9_drift_113 : decode cX9_drift 113 = .ok (.getfield 35, 3) := by decide +kernel
theorem dX9_drift_116 : decode cX9_drift 116 = .ok (.iconst 0, 1) := by decide +kernel
theorem dX9_drift_117 : decode cX9_drift 117 = .ok (.invokestatic 202, 3) := by decide +kernel
theorem dX9_drift_120 : decode cX9_drift 120 = .ok (.aload_n 0, 1) := by decide +kernel
theorem dX9_drift_121 : decode cX9_drift 121 = .ok (.getfield 35, 3) := by decide +kernel
theorem dX9_drift_124 : decode cX9_drift 124 = .ok (.bipush 56, 2) := by decide +kernel
theorem dX9_drift_126 : decode cX9_drift 126 = .ok (.iaload, 1) := by decide +kernel
theorem dX9_drift_127 : decode cX9_drift 127 = .ok (.ireturn, 1) := by decide +kernel
theorem dX9_heavy_0 : decode cX9_heavy 0 = .ok (.aload_n 0, 1) := by decide +kernel
theorem dX9_heavy_1 : decode cX9_heavy 1 = .ok (.iload_n 1, 1) := by decide +kernel
theorem dX9_heavy_2 : decode cX9_heavy 2 = .ok (.invokevirtual 214, 3) := by decide +kernel
theorem dX9_heavy_5 : decode cX9_heavy 5 = .ok (.ifCond .ne 6, 3) := by decide +kernel
theorem dX9_heavy_8 : decode cX9_heavy 8 = .ok (.ldc 213, 2) := by decide +kernel
theorem dX9_heavy_10 : decode cX9_heavy 10 = .ok (.ireturn, 1) := by decide +kernel
theorem dX9_heavy_11 : decode cX9_heavy 11 = .ok (.iload_n 2, 1) := by decide +kernel
theorem dX9_heavy_12 : decode cX9_heavy 12 = .ok (.iconst 0, 1) := by decide +kernel
theorem dX9_heavy_13 : decode cX9_heavy 13 = .ok (.bipush 99, 2) := by decide +kernel
theorem dX9_heavy_15 : decode cX9_heavy 15 = .ok (.invokestatic 79, 3) := by decide +kernel
theorem dX9_heavy_18 : decode cX9_heavy 18 = .ok (.ifCond .ne 6, 3) := by decide +kernel
theorem dX9_heavy_21 : decode cX9_heavy 21 = .ok (.ldc 89, 2) := by decide +kernel
theorem dX9_heavy_23 : decode cX9_heavy 23 = .ok (.ireturn, 1) := by decide +kernel
theorem dX9_heavy_24 : decode cX9_heavy 24 = .ok (.aload_n 0, 1) := by decide +kernel
theorem dX9_heavy_25 : decode cX9_heavy 25 = .ok (.getfield 35, 3) := by decide +kernel
theorem dX9_heavy_28 : decode cX9_heavy 28 = .ok (.iconst 0, 1) := by decide +kernel
theorem dX9_heavy_29 : decode cX9_heavy 29 = .ok (.aload_n 0, 1) := by decide +kernel
theorem dX9_heavy_30 : decode cX9_heavy 30 = .ok (.getfield 38, 3) := by decide +kernel
theorem dX9_heavy_33 : decode cX9_heavy 33 = .ok (.iconst 0, 1) := by decide +kernel
theorem dX9_heavy_34 : decode cX9_heavy 34 = .ok (.invokestatic 202, 3) := by decide +kernel
theorem dX9_heavy_37 : decode cX9_heavy 37 = .ok (.iconst 0, 1) := by decide +kernel
theorem dX9_heavy_38 : decode cX9_heavy 38 = .ok (.istore_n 3, 1) := by decide +kernel
theorem dX9_heavy_39 : decode cX9_heavy 39 = .ok (.iload_n 3, 1) := by decide +kernel
theorem dX9_heavy_40 : decode cX9_heavy 40 = .ok (.iload_n 2, 1) := by decide +kernel
theorem dX9_heavy_41 : decode cX9_heavy 41 = .ok (.if_icmp .ge 13, 3) := by decide +kernel
theorem dX9_heavy_44 : decode cX9_heavy 44 = .ok (.aload_n 0, 1) := by decide +kernel
theorem dX9_heavy_45 : decode cX9_heavy 45 = .ok (.invokevirtual 228, 3) := by decide +kernel
theorem dX9_heavy_48 : decode cX9_heavy 48 = .ok (.iinc 3 1, 3) := by decide +kernel
theorem dX9_heavy_51 : decode cX9_heavy 51 = .ok (.goto (-12), 3) := by decide +kernel
theorem dX9_heavy_54 : decode cX9_heavy 54 = .ok (.aload_n 0, 1) := by decide +kernel
theorem dX9_heavy_55 : decode cX9_heavy 55 = .ok (.aload_n 0, 1) := by decide +kernel
theorem dX9_heavy_56 : decode cX9_heavy 56 = .ok (.getfield 38, 3) := by decide +kernel
theorem dX9_heavy_59 : decode cX9_heavy 59 = .ok (.iload_n 1, 1) := by decide +kernel
theorem dX9_heavy_60 : decode cX9_heavy 60 = .ok (.invokevirtual 217, 3) := by decide +kernel
theorem dX9_heavy_63 : decode cX9_heavy 63 = .ok (.ireturn, 1) := by decide +kernel
theorem dX9_when_0 : decode cX9_when 0 = .ok (.aload_n 0, 1) := by decide +kernel
theorem dX9_when_1 : decode cX9_when 1 = .ok (.iload_n 1, 1) := by decide +kernel
theorem dX9_when_2 : decode cX9_when 2 = .ok (.invokevirtual 214, 3) := by decide +kernel
theorem dX9_when_5 : decode cX9_when 5 = .ok (.ifCond .eq 11, 3) := by decide +kernel
theorem dX9_when_8 : decode cX9_when 8 = .ok (.aload_n 0, 1) := by decide +kernel
theorem dX9_when_9 : decode cX9_when 9 = .ok (.iload_n 2, 1) := by decide +kernel
theorem dX9_when_10 : decode cX9_when 10 = .ok (.invokevirtual 220, 3) := by decide +kernel
theorem dX9_when_13 : decode cX9_when 13 = .ok (.ifCond .ne 6, 3) := by decide +kernel
theorem dX9_when_16 : decode cX9_when 16 = .ok (.ldc 213, 2) := by decide +kernel
theorem dX9_when_18 : decode cX9_when 18 = .ok (.ireturn, 1) := by decide +kernel
theorem dX9_when_19 : decode cX9_when 19 = .ok (.aload_n 0, 1) := by decide +kernel
theorem dX9_when_20 : decode cX9_when 20 = .ok (.getfield 35, 3) := by decide +kernel
theorem dX9_when_23 : decode cX9_when 23 = .ok (.iconst 0, 1) := by decide +kernel
theorem dX9_when_24 : decode cX9_when 24 = .ok (.aload_n 0, 1) := by decide +kernel
theorem dX9_when_25 : decode cX9_when 25 = .ok (.getfield 38, 3) := by decide +kernel
theorem dX9_when_28 : decode cX9_when 28 = .ok (.iconst 0, 1) := by decide +kernel
theorem dX9_when_29 : decode cX9_when 29 = .ok (.invokestatic 202, 3) := by decide +kernel
theorem dX9_when_32 : decode cX9_when 32 = .ok (.iconst 0, 1) := by decide +kernel
theorem dX9_when_33 : decode cX9_when 33 = .ok (.istore_n 3, 1) := by decide +kernel
theorem dX9_when_34 : decode cX9_when 34 = .ok (.iload_n 3, 1) := by decide +kernel
theorem dX9_when_35 : decode cX9_when 35 = .ok (.bipush 100, 2) := by decide +kernel
theorem dX9_when_37 : decode cX9_when 37 = .ok (.if_icmp .ge 33, 3) := by decide +kernel
theorem dX9_when_40 : decode cX9_when 40 = .ok (.aload_n 0, 1) := by decide +kernel
theorem dX9_when_41 : decode cX9_when 41 = .ok (.aload_n 0, 1) := by decide +kernel
theorem dX9_when_42 : decode cX9_when 42 = .ok (.getfield 38, 3) := by decide +kernel
theorem dX9_when_45 : decode cX9_when 45 = .ok (.iload_n 1, 1) := by decide +kernel
theorem dX9_when_46 : decode cX9_when 46 = .ok (.invokevirtual 217, 3) := by decide +kernel
theorem dX9_when_49 : decode cX9_when 49 = .ok (.aload_n 0, 1) := by decide +kernel
theorem dX9_when_50 : decode cX9_when 50 = .ok (.getfield 32, 3) := by decide +kernel
theorem dX9_when_53 : decode cX9_when 53 = .ok (.iload_n 2, 1) := by decide +kernel
theorem dX9_when_54 : decode cX9_when 54 = .ok (.iaload, 1) := by decide +kernel
theorem dX9_when_55 : decode cX9_when 55 = .ok (.if_icmp .gt 5, 3) := by decide +kernel
theorem dX9_when_58 : decode cX9_when 58 = .ok (.iload_n 3, 1) := by decide +kernel
theorem dX9_when_59 : decode cX9_when 59 = .ok (.ireturn, 1) := by decide +kernel
theorem dX9_when_60 : decode cX9_when 60 = .ok (.aload_n 0, 1) := by decide +kernel
theorem dX9_when_61 : decode cX9_when 61 = .ok (.invokevirtual 228, 3) := by decide +kernel
theorem dX9_when_64 : decode cX9_when 64 = .ok (.iinc 3 1, 3) := by decide +kernel
theorem dX9_when_67 : decode cX9_when 67 = .ok (.goto (-33), 3) := by decide +kernel
theorem dX9_when_70 : decode cX9_when 70 = .ok (.iconst (-1), 1) := by decide +kernel
theorem dX9_when_71 : decode cX9_when 71 = .ok (.ireturn, 1) := by decide +kernel
theorem dX9_least_0 : decode cX9_least 0 = .ok (.aload_n 0, 1) := by decide +kernel
theorem dX9_least_1 : decode cX9_least 1 = .ok (.iload_n 1, 1) := by decide +kernel
theorem dX9_least_2 : decode cX9_least 2 = .ok (.invokevirtual 241, 3) := by decide +kernel
theorem dX9_least_5 : decode cX9_least 5 = .ok (.ifCond .eq 24, 3) := by decide +kernel
theorem dX9_least_8 : decode cX9_least 8 = .ok (.aload_n 0, 1) := by decide +kernel
theorem dX9_least_9 : decode cX9_least 9 = .ok (.iload_n 2, 1) := by decide +kernel
theorem dX9_least_10 : decode cX9_least 10 = .ok (.invokevirtual 220, 3) := by decide +kernel
theorem dX9_least_13 : decode cX9_least 13 = .ok (.ifCond .eq 16, 3) := by decide +kernel
theorem dX9_least_16 : decode cX9_least 16 = .ok (.iload_n 3, 1) := by decide +kernel
theorem dX9_least_17 : decode cX9_least 17 = .ok (.iconst (-1), 1) := by decide +kernel
theorem dX9_least_18 : decode cX9_least 18 = .ok (.if_icmp .eq 14, 3) := by decide +kernel
theorem dX9_least_21 : decode cX9_least 21 = .ok (.aload_n 0, 1) := by decide +kernel
theorem dX9_least_22 : decode cX9_least 22 = .ok (.iload_n 3, 1) := by decide +kernel
theorem dX9_least_23 : decode cX9_least 23 = .ok (.invokevirtual 210, 3) := by decide +kernel
theorem dX9_least_26 : decode cX9_least 26 = .ok (.ifCond .ne 6, 3) := by decide +kernel
theorem dX9_least_29 : decode cX9_least 29 = .ok (.ldc 213, 2) := by decide +kernel
theorem dX9_least_31 : decode cX9_least 31 = .ok (.ireturn, 1) := by decide +kernel
theorem dX9_least_32 : decode cX9_least 32 = .ok (.aload_n 0, 1) := by decide +kernel
theorem dX9_least_33 : decode cX9_least 33 = .ok (.getfield 32, 3) := by decide +kernel
theorem dX9_least_36 : decode cX9_least 36 = .ok (.iload_n 2, 1) := by decide +kernel
theorem dX9_least_37 : decode cX9_least 37 = .ok (.iaload, 1) := by decide +kernel
theorem dX9_least_38 : decode cX9_least 38 = .ok (.ineg, 1) := by decide +kernel
theorem dX9_least_39 : decode cX9_least 39 = .ok (.istore 4, 2) := by decide +kernel
theorem dX9_least_41 : decode cX9_least 41 = .ok (.iconst 0, 1) := by decide +kernel
theorem dX9_least_42 : decode cX9_least 42 = .ok (.istore 5, 2) := by decide +kernel
theorem dX9_least_44 : decode cX9_least 44 = .ok (.iload 5, 2) := by decide +kernel
theorem dX9_least_46 : decode cX9_least 46 = .ok (.aload_n 0, 1) := by decide +kernel
theorem dX9_least_47 : decode cX9_least 47 = .ok (.getfield 76, 3) := by decide +kernel
theorem dX9_least_50 : decode cX9_least 50 = .ok (.if_icmp .ge 37, 3) := by decide +kernel
theorem dX9_least_53 : decode cX9_least 53 = .ok (.iload 4, 2) := by decide +kernel
theorem dX9_least_55 : decode cX9_least 55 = .ok (.iload_n 1, 1) := by decide +kernel
theorem dX9_least_56 : decode cX9_least 56 = .ok (.iload 5, 2) := by decide +kernel
theorem dX9_least_58 : decode cX9_least 58 = .ok (.invokestatic 136, 3) := by decide +kernel
theorem dX9_least_61 : decode cX9_least 61 = .ok (.ifCond .eq 16, 3) := by decide +kernel
theorem dX9_least_64 : decode cX9_least 64 = .ok (.aload_n 0, 1) := by decide +kernel
theorem dX9_least_65 : decode cX9_least 65 = .ok (.aload_n 0, 1) := by decide +kernel
theorem dX9_least_66 : decode cX9_least 66 = .ok (.getfield 35, 3) := by decide +kernel
theorem dX9_least_69 : decode cX9_least 69 = .ok (.iload 5, 2) := by decide +kernel
theorem dX9_least_71 : decode cX9_least 71 = .ok (.invokevirtual 217, 3) := by decide +kernel
theorem dX9_least_74 : decode cX9_least 74 = .ok (.goto 4, 3) := by decide +kernel
theorem dX9_least_77 : decode cX9_least 77 = .ok (.iconst 0, 1) := by decide +kernel
theorem dX9_least_78 : decode cX9_least 78 = .ok (.iadd, 1) := by decide +kernel
theorem dX9_least_79 : decode cX9_least 79 = .ok (.istore 4, 2) := by decide +kernel
theorem dX9_least_81 : decode cX9_least 81 = .ok (.iinc 5 1, 3) := by decide +kernel
theorem dX9_least_84 : decode cX9_least 84 = .ok (.goto (-40), 3) := by decide +kernel
theorem dX9_least_87 : decode cX9_least 87 = .ok (.iconst 0, 1) := by decide +kernel
theorem dX9_least_88 : decode cX9_least 88 = .ok (.istore 5, 2) := by decide +kernel
theorem dX9_least_90 : decode cX9_least 90 = .ok (.iconst 0, 1) := by decide +kernel
theorem dX9_least_91 : decode cX9_least 91 = .ok (.istore 6, 2) := by decide +kernel
theorem dX9_least_93 : decode cX9_least 93 = .ok (.iload 6, 2) := by decide +kernel
theorem dX9_least_95 : decode cX9_least 95 = .ok (.bipush 8, 2) := by decide +kernel
theorem dX9_least_97 : decode cX9_least 97 = .ok (.if_icmp .ge 17, 3) := by decide +kernel
theorem dX9_least_100 : decode cX9_least 100 = .ok (.aload_n 0, 1) := by decide +kernel
theorem dX9_least_101 : decode cX9_least 101 = .ok (.getfield 54, 3) := by decide +kernel
theorem dX9_least_104 : decode cX9_least 104 = .ok (.iload 6, 2) := by decide +kernel
theorem dX9_least_106 : decode cX9_least 106 = .ok (.iconst 0, 1) := by decide +kernel
theorem dX9_least_107 : decode cX9_least 107 = .ok (.iastore, 1) := by decide +kernel
theorem dX9_least_108 : decode cX9_least 108 = .ok (.iinc 6 1, 3) := by decide +kernel
theorem dX9_least_111 : decode cX9_least 111 = .ok (.goto (-18), 3) := by decide +kernel
theorem dX9_least_114 : decode cX9_least 114 = .ok (.bipush 9, 2) := by decide +kernel
theorem dX9_least_116 : decode cX9_least 116 = .ok (.istore 6, 2) := by decide +kernel
theorem dX9_least_118 : decode cX9_least 118 = .ok (.iload 6, 2) := by decide +kernel
theorem dX9_least_120 : decode cX9_least 120 = .ok (.ifCond .le 121, 3) := by decide +kernel
theorem dX9_least_123 : decode cX9_least 123 = .ok (.iconst 0, 1) := by decide +kernel
theorem dX9_least_124 : decode cX9_least 124 = .ok (.istore 7, 2) := by decide +kernel
theorem dX9_least_126 : decode cX9_least 126 = .ok (.iload 7, 2) := by decide +kernel
theorem dX9_least_128 : decode cX9_least 128 = .ok (.aload_n 0, 1) := by decide +kernel
theorem dX9_least_129 : decode cX9_least 129 = .ok (.getfield 83, 3) := by decide +kernel
theorem dX9_least_132 : decode cX9_least 132 = .ok (.if_icmp .ge 103, 3) := by decide +kernel
theorem dX9_least_135 : decode cX9_least 135 = .ok (.aload_n 0, 1) := by decide +kernel
theorem dX9_least_136 : decode cX9_least 136 = .ok (.iload 7, 2) := by decide +kernel
theorem dX9_least_138 : decode cX9_least 138 = .ok (.invokevirtual 186, 3) := by decide +kernel
theorem dX9_least_141 : decode cX9_least 141 = .ok (.iload 6, 2) := by decide +kernel
theorem dX9_least_143 : decode cX9_least 143 = .ok (.if_icmp .ne 29, 3) := by decide +kernel
theorem dX9_least_146 : decode cX9_least 146 = .ok (.aload_n 0, 1) := by decide +kernel
theorem dX9_least_147 : decode cX9_least 147 = .ok (.iload 7, 2) := by decide +kernel
theorem dX9_least_149 : decode cX9_least 149 = .ok (.invokevirtual 193, 3) := by decide +kernel
theorem dX9_least_152 : decode cX9_least 152 = .ok (.ifCond .ne 20, 3) := by decide +kernel
theorem dX9_least_155 : decode cX9_least 155 = .ok (.iload_n 1, 1) := by decide +kernel
theorem dX9_least_156 : decode cX9_least 156 = .ok (.aload_n 0, 1) := by decide +kernel
theorem dX9_least_157 : decode cX9_least 157 = .ok (.iload 7, 2) := by decide +kernel
theorem dX9_least_159 : decode cX9_least 159 = .ok (.invokevirtual 182, 3) := by decide +kernel
theorem dX9_least_162 : decode cX9_least 162 = .ok (.invokestatic 136, 3) := by decide +kernel
theorem dX9_least_165 : decode cX9_least 165 = .ok (.ifCond .eq 7, 3) := by decide +kernel
theorem dX9_least_168 : decode cX9_least 168 = .ok (.iconst 1, 1) := by decide +kernel
theorem dX9_least_169 : decode cX9_least 169 = .ok (.goto 4, 3) := by decide +kernel
theorem dX9_least_172 : decode cX9_least 172 = .ok (.iconst 0, 1) := by decide +kernel
theorem dX9_least_173 : decode cX9_least 173 = .ok (.istore 8, 2) := by decide +kernel
theorem dX9_least_175 : decode cX9_least 175 = .ok (.aload_n 0, 1) := by decide +kernel
theorem dX9_least_176 : decode cX9_least 176 = .ok (.aload_n 0, 1) := by decide +kernel
theorem dX9_least_177 : decode cX9_least 177 = .ok (.getfield 35, 3) := by decide +kernel
theorem dX9_least_180 : decode cX9_least 180 = .ok (.iload 7, 2) := by decide +kernel
theorem dX9_least_182 : decode cX9_least 182 = .ok (.invokevirtual 189, 3) := by decide +kernel
theorem dX9_least_185 : decode cX9_least 185 = .ok (.istore 9, 2) := by decide +kernel
theorem dX9_least_187 : decode cX9_least 187 = .ok (.iload 9, 2) := by decide +kernel
theorem dX9_least_189 : decode cX9_least 189 = .ok (.ifCond .le 40, 3) := by decide +kernel
theorem dX9_least_192 : decode cX9_least 192 = .ok (.iload 8, 2) := by decide +kernel
theorem dX9_least_194 : decode cX9_least 194 = .ok (.ifCond .eq 35, 3) := by decide +kernel
theorem dX9_least_197 : decode cX9_least 197 = .ok (.iload 4, 2) := by decide +kernel
theorem dX9_least_199 : decode cX9_least 199 = .ok (.ifCond .le 30, 3) := by decide +kernel
theorem dX9_least_202 : decode cX9_least 202 = .ok (.aload_n 0, 1) := by decide +kernel
theorem dX9_least_203 : decode cX9_least 203 = .ok (.getfield 54, 3) := by decide +kernel
theorem dX9_least_206 : decode cX9_least 206 = .ok (.iload 7, 2) := by decide +kernel
theorem dX9_least_208 : decode cX9_least 208 = .ok (.dup2, 1) := by decide +kernel
theorem dX9_least_209 : decode cX9_least 209 = .ok (.iaload, 1) := by decide +kernel
theorem dX9_least_210 : decode cX9_least 210 = .ok (.iconst 1, 1) := by decide +kernel
theorem dX9_least_211 : decode cX9_least 211 = .ok (.iadd, 1) := by decide +kernel
theorem dX9_least_212 : decode cX9_least 212 = .ok (.iastore, 1) := by decide +kernel
theorem dX9_least_213 : decode cX9_least 213 = .ok (.iinc 5 1, 3) := by decide +kernel
theorem dX9_least_216 : decode cX9_least 216 = .ok (.iload 4, 2) := by decide +kernel
theorem dX9_least_218 : decode cX9_least 218 = .ok (.iload 6, 2) := by decide +kernel
theorem dX9_least_220 : decode cX9_least 220 = .ok (.isub, 1) := by decide +kernel
theorem dX9_least_221 : decode cX9_least 221 = .ok (.istore 4, 2) := by decide +kernel
theorem dX9_least_223 : decode cX9_least 223 = .ok (.iinc 9 (-1), 3) := by decide +kernel
theorem dX9_least_226 : decode cX9_least 226 = .ok (.goto (-39), 3) := by decide +kernel
theorem dX9_least_229 : decode cX9_least 229 = .ok (.iinc 7 1, 3) := by decide +kernel
theorem dX9_least_232 : decode cX9_least 232 = .ok (.goto (-106), 3) := by decide +kernel
theorem dX9_least_235 : decode cX9_least 235 = .ok (.iinc 6 (-1), 3) := by decide +kernel
theorem dX9_least_238 : decode cX9_least 238 = .ok (.goto (-120), 3) := by decide +kernel
theorem dX9_least_241 : decode cX9_least 241 = .ok (.iload 4, 2) := by decide +kernel
theorem dX9_least_243 : decode cX9_least 243 = .ok (.ifCond .le 7, 3) := by decide +kernel
theorem dX9_least_246 : decode cX9_least 246 = .ok (.iconst (-1), 1) := by decide +kernel
theorem dX9_least_247 : decode cX9_least 247 = .ok (.goto 19, 3) := by decide +kernel
theorem dX9_least_250 : decode cX9_least 250 = .ok (.iload_n 3, 1) := by decide +kernel
theorem dX9_least_251 : decode cX9_least 251 = .ok (.iconst (-1), 1) := by decide +kernel
theorem dX9_least_252 : decode cX9_least 252 = .ok (.if_icmp .ne 8, 3) := by decide +kernel
theorem dX9_least_255 : decode cX9_least 255 = .ok (.iload 5, 2) := by decide +kernel
theorem dX9_least_257 : decode cX9_least 257 = .ok (.goto 9, 3) := by decide +kernel
theorem dX9_least_260 : decode cX9_least 260 = .ok (.aload_n 0, 1) := by decide +kernel
theorem dX9_least_261 : decode cX9_least 261 = .ok (.getfield 54, 3) := by decide +kernel
theorem dX9_least_264 : decode cX9_least 264 = .ok (.iload_n 3, 1) := by decide +kernel
theorem dX9_least_265 : decode cX9_least 265 = .ok (.iaload, 1) := by decide +kernel
theorem dX9_least_266 : decode cX9_least 266 = .ok (.ireturn, 1) := by decide +kernel
theorem dX9_togetherOf_0 : decode cX9_togetherOf 0 = .ok (.iconst 0, 1) := by decide +kernel
theorem dX9_togetherOf_1 : decode cX9_togetherOf 1 = .ok (.istore_n 2, 1) := by decide +kernel
theorem dX9_togetherOf_2 : decode cX9_togetherOf 2 = .ok (.iconst 0, 1) := by decide +kernel
theorem dX9_togetherOf_3 : decode cX9_togetherOf 3 = .ok (.istore_n 3, 1) := by decide +kernel
theorem dX9_togetherOf_4 : decode cX9_togetherOf 4 = .ok (.iload_n 3, 1) := by decide +kernel
theorem dX9_togetherOf_5 : decode cX9_togetherOf 5 = .ok (.aload_n 0, 1) := by decide +kernel
theorem dX9_togetherOf_6 : decode cX9_togetherOf 6 = .ok (.getfield 76, 3) := by decide +kernel
theorem dX9_togetherOf_9 : decode cX9_togetherOf 9 = .ok (.if_icmp .ge 30, 3) := by decide +kernel
theorem dX9_togetherOf_12 : decode cX9_togetherOf 12 = .ok (.iload_n 2, 1) := by decide +kernel
theorem dX9_togetherOf_13 : decode cX9_togetherOf 13 = .ok (.iload_n 1, 1) := by decide +kernel
theorem dX9_togetherOf_14 : decode cX9_togetherOf 14 = .ok (.iload_n 3, 1) := by decide +kernel
theorem dX9_togetherOf_15 : decode cX9_togetherOf 15 = .ok (.invokestatic 136, 3) := by decide +kernel
theorem dX9_togetherOf_18 : decode cX9_togetherOf 18 = .ok (.ifCond .eq 12, 3) := by decide +kernel
theorem dX9_togetherOf_21 : decode cX9_togetherOf 21 = .ok (.aload_n 0, 1) := by decide +kernel
theorem dX9_togetherOf_22 : decode cX9_togetherOf 22 = .ok (.getfield 67, 3) := by decide +kernel
theorem dX9_togetherOf_25 : decode cX9_togetherOf 25 = .ok (.iload_n 3, 1) := by decide +kernel
theorem dX9_togetherOf_26 : decode cX9_togetherOf 26 = .ok (.iaload, 1) := by decide +kernel
theorem dX9_togetherOf_27 : decode cX9_togetherOf 27 = .ok (.goto 4, 3) := by decide +kernel
theorem dX9_togetherOf_30 : decode cX9_togetherOf 30 = .ok (.iconst 0, 1) := by decide +kernel
theorem dX9_togetherOf_31 : decode cX9_togetherOf 31 = .ok (.iadd, 1) := by decide +kernel
theorem dX9_togetherOf_32 : decode cX9_togetherOf 32 = .ok (.istore_n 2, 1) := by decide +kernel
theorem dX9_togetherOf_33 : decode cX9_togetherOf 33 = .ok (.iinc 3 1, 3) := by decide +kernel
theorem dX9_togetherOf_36 : decode cX9_togetherOf 36 = .ok (.goto (-32), 3) := by decide +kernel
theorem dX9_togetherOf_39 : decode cX9_togetherOf 39 = .ok (.iload_n 2, 1) := by decide +kernel
theorem dX9_togetherOf_40 : decode cX9_togetherOf 40 = .ok (.ireturn, 1) := by decide +kernel
theorem dX9_trips_0 : decode cX9_trips 0 = .ok (.aload_n 0, 1) := by decide +kernel
theorem dX9_trips_1 : decode cX9_trips 1 = .ok (.iload_n 1, 1) := by decide +kernel
theorem dX9_trips_2 : decode cX9_trips 2 = .ok (.invokevirtual 241, 3) := by decide +kernel
theorem dX9_trips_5 : decode cX9_trips 5 = .ok (.ifCond .eq 11, 3) := by decide +kernel
theorem dX9_trips_8 : decode cX9_trips 8 = .ok (.aload_n 0, 1) := by decide +kernel
theorem dX9_trips_9 : decode cX9_trips 9 = .ok (.iload_n 2, 1) := by decide +kernel
theorem dX9_trips_10 : decode cX9_trips 10 = .ok (.invokevirtual 220, 3) := by decide +kernel
theorem dX9_trips_13 : decode cX9_trips 13 = .ok (.ifCond .ne 6, 3) := by decide +kernel
theorem dX9_trips_16 : decode cX9_trips 16 = .ok (.ldc 213, 2) := by decide +kernel
theorem dX9_trips_18 : decode cX9_trips 18 = .ok (.ireturn, 1) := by decide +kernel
theorem dX9_trips_19 : decode cX9_trips 19 = .ok (.iconst 0, 1) := by decide +kernel
theorem dX9_trips_20 : decode cX9_trips 20 = .ok (.istore 4, 2) := by decide +kernel
theorem dX9_trips_22 : decode cX9_trips 22 = .ok (.iload 4, 2) := by decide +kernel
theorem dX9_trips_24 : decode cX9_trips 24 = .ok (.aload_n 0, 1) := by decide +kernel
theorem dX9_trips_25 : decode cX9_trips 25 = .ok (.getfield 76, 3) := by decide +kernel
theorem dX9_trips_28 : decode cX9_trips 28 = .ok (.if_icmp .ge 26, 3) := by decide +kernel
theorem dX9_trips_31 : decode cX9_trips 31 = .ok (.aload_n 0, 1) := by decide +kernel
theorem dX9_trips_32 : decode cX9_trips 32 = .ok (.getfield 67, 3) := by decide +kernel
theorem dX9_trips_35 : decode cX9_trips 35 = .ok (.iload 4, 2) := by decide +kernel
theorem dX9_trips_37 : decode cX9_trips 37 = .ok (.aload_n 0, 1) := by decide +kernel
theorem dX9_trips_38 : decode cX9_trips 38 = .ok (.aload_n 0, 1) := by decide +kernel
theorem dX9_trips_39 : decode cX9_trips 39 = .ok (.getfield 35, 3) := by decide +kernel
theorem dX9_trips_42 : decode cX9_trips 42 = .ok (.iload 4, 2) := by decide +kernel
theorem dX9_trips_44 : decode cX9_trips 44 = .ok (.invokevirtual 217, 3) := by decide +kernel
theorem dX9_trips_47 : decode cX9_trips 47 = .ok (.iastore, 1) := by decide +kernel
theorem dX9_trips_48 : decode cX9_trips 48 = .ok (.iinc 4 1, 3) := by decide +kernel
theorem dX9_trips_51 : decode cX9_trips 51 = .ok (.goto (-29), 3) := by decide +kernel
theorem dX9_trips_54 : decode cX9_trips 54 = .ok (.iconst 0, 1) := by decide +kernel
theorem dX9_trips_55 : decode cX9_trips 55 = .ok (.istore 4, 2) := by decide +kernel
theorem dX9_trips_57 : decode cX9_trips 57 = .ok (.iload 4, 2) := by decide +kernel
theorem dX9_trips_59 : decode cX9_trips 59 = .ok (.iconst 1, 1) := by decide +kernel
theorem dX9_trips_60 : decode cX9_trips 60 = .ok (.aload_n 0, 1) := by decide +kernel
theorem dX9_trips_61 : decode cX9_trips 61 = .ok (.getfield 76, 3) := by decide +kernel
theorem dX9_trips_64 : decode cX9_trips 64 = .ok (.ishl, 1) := by decide +kernel
theorem dX9_trips_65 : decode cX9_trips 65 = .ok (.if_icmp .ge 132, 3) := by decide +kernel
theorem dX9_trips_68 : decode cX9_trips 68 = .ok (.aload_n 0, 1) := by decide +kernel
theorem dX9_trips_69 : decode cX9_trips 69 = .ok (.getfield 57, 3) := by decide +kernel
theorem dX9_trips_72 : decode cX9_trips 72 = .ok (.iload 4, 2) := by decide +kernel
theorem dX9_trips_74 : decode cX9_trips 74 = .ok (.iload 4, 2) := by decide +kernel
theorem dX9_trips_76 : decode cX9_trips 76 = .ok (.ifCond .ne 7, 3) := by decide +kernel
theorem dX9_trips_79 : decode cX9_trips 79 = .ok (.iconst 0, 1) := by decide +kernel
theorem dX9_trips_80 : decode cX9_trips 80 = .ok (.goto 5, 3) := by decide +kernel
theorem dX9_trips_83 : decode cX9_trips 83 = .ok (.bipush 99, 2) := by decide +kernel
theorem dX9_trips_85 : decode cX9_trips 85 = .ok (.iastore, 1) := by decide +kernel
theorem dX9_trips_86 : decode cX9_trips 86 = .ok (.iconst 1, 1) := by decide +kernel
theorem dX9_trips_87 : decode cX9_trips 87 = .ok (.istore 5, 2) := by decide +kernel
theorem dX9_trips_89 : decode cX9_trips 89 = .ok (.iload 5, 2) := by decide +kernel
theorem dX9_trips_91 : decode cX9_trips 91 = .ok (.iload 4, 2) := by decide +kernel
theorem dX9_trips_93 : decode cX9_trips 93 = .ok (.if_icmp .gt 98, 3) := by decide +kernel
theorem dX9_trips_96 : decode cX9_trips 96 = .ok (.iload 5, 2) := by decide +kernel
theorem dX9_trips_98 : decode cX9_trips 98 = .ok (.iload 4, 2) := by decide +kernel
theorem dX9_trips_100 : decode cX9_trips 100 = .ok (.iconst (-1), 1) := by decide +kernel
theorem dX9_trips_101 : decode cX9_trips 101 = .ok (.ixor, 1) := by decide +kernel
theorem dX9_trips_102 : decode cX9_trips 102 = .ok (.iand, 1) := by decide +kernel
theorem dX9_trips_103 : decode cX9_trips 103 = .ok (.ifCond .ne 22, 3) := by decide +kernel
theorem dX9_trips_106 : decode cX9_trips 106 = .ok (.aload_n 0, 1) := by decide +kernel
theorem dX9_trips_107 : decode cX9_trips 107 = .ok (.iload 5, 2) := by decide +kernel
theorem dX9_trips_109 : decode cX9_trips 109 = .ok (.invokevirtual 244, 3) := by decide +kernel
theorem dX9_trips_112 : decode cX9_trips 112 = .ok (.aload_n 0, 1) := by decide +kernel
theorem dX9_trips_113 : decode cX9_trips 113 = .ok (.getfield 32, 3) := by decide +kernel
theorem dX9_trips_116 : decode cX9_trips 116 = .ok (.iload_n 2, 1) := by decide +kernel
theorem dX9_trips_117 : decode cX9_trips 117 = .ok (.iaload, 1) := by decide +kernel
theorem dX9_trips_118 : decode cX9_trips 118 = .ok (.if_icmp .gt 7, 3) := by decide +kernel
theorem dX9_trips_121 : decode cX9_trips 121 = .ok (.iconst 1, 1) := by decide +kernel
theorem dX9_trips_122 : decode cX9_trips 122 = .ok (.goto 4, 3) := by decide +kernel
theorem dX9_trips_125 : decode cX9_trips 125 = .ok (.iconst 0, 1) := by decide +kernel
theorem dX9_trips_126 : decode cX9_trips 126 = .ok (.istore 6, 2) := by decide +kernel
theorem dX9_trips_128 : decode cX9_trips 128 = .ok (.iload 6, 2) := by decide +kernel
theorem dX9_trips_130 : decode cX9_trips 130 = .ok (.ifCond .eq 20, 3) := by decide +kernel
theorem dX9_trips_133 : decode cX9_trips 133 = .ok (.aload_n 0, 1) := by decide +kernel
theorem dX9_trips_134 : decode cX9_trips 134 = .ok (.getfield 57, 3) := by decide +kernel
theorem dX9_trips_137 : decode cX9_trips 137 = .ok (.iload 4, 2) := by decide +kernel
theorem dX9_trips_139 : decode cX9_trips 139 = .ok (.iload 5, 2) := by decide +kernel
theorem dX9_trips_141 : decode cX9_trips 141 = .ok (.iconst (-1), 1) := by decide +kernel
theorem dX9_trips_142 : decode cX9_trips 142 = .ok (.ixor, 1) := by decide +kernel
theorem dX9_trips_143 : decode cX9_trips 143 = .ok (.iand, 1) := by decide +kernel
theorem dX9_trips_144 : decode cX9_trips 144 = .ok (.iaload, 1) := by decide +kernel
theorem dX9_trips_145 : decode cX9_trips 145 = .ok (.iconst 1, 1) := by decide +kernel
theorem dX9_trips_146 : decode cX9_trips 146 = .ok (.iadd, 1) := by decide +kernel
theorem dX9_trips_147 : decode cX9_trips 147 = .ok (.goto 5, 3) := by decide +kernel
theorem dX9_trips_150 : decode cX9_trips 150 = .ok (.bipush 99, 2) := by decide +kernel
theorem dX9_trips_152 : decode cX9_trips 152 = .ok (.istore 7, 2) := by decide +kernel
theorem dX9_trips_154 : decode cX9_trips 154 = .ok (.aload_n 0, 1) := by decide +kernel
theorem dX9_trips_155 : decode cX9_trips 155 = .ok (.getfield 57, 3) := by decide +kernel
theorem dX9_trips_158 : decode cX9_trips 158 = .ok (.iload 4, 2) := by decide +kernel
theorem dX9_trips_160 : decode cX9_trips 160 = .ok (.iload 7, 2) := by decide +kernel
theorem dX9_trips_162 : decode cX9_trips 162 = .ok (.aload_n 0, 1) := by decide +kernel
theorem dX9_trips_163 : decode cX9_trips 163 = .ok (.getfield 57, 3) := by decide +kernel
theorem dX9_trips_166 : decode cX9_trips 166 = .ok (.iload 4, 2) := by decide +kernel
theorem dX9_trips_168 : decode cX9_trips 168 = .ok (.iaload, 1) := by decide +kernel
theorem dX9_trips_169 : decode cX9_trips 169 = .ok (.if_icmp .ge 8, 3) := by decide +kernel
theorem dX9_trips_172 : decode cX9_trips 172 = .ok (.iload 7, 2) := by decide +kernel
theorem dX9_trips_174 : decode cX9_trips 174 = .ok (.goto 10, 3) := by decide +kernel
theorem dX9_trips_177 : decode cX9_trips 177 = .ok (.aload_n 0, 1) := by decide +kernel
theorem dX9_trips_178 : decode cX9_trips 178 = .ok (.getfield 57, 3) := by decide +kernel
theorem dX9_trips_181 : decode cX9_trips 181 = .ok (.iload 4, 2) := by decide +kernel
theorem dX9_trips_183 : decode cX9_trips 183 = .ok (.iaload, 1) := by decide +kernel
theorem dX9_trips_184 : decode cX9_trips 184 = .ok (.iastore, 1) := by decide +kernel
theorem dX9_trips_185 : decode cX9_trips 185 = .ok (.iinc 5 1, 3) := by decide +kernel
theorem dX9_trips_188 : decode cX9_trips 188 = .ok (.goto (-99), 3) := by decide +kernel
theorem dX9_trips_191 : decode cX9_trips 191 = .ok (.iinc 4 1, 3) := by decide +kernel
theorem dX9_trips_194 : decode cX9_trips 194 = .ok (.goto (-137), 3) := by decide +kernel
theorem dX9_trips_197 : decode cX9_trips 197 = .ok (.aload_n 0, 1) := by decide +kernel
theorem dX9_trips_198 : decode cX9_trips 198 = .ok (.getfield 57, 3) := by decide +kernel
theorem dX9_trips_201 : decode cX9_trips 201 = .ok (.iload_n 1, 1) := by decide +kernel
theorem dX9_trips_202 : decode cX9_trips 202 = .ok (.iaload, 1) := by decide +kernel
theorem dX9_trips_203 : decode cX9_trips 203 = .ok (.istore 4, 2) := by decide +kernel
theorem dX9_trips_205 : decode cX9_trips 205 = .ok (.iload 4, 2) := by decide +kernel
theorem dX9_trips_207 : decode cX9_trips 207 = .ok (.bipush 99, 2) := by decide +kernel
theorem dX9_trips_209 : decode cX9_trips 209 = .ok (.if_icmp .ge 8, 3) := by decide +kernel
theorem dX9_trips_212 : decode cX9_trips 212 = .ok (.iload_n 3, 1) := by decide +kernel
theorem dX9_trips_213 : decode cX9_trips 213 = .ok (.iconst (-1), 1) := by decide +kernel
theorem dX9_trips_214 : decode cX9_trips 214 = .ok (.if_icmp .ne 17, 3) := by decide +kernel
theorem dX9_trips_217 : decode cX9_trips 217 = .ok (.iload 4, 2) := by decide +kernel
theorem dX9_trips_219 : decode cX9_trips 219 = .ok (.bipush 99, 2) := by decide +kernel
theorem dX9_trips_221 : decode cX9_trips 221 = .ok (.if_icmp .lt 7, 3) := by decide +kernel
theorem dX9_trips_224 : decode cX9_trips 224 = .ok (.iconst (-1), 1) := by decide +kernel
theorem dX9_trips_225 : decode cX9_trips 225 = .ok (.goto 5, 3) := by decide +kernel
theorem dX9_trips_228 : decode cX9_trips 228 = .ok (.iload 4, 2) := by decide +kernel
theorem dX9_trips_230 : decode cX9_trips 230 = .ok (.ireturn, 1) := by decide +kernel
theorem dX9_trips_231 : decode cX9_trips 231 = .ok (.iload_n 1, 1) := by decide +kernel
theorem dX9_trips_232 : decode cX9_trips 232 = .ok (.istore 5, 2) := by decide +kernel
theorem dX9_trips_234 : decode cX9_trips 234 = .ok (.iconst (-1), 1) := by decide +kernel
theorem dX9_trips_235 : decode cX9_trips 235 = .ok (.istore 6, 2) := by decide +kernel
theorem dX9_trips_237 : decode cX9_trips 237 = .ok (.iconst 0, 1) := by decide +kernel
theorem dX9_trips_238 : decode cX9_trips 238 = .ok (.istore 7, 2) := by decide +kernel
theorem dX9_trips_240 : decode cX9_trips 240 = .ok (.iload 7, 2) := by decide +kernel
theorem dX9_trips_242 : decode cX9_trips 242 = .ok (.iload_n 3, 1) := by decide +kernel
theorem dX9_trips_243 : decode cX9_trips 243 = .ok (.if_icmp .gt 113, 3) := by decide +kernel
theorem dX9_trips_246 : decode cX9_trips 246 = .ok (.iload 7, 2) := by decide +kernel
theorem dX9_trips_248 : decode cX9_trips 248 = .ok (.iload 4, 2) := by decide +kernel
theorem dX9_trips_250 : decode cX9_trips 250 = .ok (.if_icmp .ge 106, 3) := by decide +kernel
theorem dX9_trips_253 : decode cX9_trips 253 = .ok (.iconst (-1), 1) := by decide +kernel
theorem dX9_trips_254 : decode cX9_trips 254 = .ok (.istore 6, 2) := by decide +kernel
theorem dX9_trips_256 : decode cX9_trips 256 = .ok (.iload 5, 2) := by decide +kernel
theorem dX9_trips_258 : decode cX9_trips 258 = .ok (.istore 8, 2) := by decide +kernel
theorem dX9_trips_260 : decode cX9_trips 260 = .ok (.iload 8, 2) := by decide +kernel
theorem dX9_trips_262 : decode cX9_trips 262 = .ok (.ifCond .le 79, 3) := by decide +kernel
theorem dX9_trips_265 : decode cX9_trips 265 = .ok (.iload 8, 2) := by decide +kernel
theorem dX9_trips_267 : decode cX9_trips 267 = .ok (.iload 5, 2) := by decide +kernel
theorem dX9_trips_269 : decode cX9_trips 269 = .ok (.iconst (-1), 1) := by decide +kernel
theorem dX9_trips_270 : decode cX9_trips 270 = .ok (.ixor, 1) := by decide +kernel
theorem dX9_trips_271 : decode cX9_trips 271 = .ok (.iand, 1) := by decide +kernel
theorem dX9_trips_272 : decode cX9_trips 272 = .ok (.ifCond .ne 22, 3) := by decide +kernel
theorem dX9_trips_275 : decode cX9_trips 275 = .ok (.aload_n 0, 1) := by decide +kernel
theorem dX9_trips_276 : decode cX9_trips 276 = .ok (.iload 8, 2) := by decide +kernel
theorem dX9_trips_278 : decode cX9_trips 278 = .ok (.invokevirtual 244, 3) := by decide +kernel
theorem dX9_trips_281 : decode cX9_trips 281 = .ok (.aload_n 0, 1) := by decide +kernel
theorem dX9_trips_282 : decode cX9_trips 282 = .ok (.getfield 32, 3) := by decide +kernel
theorem dX9_trips_285 : decode cX9_trips 285 = .ok (.iload_n 2, 1) := by decide +kernel
theorem dX9_trips_286 : decode cX9_trips 286 = .ok (.iaload, 1) := by decide +kernel
theorem dX9_trips_287 : decode cX9_trips 287 = .ok (.if_icmp .gt 7, 3) := by decide +kernel
theorem dX9_trips_290 : decode cX9_trips 290 = .ok (.iconst 1, 1) := by decide +kernel
theorem dX9_trips_291 : decode cX9_trips 291 = .ok (.goto 4, 3) := by decide +kernel
theorem dX9_trips_294 : decode cX9_trips 294 = .ok (.iconst 0, 1) := by decide +kernel
theorem dX9_trips_295 : decode cX9_trips 295 = .ok (.istore 9, 2) := by decide +kernel
theorem dX9_trips_297 : decode cX9_trips 297 = .ok (.iload 9, 2) := by decide +kernel
theorem dX9_trips_299 : decode cX9_trips 299 = .ok (.ifCond .eq 32, 3) := by decide +kernel
theorem dX9_trips_302 : decode cX9_trips 302 = .ok (.aload_n 0, 1) := by decide +kernel
theorem dX9_trips_303 : decode cX9_trips 303 = .ok (.getfield 57, 3) := by decide +kernel
theorem dX9_trips_306 : decode cX9_trips 306 = .ok (.iload 5, 2) := by decide +kernel
theorem dX9_trips_308 : decode cX9_trips 308 = .ok (.iload 8, 2) := by decide +kernel
theorem dX9_trips_310 : decode cX9_trips 310 = .ok (.iconst (-1), 1) := by decide +kernel
theorem dX9_trips_311 : decode cX9_trips 311 = .ok (.ixor, 1) := by decide +kernel
theorem dX9_trips_312 : decode cX9_trips 312 = .ok (.iand, 1) := by decide +kernel
theorem dX9_trips_313 : decode cX9_trips 313 = .ok (.iaload, 1) := by decide +kernel
theorem dX9_trips_314 : decode cX9_trips 314 = .ok (.aload_n 0, 1) := by decide +kernel
theorem dX9_trips_315 : decode cX9_trips 315 = .ok (.getfield 57, 3) := by decide +kernel
theorem dX9_trips_318 : decode cX9_trips 318 = .ok (.iload 5, 2) := by decide +kernel
theorem dX9_trips_320 : decode cX9_trips 320 = .ok (.iaload, 1) := by decide +kernel
theorem dX9_trips_321 : decode cX9_trips 321 = .ok (.iconst 1, 1) := by decide +kernel
theorem dX9_trips_322 : decode cX9_trips 322 = .ok (.isub, 1) := by decide +kernel
theorem dX9_trips_323 : decode cX9_trips 323 = .ok (.if_icmp .ne 8, 3) := by decide +kernel
theorem dX9_trips_326 : decode cX9_trips 326 = .ok (.iload 8, 2) := by decide +kernel
theorem dX9_trips_328 : decode cX9_trips 328 = .ok (.goto 5, 3) := by decide +kernel
theorem dX9_trips_331 : decode cX9_trips 331 = .ok (.iload 6, 2) := by decide +kernel
theorem dX9_trips_333 : decode cX9_trips 333 = .ok (.istore 6, 2) := by decide +kernel
theorem dX9_trips_335 : decode cX9_trips 335 = .ok (.iinc 8 (-1), 3) := by decide +kernel
theorem dX9_trips_338 : decode cX9_trips 338 = .ok (.goto (-78), 3) := by decide +kernel
theorem dX9_trips_341 : decode cX9_trips 341 = .ok (.iload 5, 2) := by decide +kernel
theorem dX9_trips_343 : decode cX9_trips 343 = .ok (.iload 6, 2) := by decide +kernel
theorem dX9_trips_345 : decode cX9_trips 345 = .ok (.iconst (-1), 1) := by decide +kernel
theorem dX9_trips_346 : decode cX9_trips 346 = .ok (.ixor, 1) := by decide +kernel
theorem dX9_trips_347 : decode cX9_trips 347 = .ok (.iand, 1) := by decide +kernel
theorem dX9_trips_348 : decode cX9_trips 348 = .ok (.istore 5, 2) := by decide +kernel
theorem dX9_trips_350 : decode cX9_trips 350 = .ok (.iinc 7 1, 3) := by decide +kernel
theorem dX9_trips_353 : decode cX9_trips 353 = .ok (.goto (-113), 3) := by decide +kernel
theorem dX9_trips_356 : decode cX9_trips 356 = .ok (.iload_n 3, 1) := by decide +kernel
theorem dX9_trips_357 : decode cX9_trips 357 = .ok (.iconst 0, 1) := by decide +kernel
theorem dX9_trips_358 : decode cX9_trips 358 = .ok (.iload 4, 2) := by decide +kernel
theorem dX9_trips_360 : decode cX9_trips 360 = .ok (.iconst 1, 1) := by decide +kernel
theorem dX9_trips_361 : decode cX9_trips 361 = .ok (.isub, 1) := by decide +kernel
theorem dX9_trips_362 : decode cX9_trips 362 = .ok (.invokestatic 79, 3) := by decide +kernel
theorem dX9_trips_365 : decode cX9_trips 365 = .ok (.ifCond .eq 8, 3) := by decide +kernel
theorem dX9_trips_368 : decode cX9_trips 368 = .ok (.iload 6, 2) := by decide +kernel
theorem dX9_trips_370 : decode cX9_trips 370 = .ok (.goto 4, 3) := by decide +kernel
theorem dX9_trips_373 : decode cX9_trips 373 = .ok (.iconst (-1), 1) := by decide +kernel
theorem dX9_trips_374 : decode cX9_trips 374 = .ok (.ireturn, 1) := by decide +kernel
theorem dX9_layWays_0 : decode cX9_layWays 0 = .ok (.iconst 0, 1) := by decide +kernel
theorem dX9_layWays_1 : decode cX9_layWays 1 = .ok (.istore 4, 2) := by decide +kernel
theorem dX9_layWays_3 : decode cX9_layWays 3 = .ok (.iload 4, 2) := by decide +kernel
theorem dX9_layWays_5 : decode cX9_layWays 5 = .ok (.sipush 1200, 3) := by decide +kernel
theorem dX9_layWays_8 : decode cX9_layWays 8 = .ok (.if_icmp .ge 17, 3) := by decide +kernel
theorem dX9_layWays_11 : decode cX9_layWays 11 = .ok (.aload_n 0, 1) := by decide +kernel
theorem dX9_layWays_12 : decode cX9_layWays 12 = .ok (.getfield 60, 3) := by decide +kernel
theorem dX9_layWays_15 : decode cX9_layWays 15 = .ok (.iload 4, 2) := by decide +kernel
theorem dX9_layWays_17 : decode cX9_layWays 17 = .ok (.lconst 0, 1) := by decide +kernel
theorem dX9_layWays_18 : decode cX9_layWays 18 = .ok (.lastore, 1) := by decide +kernel
theorem dX9_layWays_19 : decode cX9_layWays 19 = .ok (.iinc 4 1, 3) := by decide +kernel
theorem dX9_layWays_22 : decode cX9_layWays 22 = .ok (.goto (-19), 3) := by decide +kernel
theorem dX9_layWays_25 : decode cX9_layWays 25 = .ok (.aload_n 0, 1) := by decide +kernel
theorem dX9_layWays_26 : decode cX9_layWays 26 = .ok (.getfield 60, 3) := by decide +kernel
theorem dX9_layWays_29 : decode cX9_layWays 29 = .ok (.sipush 600, 3) := by decide +kernel
theorem dX9_layWays_32 : decode cX9_layWays 32 = .ok (.lconst 1, 1) := by decide +kernel
theorem dX9_layWays_33 : decode cX9_layWays 33 = .ok (.lastore, 1) := by decide +kernel
theorem dX9_layWays_34 : decode cX9_layWays 34 = .ok (.iconst 0, 1) := by decide +kernel
theorem dX9_layWays_35 : decode cX9_layWays 35 = .ok (.istore 4, 2) := by decide +kernel
theorem dX9_layWays_37 : decode cX9_layWays 37 = .ok (.iload 4, 2) := by decide +kernel
theorem dX9_layWays_39 : decode cX9_layWays 39 = .ok (.aload_n 0, 1) := by decide +kernel
theorem dX9_layWays_40 : decode cX9_layWays 40 = .ok (.getfield 83, 3) := by decide +kernel
theorem dX9_layWays_43 : decode cX9_layWays 43 = .ok (.if_icmp .ge 190, 3) := by decide +kernel
theorem dX9_layWays_46 : decode cX9_layWays 46 = .ok (.aload_n 0, 1) := by decide +kernel
theorem dX9_layWays_47 : decode cX9_layWays 47 = .ok (.iload 4, 2) := by decide +kernel
theorem dX9_layWays_49 : decode cX9_layWays 49 = .ok (.invokevirtual 182, 3) := by decide +kernel
theorem dX9_layWays_52 : decode cX9_layWays 52 = .ok (.iload_n 1, 1) := by decide +kernel
theorem dX9_layWays_53 : decode cX9_layWays 53 = .ok (.if_icmp .eq 6, 3) := by decide +kernel
theorem dX9_layWays_56 : decode cX9_layWays 56 = .ok (.goto 171, 3) := by decide +kernel
theorem dX9_layWays_59 : decode cX9_layWays 59 = .ok (.iconst 0, 1) := by decide +kernel
theorem dX9_layWays_60 : decode cX9_layWays 60 = .ok (.istore 5, 2) := by decide +kernel
theorem dX9_layWays_62 : decode cX9_layWays 62 = .ok (.iload 5, 2) := by decide +kernel
theorem dX9_layWays_64 : decode cX9_layWays 64 = .ok (.sipush 1200, 3) := by decide +kernel
theorem dX9_layWays_67 : decode cX9_layWays 67 = .ok (.if_icmp .ge 17, 3) := by decide +kernel
theorem dX9_layWays_70 : decode cX9_layWays 70 = .ok (.aload_n 0, 1) := by decide +kernel
theorem dX9_layWays_71 : decode cX9_layWays 71 = .ok (.getfield 64, 3) := by decide +kernel
theorem dX9_layWays_74 : decode cX9_layWays 74 = .ok (.iload 5, 2) := by decide +kernel
theorem dX9_layWays_76 : decode cX9_layWays 76 = .ok (.lconst 0, 1) := by decide +kernel
theorem dX9_layWays_77 : decode cX9_layWays 77 = .ok (.lastore, 1) := by decide +kernel
theorem dX9_layWays_78 : decode cX9_layWays 78 = .ok (.iinc 5 1, 3) := by decide +kernel
theorem dX9_layWays_81 : decode cX9_layWays 81 = .ok (.goto (-19), 3) := by decide +kernel
theorem dX9_layWays_84 : decode cX9_layWays 84 = .ok (.iconst 0, 1) := by decide +kernel
theorem dX9_layWays_85 : decode cX9_layWays 85 = .ok (.istore 5, 2) := by decide +kernel
theorem dX9_layWays_87 : decode cX9_layWays 87 = .ok (.iload 5, 2) := by decide +kernel
theorem dX9_layWays_89 : decode cX9_layWays 89 = .ok (.aload_n 0, 1) := by decide +kernel
theorem dX9_layWays_90 : decode cX9_layWays 90 = .ok (.getfield 76, 3) := by decide +kernel
theorem dX9_layWays_93 : decode cX9_layWays 93 = .ok (.if_icmp .ge 103, 3) := by decide +kernel
theorem dX9_layWays_96 : decode cX9_layWays 96 = .ok (.aload_n 0, 1) := by decide +kernel
theorem dX9_layWays_97 : decode cX9_layWays 97 = .ok (.iload 4, 2) := by decide +kernel
theorem dX9_layWays_99 : decode cX9_layWays 99 = .ok (.invokevirtual 193, 3) := by decide +kernel
theorem dX9_layWays_102 : decode cX9_layWays 102 = .ok (.ifCond .eq 16, 3) := by decide +kernel
theorem dX9_layWays_105 : decode cX9_layWays 105 = .ok (.aload_n 0, 1) := by decide +kernel
theorem dX9_layWays_106 : decode cX9_layWays 106 = .ok (.iload 4, 2) := by decide +kernel
theorem dX9_layWays_108 : decode cX9_layWays 108 = .ok (.invokevirtual 186, 3) := by decide +kernel
theorem dX9_layWays_111 : decode cX9_layWays 111 = .ok (.ineg, 1) := by decide +kernel
theorem dX9_layWays_112 : decode cX9_layWays 112 = .ok (.iload 5, 2) := by decide +kernel
theorem dX9_layWays_114 : decode cX9_layWays 114 = .ok (.imul, 1) := by decide +kernel
theorem dX9_layWays_115 : decode cX9_layWays 115 = .ok (.goto 12, 3) := by decide +kernel
theorem dX9_layWays_118 : decode cX9_layWays 118 = .ok (.aload_n 0, 1) := by decide +kernel
theorem dX9_layWays_119 : decode cX9_layWays 119 = .ok (.iload 4, 2) := by decide +kernel
theorem dX9_layWays_121 : decode cX9_layWays 121 = .ok (.invokevirtual 186, 3) := by decide +kernel
theorem dX9_layWays_124 : decode cX9_layWays 124 = .ok (.iload 5, 2) := by decide +kernel
theorem dX9_layWays_126 : decode cX9_layWays 126 = .ok (.imul, 1) := by decide +kernel
theorem dX9_layWays_127 : decode cX9_layWays 127 = .ok (.istore 6, 2) := by decide +kernel
theorem dX9_layWays_129 : decode cX9_layWays 129 = .ok (.iconst 0, 1) := by decide +kernel
theorem dX9_layWays_130 : decode cX9_layWays 130 = .ok (.istore 7, 2) := by decide +kernel
theorem dX9_layWays_132 : decode cX9_layWays 132 = .ok (.iload 7, 2) := by decide +kernel
theorem dX9_layWays_134 : decode cX9_layWays 134 = .ok (.sipush 1200, 3) := by decide +kernel
theorem dX9_layWays_137 : decode cX9_layWays 137 = .ok (.if_icmp .ge 53, 3) := by decide +kernel
theorem dX9_layWays_140 : decode cX9_layWays 140 = .ok (.iload 4, 2) := by decide +kernel
theorem dX9_layWays_142 : decode cX9_layWays 142 = .ok (.iload_n 2, 1) := by decide +kernel
theorem dX9_layWays_143 : decode cX9_layWays 143 = .ok (.if_icmp .ne 9, 3) := by decide +kernel
theorem dX9_layWays_146 : decode cX9_layWays 146 = .ok (.iload 5, 2) := by decide +kernel
theorem dX9_layWays_148 : decode cX9_layWays 148 = .ok (.iload_n 3, 1) := by decide +kernel
theorem dX9_layWays_149 : decode cX9_layWays 149 = .ok (.if_icmp .ne 41, 3) := by decide +kernel
theorem dX9_layWays_152 : decode cX9_layWays 152 = .ok (.aload_n 0, 1) := by decide +kernel
theorem dX9_layWays_153 : decode cX9_layWays 153 = .ok (.getfield 60, 3) := by decide +kernel
theorem dX9_layWays_156 : decode cX9_layWays 156 = .ok (.iload 7, 2) := by decide +kernel
theorem dX9_layWays_158 : decode cX9_layWays 158 = .ok (.laload, 1) := by decide +kernel
theorem dX9_layWays_159 : decode cX9_layWays 159 = .ok (.lconst 0, 1) := by decide +kernel
theorem dX9_layWays_160 : decode cX9_layWays 160 = .ok (.lcmp, 1) := by decide +kernel
theorem dX9_layWays_161 : decode cX9_layWays 161 = .ok (.ifCond .le 23, 3) := by decide +kernel
theorem dX9_layWays_164 : decode cX9_layWays 164 = .ok (.aload_n 0, 1) := by decide +kernel
theorem dX9_layWays_165 : decode cX9_layWays 165 = .ok (.getfield 64, 3) := by decide +kernel
theorem dX9_layWays_168 : decode cX9_layWays 168 = .ok (.iload 7, 2) := by decide +kernel
theorem dX9_layWays_170 : decode cX9_layWays 170 = .ok (.iload 6, 2) := by decide +kernel
theorem dX9_layWays_172 : decode cX9_layWays 172 = .ok (.iadd, 1) := by decide +kernel
theorem dX9_layWays_173 : decode cX9_layWays 173 = .ok (.dup2, 1) := by decide +kernel
theorem dX9_layWays_174 : decode cX9_layWays 174 = .ok (.laload, 1) := by decide +kernel
theorem dX9_layWays_175 : decode cX9_layWays 175 = .ok (.aload_n 0, 1) := by decide +kernel
theorem dX9_layWays_176 : decode cX9_layWays 176 = .ok (.getfield 60, 3) := by decide +kernel
theorem dX9_layWays_179 : decode cX9_layWays 179 = .ok (.iload 7, 2) := by decide +kernel
theorem dX9_layWays_181 : decode cX9_layWays 181 = .ok (.laload, 1) := by decide +kernel
theorem dX9_layWays_182 : decode cX9_layWays 182 = .ok (.ladd, 1) := by decide +kernel
theorem dX9_layWays_183 : decode cX9_layWays 183 = .ok (.lastore, 1) := by decide +kernel
theorem dX9_layWays_184 : decode cX9_layWays 184 = .ok (.iinc 7 1, 3) := by decide +kernel
theorem dX9_layWays_187 : decode cX9_layWays 187 = .ok (.goto (-55), 3) := by decide +kernel
theorem dX9_layWays_190 : decode cX9_layWays 190 = .ok (.iinc 5 1, 3) := by decide +kernel
theorem dX9_layWays_193 : decode cX9_layWays 193 = .ok (.goto (-106), 3) := by decide +kernel
theorem dX9_layWays_196 : decode cX9_layWays 196 = .ok (.iconst 0, 1) := by decide +kernel
theorem dX9_layWays_197 : decode cX9_layWays 197 = .ok (.istore 5, 2) := by decide +kernel
theorem dX9_layWays_199 : decode cX9_layWays 199 = .ok (.iload 5, 2) := by decide +kernel
theorem dX9_layWays_201 : decode cX9_layWays 201 = .ok (.sipush 1200, 3) := by decide +kernel
theorem dX9_layWays_204 : decode cX9_layWays 204 = .ok (.if_icmp .ge 23, 3) := by decide +kernel
theorem dX9_layWays_207 : decode cX9_layWays 207 = .ok (.aload_n 0, 1) := by decide +kernel
theorem dX9_layWays_208 : decode cX9_layWays 208 = .ok (.getfield 60, 3) := by decide +kernel
theorem dX9_layWays_211 : decode cX9_layWays 211 = .ok (.iload 5, 2) := by decide +kernel
theorem dX9_layWays_213 : decode cX9_layWays 213 = .ok (.aload_n 0, 1) := by decide +kernel
theorem dX9_layWays_214 : decode cX9_layWays 214 = .ok (.getfield 64, 3) := by decide +kernel
theorem dX9_layWays_217 : decode cX9_layWays 217 = .ok (.iload 5, 2) := by decide +kernel
theorem dX9_layWays_219 : decode cX9_layWays 219 = .ok (.laload, 1) := by decide +kernel
theorem dX9_layWays_220 : decode cX9_layWays 220 = .ok (.lastore, 1) := by decide +kernel
theorem dX9_layWays_221 : decode cX9_layWays 221 = .ok (.iinc 5 1, 3) := by decide +kernel
theorem dX9_layWays_224 : decode cX9_layWays 224 = .ok (.goto (-25), 3) := by decide +kernel
theorem dX9_layWays_227 : decode cX9_layWays 227 = .ok (.iinc 4 1, 3) := by decide +kernel
theorem dX9_layWays_230 : decode cX9_layWays 230 = .ok (.goto (-193), 3) := by decide +kernel
theorem dX9_layWays_233 : decode cX9_layWays 233 = .ok (.return_, 1) := by decide +kernel
theorem dX9_waysTo_0 : decode cX9_waysTo 0 = .ok (.iload_n 1, 1) := by decide +kernel
theorem dX9_waysTo_1 : decode cX9_waysTo 1 = .ok (.sipush (-599), 3) := by decide +kernel
theorem dX9_waysTo_4 : decode cX9_waysTo 4 = .ok (.sipush 599, 3) := by decide +kernel
theorem dX9_waysTo_7 : decode cX9_waysTo 7 = .ok (.invokestatic 79, 3) := by decide +kernel
theorem dX9_waysTo_10 : decode cX9_waysTo 10 = .ok (.ifCond .eq 16, 3) := by decide +kernel
theorem dX9_waysTo_13 : decode cX9_waysTo 13 = .ok (.aload_n 0, 1) := by decide +kernel
theorem dX9_waysTo_14 : decode cX9_waysTo 14 = .ok (.getfield 60, 3) := by decide +kernel
theorem dX9_waysTo_17 : decode cX9_waysTo 17 = .ok (.sipush 600, 3) := by decide +kernel
theorem dX9_waysTo_20 : decode cX9_waysTo 20 = .ok (.iload_n 1, 1) := by decide +kernel
theorem dX9_waysTo_21 : decode cX9_waysTo 21 = .ok (.iadd, 1) := by decide +kernel
theorem dX9_waysTo_22 : decode cX9_waysTo 22 = .ok (.laload, 1) := by decide +kernel
theorem dX9_waysTo_23 : decode cX9_waysTo 23 = .ok (.goto 4, 3) := by decide +kernel
theorem dX9_waysTo_26 : decode cX9_waysTo 26 = .ok (.lconst 0, 1) := by decide +kernel
theorem dX9_waysTo_27 : decode cX9_waysTo 27 = .ok (.lreturn, 1) := by decide +kernel
theorem dX9_counted_0 : decode cX9_counted 0 = .ok (.aload_n 0, 1) := by decide +kernel
theorem dX9_counted_1 : decode cX9_counted 1 = .ok (.iload_n 1, 1) := by decide +kernel
theorem dX9_counted_2 : decode cX9_counted 2 = .ok (.invokevirtual 214, 3) := by decide +kernel
theorem dX9_counted_5 : decode cX9_counted 5 = .ok (.ifCond .eq 16, 3) := by decide +kernel
theorem dX9_counted_8 : decode cX9_counted 8 = .ok (.iload_n 3, 1) := by decide +kernel
theorem dX9_counted_9 : decode cX9_counted 9 = .ok (.iconst (-1), 1) := by decide +kernel
theorem dX9_counted_10 : decode cX9_counted 10 = .ok (.if_icmp .eq 14, 3) := by decide +kernel
theorem dX9_counted_13 : decode cX9_counted 13 = .ok (.aload_n 0, 1) := by decide +kernel
theorem dX9_counted_14 : decode cX9_counted 14 = .ok (.iload_n 3, 1) := by decide +kernel
theorem dX9_counted_15 : decode cX9_counted 15 = .ok (.invokevirtual 210, 3) := by decide +kernel
theorem dX9_counted_18 : decode cX9_counted 18 = .ok (.ifCond .ne 6, 3) := by decide +kernel
theorem dX9_counted_21 : decode cX9_counted 21 = .ok (.ldc 213, 2) := by decide +kernel
theorem dX9_counted_23 : decode cX9_counted 23 = .ok (.ireturn, 1) := by decide +kernel
theorem dX9_counted_24 : decode cX9_counted 24 = .ok (.iload_n 2, 1) := by decide +kernel
theorem dX9_counted_25 : decode cX9_counted 25 = .ok (.sipush (-999), 3) := by decide +kernel
theorem dX9_counted_28 : decode cX9_counted 28 = .ok (.sipush 999, 3) := by decide +kernel
theorem dX9_counted_31 : decode cX9_counted 31 = .ok (.invokestatic 79, 3) := by decide +kernel
theorem dX9_counted_34 : decode cX9_counted 34 = .ok (.ifCond .eq 13, 3) := by decide +kernel
theorem dX9_counted_37 : decode cX9_counted 37 = .ok (.iload 4, 2) := by decide +kernel
theorem dX9_counted_39 : decode cX9_counted 39 = .ok (.iconst 0, 1) := by decide +kernel
theorem dX9_counted_40 : decode cX9_counted 40 = .ok (.iconst 1, 1) := by decide +kernel
theorem dX9_counted_41 : decode cX9_counted 41 = .ok (.invokestatic 79, 3) := by decide +kernel
theorem dX9_counted_44 : decode cX9_counted 44 = .ok (.ifCond .ne 6, 3) := by decide +kernel
theorem dX9_counted_47 : decode cX9_counted 47 = .ok (.ldc 89, 2) := by decide +kernel
theorem dX9_counted_49 : decode cX9_counted 49 = .ok (.ireturn, 1) := by decide +kernel
theorem dX9_counted_50 : decode cX9_counted 50 = .ok (.iload_n 3, 1) := by decide +kernel
theorem dX9_counted_51 : decode cX9_counted 51 = .ok (.iconst (-1), 1) := by decide +kernel
theorem dX9_counted_52 : decode cX9_counted 52 = .ok (.if_icmp .ne 17, 3) := by decide +kernel
theorem dX9_counted_55 : decode cX9_counted 55 = .ok (.aload_n 0, 1) := by decide +kernel
theorem dX9_counted_56 : decode cX9_counted 56 = .ok (.iload_n 1, 1) := by decide +kernel
theorem dX9_counted_57 : decode cX9_counted 57 = .ok (.iconst (-1), 1) := by decide +kernel
theorem dX9_counted_58 : decode cX9_counted 58 = .ok (.iconst 0, 1) := by decide +kernel
theorem dX9_counted_59 : decode cX9_counted 59 = .ok (.invokevirtual 247, 3) := by decide +kernel
theorem dX9_counted_62 : decode cX9_counted 62 = .ok (.aload_n 0, 1) := by decide +kernel
theorem dX9_counted_63 : decode cX9_counted 63 = .ok (.iload_n 2, 1) := by decide +kernel
theorem dX9_counted_64 : decode cX9_counted 64 = .ok (.invokevirtual 251, 3) := by decide +kernel
theorem dX9_counted_67 : decode cX9_counted 67 = .ok (.l2i, 1) := by decide +kernel
theorem dX9_counted_68 : decode cX9_counted 68 = .ok (.ireturn, 1) := by decide +kernel
theorem dX9_counted_69 : decode cX9_counted 69 = .ok (.iconst (-1), 1) := by decide +kernel
theorem dX9_counted_70 : decode cX9_counted 70 = .ok (.istore 5, 2) := by decide +kernel
theorem dX9_counted_72 : decode cX9_counted 72 = .ok (.iconst 0, 1) := by decide +kernel
theorem dX9_counted_73 : decode cX9_counted 73 = .ok (.istore 6, 2) := by decide +kernel
theorem dX9_counted_75 : decode cX9_counted 75 = .ok (.iload 6, 2) := by decide +kernel
theorem dX9_counted_77 : decode cX9_counted 77 = .ok (.aload_n 0, 1) := by decide +kernel
theorem dX9_counted_78 : decode cX9_counted 78 = .ok (.getfield 76, 3) := by decide +kernel
theorem dX9_counted_81 : decode cX9_counted 81 = .ok (.if_icmp .ge 66, 3) := by decide +kernel
theorem dX9_counted_84 : decode cX9_counted 84 = .ok (.aload_n 0, 1) := by decide +kernel
theorem dX9_counted_85 : decode cX9_counted 85 = .ok (.iload_n 3, 1) := by decide +kernel
theorem dX9_counted_86 : decode cX9_counted 86 = .ok (.invokevirtual 182, 3) := by decide +kernel
theorem dX9_counted_89 : decode cX9_counted 89 = .ok (.iload_n 1, 1) := by decide +kernel
theorem dX9_counted_90 : decode cX9_counted 90 = .ok (.if_icmp .ne 57, 3) := by decide +kernel
theorem dX9_counted_93 : decode cX9_counted 93 = .ok (.iload 4, 2) := by decide +kernel
theorem dX9_counted_95 : decode cX9_counted 95 = .ok (.ifCond .ne 15, 3) := by decide +kernel
theorem dX9_counted_98 : decode cX9_counted 98 = .ok (.aload_n 0, 1) := by decide +kernel
theorem dX9_counted_99 : decode cX9_counted 99 = .ok (.getfield 76, 3) := by decide +kernel
theorem dX9_counted_102 : decode cX9_counted 102 = .ok (.iconst 1, 1) := by decide +kernel
theorem dX9_counted_103 : decode cX9_counted 103 = .ok (.isub, 1) := by decide +kernel
theorem dX9_counted_104 : decode cX9_counted 104 = .ok (.iload 6, 2) := by decide +kernel
theorem dX9_counted_106 : decode cX9_counted 106 = .ok (.isub, 1) := by decide +kernel
theorem dX9_counted_107 : decode cX9_counted 107 = .ok (.goto 5, 3) := by decide +kernel
theorem dX9_counted_110 : decode cX9_counted 110 = .ok (.iload 6, 2) := by decide +kernel
theorem dX9_counted_112 : decode cX9_counted 112 = .ok (.istore 7, 2) := by decide +kernel
theorem dX9_counted_114 : decode cX9_counted 114 = .ok (.aload_n 0, 1) := by decide +kernel
theorem dX9_counted_115 : decode cX9_counted 115 = .ok (.iload_n 1, 1) := by decide +kernel
theorem dX9_counted_116 : decode cX9_counted 116 = .ok (.iload_n 3, 1) := by decide +kernel
theorem dX9_counted_117 : decode cX9_counted 117 = .ok (.iload 7, 2) := by decide +kernel
theorem dX9_counted_119 : decode cX9_counted 119 = .ok (.invokevirtual 247, 3) := by decide +kernel
theorem dX9_counted_122 : decode cX9_counted 122 = .ok (.aload_n 0, 1) := by decide +kernel
theorem dX9_counted_123 : decode cX9_counted 123 = .ok (.iload_n 2, 1) := by decide +kernel
theorem dX9_counted_124 : decode cX9_counted 124 = .ok (.invokevirtual 251, 3) := by decide +kernel
theorem dX9_counted_127 : decode cX9_counted 127 = .ok (.lconst 0, 1) := by decide +kernel
theorem dX9_counted_128 : decode cX9_counted 128 = .ok (.lcmp, 1) := by decide +kernel
theorem dX9_counted_129 : decode cX9_counted 129 = .ok (.ifCond .le 8, 3) := by decide +kernel
theorem dX9_counted_132 : decode cX9_counted 132 = .ok (.iload 7, 2) := by decide +kernel
theorem dX9_counted_134 : decode cX9_counted 134 = .ok (.goto 5, 3) := by decide +kernel
theorem dX9_counted_137 : decode cX9_counted 137 = .ok (.iload 5, 2) := by decide +kernel
theorem dX9_counted_139 : decode cX9_counted 139 = .ok (.istore 5, 2) := by decide +kernel
theorem dX9_counted_141 : decode cX9_counted 141 = .ok (.iinc 6 1, 3) := by decide +kernel
theorem dX9_counted_144 : decode cX9_counted 144 = .ok (.goto (-69), 3) := by decide +kernel
theorem dX9_counted_147 : decode cX9_counted 147 = .ok (.iload 5, 2) := by decide +kernel
theorem dX9_counted_149 : decode cX9_counted 149 = .ok (.ireturn, 1) := by decide +kernel
theorem dX9_lies_0 : decode cX9_lies 0 = .ok (.aload_n 0, 1) := by decide +kernel
theorem dX9_lies_1 : decode cX9_lies 1 = .ok (.iload_n 1, 1) := by decide +kernel
theorem dX9_lies_2 : decode cX9_lies 2 = .ok (.invokevirtual 214, 3) := by decide +kernel
theorem dX9_lies_5 : decode cX9_lies 5 = .ok (.ifCond .ne 6, 3) := by decide +kernel
theorem dX9_lies_8 : decode cX9_lies 8 = .ok (.ldc 213, 2) := by decide +kernel
theorem dX9_lies_10 : decode cX9_lies 10 = .ok (.ireturn, 1) := by decide +kernel
theorem dX9_lies_11 : decode cX9_lies 11 = .ok (.iload_n 2, 1) := by decide +kernel
theorem dX9_lies_12 : decode cX9_lies 12 = .ok (.sipush (-999), 3) := by decide +kernel
theorem dX9_lies_15 : decode cX9_lies 15 = .ok (.sipush 999, 3) := by decide +kernel
theorem dX9_lies_18 : decode cX9_lies 18 = .ok (.invokestatic 79, 3) := by decide +kernel
theorem dX9_lies_21 : decode cX9_lies 21 = .ok (.ifCond .eq 12, 3) := by decide +kernel
theorem dX9_lies_24 : decode cX9_lies 24 = .ok (.iload_n 3, 1) := by decide +kernel
theorem dX9_lies_25 : decode cX9_lies 25 = .ok (.iconst 0, 1) := by decide +kernel
theorem dX9_lies_26 : decode cX9_lies 26 = .ok (.iconst 2, 1) := by decide +kernel
theorem dX9_lies_27 : decode cX9_lies 27 = .ok (.invokestatic 79, 3) := by decide +kernel
theorem dX9_lies_30 : decode cX9_lies 30 = .ok (.ifCond .ne 6, 3) := by decide +kernel
theorem dX9_lies_33 : decode cX9_lies 33 = .ok (.ldc 89, 2) := by decide +kernel
theorem dX9_lies_35 : decode cX9_lies 35 = .ok (.ireturn, 1) := by decide +kernel
theorem dX9_lies_36 : decode cX9_lies 36 = .ok (.iconst 0, 1) := by decide +kernel
theorem dX9_lies_37 : decode cX9_lies 37 = .ok (.istore 4, 2) := by decide +kernel
theorem dX9_lies_39 : decode cX9_lies 39 = .ok (.iconst (-1), 1) := by decide +kernel
theorem dX9_lies_40 : decode cX9_lies 40 = .ok (.istore 5, 2) := by decide +kernel
theorem dX9_lies_42 : decode cX9_lies 42 = .ok (.iconst 0, 1) := by decide +kernel
theorem dX9_lies_43 : decode cX9_lies 43 = .ok (.istore 6, 2) := by decide +kernel
theorem dX9_lies_45 : decode cX9_lies 45 = .ok (.iconst 1, 1) := by decide +kernel
theorem dX9_lies_46 : decode cX9_lies 46 = .ok (.aload_n 0, 1) := by decide +kernel
theorem dX9_lies_47 : decode cX9_lies 47 = .ok (.getfield 83, 3) := by decide +kernel
theorem dX9_lies_50 : decode cX9_lies 50 = .ok (.ishl, 1) := by decide +kernel
theorem dX9_lies_51 : decode cX9_lies 51 = .ok (.iconst 1, 1) := by decide +kernel
theorem dX9_lies_52 : decode cX9_lies 52 = .ok (.isub, 1) := by decide +kernel
theorem dX9_lies_53 : decode cX9_lies 53 = .ok (.istore 7, 2) := by decide +kernel
theorem dX9_lies_55 : decode cX9_lies 55 = .ok (.iload 7, 2) := by decide +kernel
theorem dX9_lies_57 : decode cX9_lies 57 = .ok (.ifCond .lt 156, 3) := by decide +kernel
theorem dX9_lies_60 : decode cX9_lies 60 = .ok (.iconst 0, 1) := by decide +kernel
theorem dX9_lies_61 : decode cX9_lies 61 = .ok (.istore 8, 2) := by decide +kernel
theorem dX9_lies_63 : decode cX9_lies 63 = .ok (.iconst 1, 1) := by decide +kernel
theorem dX9_lies_64 : decode cX9_lies 64 = .ok (.istore 9, 2) := by decide +kernel
theorem dX9_lies_66 : decode cX9_lies 66 = .ok (.iconst 0, 1) := by decide +kernel
theorem dX9_lies_67 : decode cX9_lies 67 = .ok (.istore 10, 2) := by decide +kernel
theorem dX9_lies_69 : decode cX9_lies 69 = .ok (.iload 10, 2) := by decide +kernel
theorem dX9_lies_71 : decode cX9_lies 71 = .ok (.aload_n 0, 1) := by decide +kernel
theorem dX9_lies_72 : decode cX9_lies 72 = .ok (.getfield 83, 3) := by decide +kernel
theorem dX9_lies_75 : decode cX9_lies 75 = .ok (.if_icmp .ge 97, 3) := by decide +kernel
theorem dX9_lies_78 : decode cX9_lies 78 = .ok (.aload_n 0, 1) := by decide +kernel
theorem dX9_lies_79 : decode cX9_lies 79 = .ok (.iload 10, 2) := by decide +kernel
theorem dX9_lies_81 : decode cX9_lies 81 = .ok (.invokevirtual 182, 3) := by decide +kernel
theorem dX9_lies_84 : decode cX9_lies 84 = .ok (.iload_n 1, 1) := by decide +kernel
theorem dX9_lies_85 : decode cX9_lies 85 = .ok (.if_icmp .ne 23, 3) := by decide +kernel
theorem dX9_lies_88 : decode cX9_lies 88 = .ok (.aload_n 0, 1) := by decide +kernel
theorem dX9_lies_89 : decode cX9_lies 89 = .ok (.iload 10, 2) := by decide +kernel
theorem dX9_lies_91 : decode cX9_lies 91 = .ok (.invokevirtual 186, 3) := by decide +kernel
theorem dX9_lies_94 : decode cX9_lies 94 = .ok (.aload_n 0, 1) := by decide +kernel
theorem dX9_lies_95 : decode cX9_lies 95 = .ok (.aload_n 0, 1) := by decide +kernel
theorem dX9_lies_96 : decode cX9_lies 96 = .ok (.getfield 35, 3) := by decide +kernel
theorem dX9_lies_99 : decode cX9_lies 99 = .ok (.iload 10, 2) := by decide +kernel
theorem dX9_lies_101 : decode cX9_lies 101 = .ok (.invokevirtual 189, 3) := by decide +kernel
theorem dX9_lies_104 : decode cX9_lies 104 = .ok (.imul, 1) := by decide +kernel
theorem dX9_lies_105 : decode cX9_lies 105 = .ok (.goto 4, 3) := by decide +kernel
theorem dX9_lies_108 : decode cX9_lies 108 = .ok (.iconst 0, 1) := by decide +kernel
theorem dX9_lies_109 : decode cX9_lies 109 = .ok (.istore 11, 2) := by decide +kernel
theorem dX9_lies_111 : decode cX9_lies 111 = .ok (.iload 9, 2) := by decide +kernel
theorem dX9_lies_113 : decode cX9_lies 113 = .ok (.ifCond .eq 27, 3) := by decide +kernel
theorem dX9_lies_116 : decode cX9_lies 116 = .ok (.aload_n 0, 1) := by decide +kernel
theorem dX9_lies_117 : decode cX9_lies 117 = .ok (.iload 10, 2) := by decide +kernel
theorem dX9_lies_119 : decode cX9_lies 119 = .ok (.invokevirtual 182, 3) := by decide +kernel
theorem dX9_lies_122 : decode cX9_lies 122 = .ok (.iload_n 1, 1) := by decide +kernel
theorem dX9_lies_123 : decode cX9_lies 123 = .ok (.if_icmp .eq 13, 3) := by decide +kernel
theorem dX9_lies_126 : decode cX9_lies 126 = .ok (.iload 7, 2) := by decide +kernel
theorem dX9_lies_128 : decode cX9_lies 128 = .ok (.iload 10, 2) := by decide +kernel
theorem dX9_lies_130 : decode cX9_lies 130 = .ok (.invokestatic 136, 3) := by decide +kernel
theorem dX9_lies_133 : decode cX9_lies 133 = .ok (.ifCond .ne 7, 3) := by decide +kernel
theorem dX9_lies_136 : decode cX9_lies 136 = .ok (.iconst 1, 1) := by decide +kernel
theorem dX9_lies_137 : decode cX9_lies 137 = .ok (.goto 4, 3) := by decide +kernel
theorem dX9_lies_140 : decode cX9_lies 140 = .ok (.iconst 0, 1) := by decide +kernel
theorem dX9_lies_141 : decode cX9_lies 141 = .ok (.istore 9, 2) := by decide +kernel
theorem dX9_lies_143 : decode cX9_lies 143 = .ok (.iload 8, 2) := by decide +kernel
theorem dX9_lies_145 : decode cX9_lies 145 = .ok (.iload 7, 2) := by decide +kernel
theorem dX9_lies_147 : decode cX9_lies 147 = .ok (.iload 10, 2) := by decide +kernel
theorem dX9_lies_149 : decode cX9_lies 149 = .ok (.invokestatic 136, 3) := by decide +kernel
theorem dX9_lies_152 : decode cX9_lies 152 = .ok (.ifCond .eq 9, 3) := by decide +kernel
theorem dX9_lies_155 : decode cX9_lies 155 = .ok (.iload 11, 2) := by decide +kernel
theorem dX9_lies_157 : decode cX9_lies 157 = .ok (.ineg, 1) := by decide +kernel
theorem dX9_lies_158 : decode cX9_lies 158 = .ok (.goto 5, 3) := by decide +kernel
theorem dX9_lies_161 : decode cX9_lies 161 = .ok (.iload 11, 2) := by decide +kernel
theorem dX9_lies_163 : decode cX9_lies 163 = .ok (.iadd, 1) := by decide +kernel
theorem dX9_lies_164 : decode cX9_lies 164 = .ok (.istore 8, 2) := by decide +kernel
theorem dX9_lies_166 : decode cX9_lies 166 = .ok (.iinc 10 1, 3) := by decide +kernel
theorem dX9_lies_169 : decode cX9_lies 169 = .ok (.goto (-100), 3) := by decide +kernel
theorem dX9_lies_172 : decode cX9_lies 172 = .ok (.iload 9, 2) := by decide +kernel
theorem dX9_lies_174 : decode cX9_lies 174 = .ok (.ifCond .eq 33, 3) := by decide +kernel
theorem dX9_lies_177 : decode cX9_lies 177 = .ok (.iload 8, 2) := by decide +kernel
theorem dX9_lies_179 : decode cX9_lies 179 = .ok (.iload_n 2, 1) := by decide +kernel
theorem dX9_lies_180 : decode cX9_lies 180 = .ok (.if_icmp .ne 27, 3) := by decide +kernel
theorem dX9_lies_183 : decode cX9_lies 183 = .ok (.iload 4, 2) := by decide +kernel
theorem dX9_lies_185 : decode cX9_lies 185 = .ok (.ifCond .ne 8, 3) := by decide +kernel
theorem dX9_lies_188 : decode cX9_lies 188 = .ok (.iload 7, 2) := by decide +kernel
theorem dX9_lies_190 : decode cX9_lies 190 = .ok (.goto 8, 3) := by decide +kernel
theorem dX9_lies_193 : decode cX9_lies 193 = .ok (.iload 6, 2) := by decide +kernel
theorem dX9_lies_195 : decode cX9_lies 195 = .ok (.iload 7, 2) := by decide +kernel
theorem dX9_lies_197 : decode cX9_lies 197 = .ok (.iand, 1) := by decide +kernel
theorem dX9_lies_198 : decode cX9_lies 198 = .ok (.istore 6, 2) := by decide +kernel
theorem dX9_lies_200 : decode cX9_lies 200 = .ok (.iload 7, 2) := by decide +kernel
theorem dX9_lies_202 : decode cX9_lies 202 = .ok (.istore 5, 2) := by decide +kernel
theorem dX9_lies_204 : decode cX9_lies 204 = .ok (.iinc 4 1, 3) := by decide +kernel
theorem dX9_lies_207 : decode cX9_lies 207 = .ok (.iinc 7 (-1), 3) := by decide +kernel
theorem dX9_lies_210 : decode cX9_lies 210 = .ok (.goto (-155), 3) := by decide +kernel
theorem dX9_lies_213 : decode cX9_lies 213 = .ok (.iload_n 3, 1) := by decide +kernel
theorem dX9_lies_214 : decode cX9_lies 214 = .ok (.ifCond .ne 8, 3) := by decide +kernel
theorem dX9_lies_217 : decode cX9_lies 217 = .ok (.iload 4, 2) := by decide +kernel
theorem dX9_lies_219 : decode cX9_lies 219 = .ok (.goto 15, 3) := by decide +kernel
theorem dX9_lies_222 : decode cX9_lies 222 = .ok (.iload_n 3, 1) := by decide +kernel
theorem dX9_lies_223 : decode cX9_lies 223 = .ok (.iconst 1, 1) := by decide +kernel
theorem dX9_lies_224 : decode cX9_lies 224 = .ok (.if_icmp .ne 8, 3) := by decide +kernel
theorem dX9_lies_227 : decode cX9_lies 227 = .ok (.iload 5, 2) := by decide +kernel
theorem dX9_lies_229 : decode cX9_lies 229 = .ok (.goto 5, 3) := by decide +kernel
theorem dX9_lies_232 : decode cX9_lies 232 = .ok (.iload 6, 2) := by decide +kernel
theorem dX9_lies_234 : decode cX9_lies 234 = .ok (.ireturn, 1) := by decide +kernel
theorem dX9_canCome_0 : decode cX9_canCome 0 = .ok (.aload_n 0, 1) := by decide +kernel
theorem dX9_canCome_1 : decode cX9_canCome 1 = .ok (.aload_n 0, 1) := by decide +kernel
theorem dX9_canCome_2 : decode cX9_canCome 2 = .ok (.getfield 35, 3) := by decide +kernel
theorem dX9_canCome_5 : decode cX9_canCome 5 = .ok (.iload_n 1, 1) := by decide +kernel
theorem dX9_canCome_6 : decode cX9_canCome 6 = .ok (.invokevirtual 199, 3) := by decide +kernel
theorem dX9_canCome_9 : decode cX9_canCome 9 = .ok (.istore 4, 2) := by decide +kernel
theorem dX9_canCome_11 : decode cX9_canCome 11 = .ok (.iconst 0, 1) := by decide +kernel
theorem dX9_canCome_12 : decode cX9_canCome 12 = .ok (.istore 5, 2) := by decide +kernel
theorem dX9_canCome_14 : decode cX9_canCome 14 = .ok (.iload 5, 2) := by decide +kernel
theorem dX9_canCome_16 : decode cX9_canCome 16 = .ok (.aload_n 0, 1) := by decide +kernel
theorem dX9_canCome_17 : decode cX9_canCome 17 = .ok (.getfield 76, 3) := by decide +kernel
theorem dX9_canCome_20 : decode cX9_canCome 20 = .ok (.if_icmp .ge 147, 3) := by decide +kernel
theorem dX9_canCome_23 : decode cX9_canCome 23 = .ok (.iconst 0, 1) := by decide +kernel
theorem dX9_canCome_24 : decode cX9_canCome 24 = .ok (.istore 6, 2) := by decide +kernel
theorem dX9_canCome_26 : decode cX9_canCome 26 = .ok (.iconst 0, 1) := by decide +kernel
theorem dX9_canCome_27 : decode cX9_canCome 27 = .ok (.istore 7, 2) := by decide +kernel
theorem dX9_canCome_29 : decode cX9_canCome 29 = .ok (.iload 7, 2) := by decide +kernel
theorem dX9_canCome_31 : decode cX9_canCome 31 = .ok (.aload_n 0, 1) := by decide +kernel
theorem dX9_canCome_32 : decode cX9_canCome 32 = .ok (.getfield 169, 3) := by decide +kernel
theorem dX9_canCome_35 : decode cX9_canCome 35 = .ok (.if_icmp .ge 119, 3) := by decide +kernel
theorem dX9_canCome_38 : decode cX9_canCome 38 = .ok (.aload_n 0, 1) := by decide +kernel
theorem dX9_canCome_39 : decode cX9_canCome 39 = .ok (.getfield 29, 3) := by decide +kernel
theorem dX9_canCome_42 : decode cX9_canCome 42 = .ok (.iconst 2, 1) := by decide +kernel
theorem dX9_canCome_43 : decode cX9_canCome 43 = .ok (.iload 7, 2) := by decide +kernel
theorem dX9_canCome_45 : decode cX9_canCome 45 = .ok (.imul, 1) := by decide +kernel
theorem dX9_canCome_46 : decode cX9_canCome 46 = .ok (.iaload, 1) := by decide +kernel
theorem dX9_canCome_47 : decode cX9_canCome 47 = .ok (.istore 8, 2) := by decide +kernel
theorem dX9_canCome_49 : decode cX9_canCome 49 = .ok (.aload_n 0, 1) := by decide +kernel
theorem dX9_canCome_50 : decode cX9_canCome 50 = .ok (.getfield 29, 3) := by decide +kernel
theorem dX9_canCome_53 : decode cX9_canCome 53 = .ok (.iconst 2, 1) := by decide +kernel
theorem dX9_canCome_54 : decode cX9_canCome 54 = .ok (.iload 7, 2) := by decide +kernel
theorem dX9_canCome_56 : decode cX9_canCome 56 = .ok (.imul, 1) := by decide +kernel
theorem dX9_canCome_57 : decode cX9_canCome 57 = .ok (.iconst 1, 1) := by decide +kernel
theorem dX9_canCome_58 : decode cX9_canCome 58 = .ok (.iadd, 1) := by decide +kernel
theorem dX9_canCome_59 : decode cX9_canCome 59 = .ok (.iaload, 1) := by decide +kernel
theorem dX9_canCome_60 : decode cX9_canCome 60 = .ok (.istore 9, 2) := by decide +kernel
theorem dX9_canCome_62 : decode cX9_canCome 62 = .ok (.iload_n 3, 1) := by decide +kernel
theorem dX9_canCome_63 : decode cX9_canCome 63 = .ok (.iload 7, 2) := by decide +kernel
theorem dX9_canCome_65 : decode cX9_canCome 65 = .ok (.invokestatic 136, 3) := by decide +kernel
theorem dX9_canCome_68 : decode cX9_canCome 68 = .ok (.ifCond .ne 7, 3) := by decide +kernel
theorem dX9_canCome_71 : decode cX9_canCome 71 = .ok (.iconst 1, 1) := by decide +kernel
theorem dX9_canCome_72 : decode cX9_canCome 72 = .ok (.goto 4, 3) := by decide +kernel
theorem dX9_canCome_75 : decode cX9_canCome 75 = .ok (.iconst 0, 1) := by decide +kernel
theorem dX9_canCome_76 : decode cX9_canCome 76 = .ok (.istore 10, 2) := by decide +kernel
theorem dX9_canCome_78 : decode cX9_canCome 78 = .ok (.iload 6, 2) := by decide +kernel
theorem dX9_canCome_80 : decode cX9_canCome 80 = .ok (.iload 10, 2) := by decide +kernel
theorem dX9_canCome_82 : decode cX9_canCome 82 = .ok (.ifCond .eq 27, 3) := by decide +kernel
theorem dX9_canCome_85 : decode cX9_canCome 85 = .ok (.iload 4, 2) := by decide +kernel
theorem dX9_canCome_87 : decode cX9_canCome 87 = .ok (.aload_n 0, 1) := by decide +kernel
theorem dX9_canCome_88 : decode cX9_canCome 88 = .ok (.getfield 172, 3) := by decide +kernel
theorem dX9_canCome_91 : decode cX9_canCome 91 = .ok (.iconst (-1), 1) := by decide +kernel
theorem dX9_canCome_92 : decode cX9_canCome 92 = .ok (.ixor, 1) := by decide +kernel
theorem dX9_canCome_93 : decode cX9_canCome 93 = .ok (.iand, 1) := by decide +kernel
theorem dX9_canCome_94 : decode cX9_canCome 94 = .ok (.iload 8, 2) := by decide +kernel
theorem dX9_canCome_96 : decode cX9_canCome 96 = .ok (.invokestatic 136, 3) := by decide +kernel
theorem dX9_canCome_99 : decode cX9_canCome 99 = .ok (.ifCond .eq 10, 3) := by decide +kernel
theorem dX9_canCome_102 : decode cX9_canCome 102 = .ok (.iconst 1, 1) := by decide +kernel
theorem dX9_canCome_103 : decode cX9_canCome 103 = .ok (.iload 9, 2) := by decide +kernel
theorem dX9_canCome_105 : decode cX9_canCome 105 = .ok (.ishl, 1) := by decide +kernel
theorem dX9_canCome_106 : decode cX9_canCome 106 = .ok (.goto 4, 3) := by decide +kernel
theorem dX9_canCome_109 : decode cX9_canCome 109 = .ok (.iconst 0, 1) := by decide +kernel
theorem dX9_canCome_110 : decode cX9_canCome 110 = .ok (.ior, 1) := by decide +kernel
theorem dX9_canCome_111 : decode cX9_canCome 111 = .ok (.istore 6, 2) := by decide +kernel
theorem dX9_canCome_113 : decode cX9_canCome 113 = .ok (.iload 6, 2) := by decide +kernel
theorem dX9_canCome_115 : decode cX9_canCome 115 = .ok (.iload 10, 2) := by decide +kernel
theorem dX9_canCome_117 : decode cX9_canCome 117 = .ok (.ifCond .eq 27, 3) := by decide +kernel
theorem dX9_canCome_120 : decode cX9_canCome 120 = .ok (.iload 4, 2) := by decide +kernel
theorem dX9_canCome_122 : decode cX9_canCome 122 = .ok (.aload_n 0, 1) := by decide +kernel
theorem dX9_canCome_123 : decode cX9_canCome 123 = .ok (.getfield 172, 3) := by decide +kernel
theorem dX9_canCome_126 : decode cX9_canCome 126 = .ok (.iconst (-1), 1) := by decide +kernel
theorem dX9_canCome_127 : decode cX9_canCome 127 = .ok (.ixor, 1) := by decide +kernel
theorem dX9_canCome_128 : decode cX9_canCome 128 = .ok (.iand, 1) := by decide +kernel
theorem dX9_canCome_129 : decode cX9_canCome 129 = .ok (.iload 9, 2) := by decide +kernel
theorem dX9_canCome_131 : decode cX9_canCome 131 = .ok (.invokestatic 136, 3) := by decide +kernel
theorem dX9_canCome_134 : decode cX9_canCome 134 = .ok (.ifCond .eq 10, 3) := by decide +kernel
theorem dX9_canCome_137 : decode cX9_canCome 137 = .ok (.iconst 1, 1) := by decide +kernel
theorem dX9_canCome_138 : decode cX9_canCome 138 = .ok (.iload 8, 2) := by decide +kernel
theorem dX9_canCome_140 : decode cX9_canCome 140 = .ok (.ishl, 1) := by decide +kernel
theorem dX9_canCome_141 : decode cX9_canCome 141 = .ok (.goto 4, 3) := by decide +kernel
theorem dX9_canCome_144 : decode cX9_canCome 144 = .ok (.iconst 0, 1) := by decide +kernel
theorem dX9_canCome_145 : decode cX9_canCome 145 = .ok (.ior, 1) := by decide +kernel
theorem dX9_canCome_146 : decode cX9_canCome 146 = .ok (.istore 6, 2) := by decide +kernel
theorem dX9_canCome_148 : decode cX9_canCome 148 = .ok (.iinc 7 1, 3) := by decide +kernel
theorem dX9_canCome_151 : decode cX9_canCome 151 = .ok (.goto (-122), 3) := by decide +kernel
theorem dX9_canCome_154 : decode cX9_canCome 154 = .ok (.iload 4, 2) := by decide +kernel
theorem dX9_canCome_156 : decode cX9_canCome 156 = .ok (.iload 6, 2) := by decide +kernel
theorem dX9_canCome_158 : decode cX9_canCome 158 = .ok (.ior, 1) := by decide +kernel
theorem dX9_canCome_159 : decode cX9_canCome 159 = .ok (.istore 4, 2) := by decide +kernel
theorem dX9_canCome_161 : decode cX9_canCome 161 = .ok (.iinc 5 1, 3) := by decide +kernel
theorem dX9_canCome_164 : decode cX9_canCome 164 = .ok (.goto (-150), 3) := by decide +kernel
theorem dX9_canCome_167 : decode cX9_canCome 167 = .ok (.iload 4, 2) := by decide +kernel
theorem dX9_canCome_169 : decode cX9_canCome 169 = .ok (.iload_n 2, 1) := by decide +kernel
theorem dX9_canCome_170 : decode cX9_canCome 170 = .ok (.invokestatic 136, 3) := by decide +kernel
theorem dX9_canCome_173 : decode cX9_canCome 173 = .ok (.ireturn, 1) := by decide +kernel
theorem dX9_bits_0 : decode cX9_bits 0 = .ok (.iconst 0, 1) := by decide +kernel
theorem dX9_bits_1 : decode cX9_bits 1 = .ok (.istore_n 1, 1) := by decide +kernel
theorem dX9_bits_2 : decode cX9_bits 2 = .ok (.iconst 0, 1) := by decide +kernel
theorem dX9_bits_3 : decode cX9_bits 3 = .ok (.istore_n 2, 1) := by decide +kernel
theorem dX9_bits_4 : decode cX9_bits 4 = .ok (.iload_n 2, 1) := by decide +kernel
theorem dX9_bits_5 : decode cX9_bits 5 = .ok (.bipush 12, 2) := by decide +kernel
theorem dX9_bits_7 : decode cX9_bits 7 = .ok (.if_icmp .ge 17, 3) := by decide +kernel
theorem dX9_bits_10 : decode cX9_bits 10 = .ok (.iload_n 1, 1) := by decide +kernel
theorem dX9_bits_11 : decode cX9_bits 11 = .ok (.iload_n 0, 1) := by decide +kernel
theorem dX9_bits_12 : decode cX9_bits 12 = .ok (.iload_n 2, 1) := by decide +kernel
theorem dX9_bits_13 : decode cX9_bits 13 = .ok (.ishr, 1) := by decide +kernel
theorem dX9_bits_14 : decode cX9_bits 14 = .ok (.iconst 1, 1) := by decide +kernel
theorem dX9_bits_15 : decode cX9_bits 15 = .ok (.iand, 1) := by decide +kernel
theorem dX9_bits_16 : decode cX9_bits 16 = .ok (.iadd, 1) := by decide +kernel
theorem dX9_bits_17 : decode cX9_bits 17 = .ok (.istore_n 1, 1) := by decide +kernel
theorem dX9_bits_18 : decode cX9_bits 18 = .ok (.iinc 2 1, 3) := by decide +kernel
theorem dX9_bits_21 : decode cX9_bits 21 = .ok (.goto (-17), 3) := by decide +kernel
theorem dX9_bits_24 : decode cX9_bits 24 = .ok (.iload_n 1, 1) := by decide +kernel
theorem dX9_bits_25 : decode cX9_bits 25 = .ok (.ireturn, 1) := by decide +kernel
theorem dX9_apart_0 : decode cX9_apart 0 = .ok (.aload_n 0, 1) := by decide +kernel
theorem dX9_apart_1 : decode cX9_apart 1 = .ok (.iload_n 1, 1) := by decide +kernel
theorem dX9_apart_2 : decode cX9_apart 2 = .ok (.invokevirtual 210, 3) := by decide +kernel
theorem dX9_apart_5 : decode cX9_apart 5 = .ok (.ifCond .eq 11, 3) := by decide +kernel
theorem dX9_apart_8 : decode cX9_apart 8 = .ok (.aload_n 0, 1) := by decide +kernel
theorem dX9_apart_9 : decode cX9_apart 9 = .ok (.iload_n 2, 1) := by decide +kernel
theorem dX9_apart_10 : decode cX9_apart 10 = .ok (.invokevirtual 214, 3) := by decide +kernel
theorem dX9_apart_13 : decode cX9_apart 13 = .ok (.ifCond .ne 6, 3) := by decide +kernel
theorem dX9_apart_16 : decode cX9_apart 16 = .ok (.ldc 213, 2) := by decide +kernel
theorem dX9_apart_18 : decode cX9_apart 18 = .ok (.ireturn, 1) := by decide +kernel
theorem dX9_apart_19 : decode cX9_apart 19 = .ok (.iload_n 3, 1) := by decide +kernel
theorem dX9_apart_20 : decode cX9_apart 20 = .ok (.iconst 0, 1) := by decide +kernel
theorem dX9_apart_21 : decode cX9_apart 21 = .ok (.iconst 1, 1) := by decide +kernel
theorem dX9_apart_22 : decode cX9_apart 22 = .ok (.invokestatic 79, 3) := by decide +kernel
theorem dX9_apart_25 : decode cX9_apart 25 = .ok (.ifCond .ne 6, 3) := by decide +kernel
theorem dX9_apart_28 : decode cX9_apart 28 = .ok (.ldc 89, 2) := by decide +kernel
theorem dX9_apart_30 : decode cX9_apart 30 = .ok (.ireturn, 1) := by decide +kernel
theorem dX9_apart_31 : decode cX9_apart 31 = .ok (.aload_n 0, 1) := by decide +kernel
theorem dX9_apart_32 : decode cX9_apart 32 = .ok (.getfield 35, 3) := by decide +kernel
theorem dX9_apart_35 : decode cX9_apart 35 = .ok (.iload_n 2, 1) := by decide +kernel
theorem dX9_apart_36 : decode cX9_apart 36 = .ok (.iload_n 1, 1) := by decide +kernel
theorem dX9_apart_37 : decode cX9_apart 37 = .ok (.invokestatic 178, 3) := by decide +kernel
theorem dX9_apart_40 : decode cX9_apart 40 = .ok (.ifCond .eq 6, 3) := by decide +kernel
theorem dX9_apart_43 : decode cX9_apart 43 = .ok (.ldc 223, 2) := by decide +kernel
theorem dX9_apart_45 : decode cX9_apart 45 = .ok (.ireturn, 1) := by decide +kernel
theorem dX9_apart_46 : decode cX9_apart 46 = .ok (.iconst 1, 1) := by decide +kernel
theorem dX9_apart_47 : decode cX9_apart 47 = .ok (.aload_n 0, 1) := by decide +kernel
theorem dX9_apart_48 : decode cX9_apart 48 = .ok (.getfield 169, 3) := by decide +kernel
theorem dX9_apart_51 : decode cX9_apart 51 = .ok (.ishl, 1) := by decide +kernel
theorem dX9_apart_52 : decode cX9_apart 52 = .ok (.iconst 1, 1) := by decide +kernel
theorem dX9_apart_53 : decode cX9_apart 53 = .ok (.isub, 1) := by decide +kernel
theorem dX9_apart_54 : decode cX9_apart 54 = .ok (.istore 4, 2) := by decide +kernel
theorem dX9_apart_56 : decode cX9_apart 56 = .ok (.iload 4, 2) := by decide +kernel
theorem dX9_apart_58 : decode cX9_apart 58 = .ok (.istore 5, 2) := by decide +kernel
theorem dX9_apart_60 : decode cX9_apart 60 = .ok (.iload 5, 2) := by decide +kernel
theorem dX9_apart_62 : decode cX9_apart 62 = .ok (.ifCond .lt 42, 3) := by decide +kernel
theorem dX9_apart_65 : decode cX9_apart 65 = .ok (.iload 5, 2) := by decide +kernel
theorem dX9_apart_67 : decode cX9_apart 67 = .ok (.invokestatic 255, 3) := by decide +kernel
theorem dX9_apart_70 : decode cX9_apart 70 = .ok (.iload 4, 2) := by decide +kernel
theorem dX9_apart_72 : decode cX9_apart 72 = .ok (.invokestatic 255, 3) := by decide +kernel
theorem dX9_apart_75 : decode cX9_apart 75 = .ok (.if_icmp .gt 19, 3) := by decide +kernel
theorem dX9_apart_78 : decode cX9_apart 78 = .ok (.aload_n 0, 1) := by decide +kernel
theorem dX9_apart_79 : decode cX9_apart 79 = .ok (.iload_n 1, 1) := by decide +kernel
theorem dX9_apart_80 : decode cX9_apart 80 = .ok (.iload_n 2, 1) := by decide +kernel
theorem dX9_apart_81 : decode cX9_apart 81 = .ok (.iload 5, 2) := by decide +kernel
theorem dX9_apart_83 : decode cX9_apart 83 = .ok (.invokevirtual 258, 3) := by decide +kernel
theorem dX9_apart_86 : decode cX9_apart 86 = .ok (.ifCond .ne 8, 3) := by decide +kernel
theorem dX9_apart_89 : decode cX9_apart 89 = .ok (.iload 5, 2) := by decide +kernel
theorem dX9_apart_91 : decode cX9_apart 91 = .ok (.goto 5, 3) := by decide +kernel
theorem dX9_apart_94 : decode cX9_apart 94 = .ok (.iload 4, 2) := by decide +kernel
theorem dX9_apart_96 : decode cX9_apart 96 = .ok (.istore 4, 2) := by decide +kernel
theorem dX9_apart_98 : decode cX9_apart 98 = .ok (.iinc 5 (-1), 3) := by decide +kernel
theorem dX9_apart_101 : decode cX9_apart 101 = .ok (.goto (-41), 3) := by decide +kernel
theorem dX9_apart_104 : decode cX9_apart 104 = .ok (.iload_n 3, 1) := by decide +kernel
theorem dX9_apart_105 : decode cX9_apart 105 = .ok (.ifCond .ne 11, 3) := by decide +kernel
theorem dX9_apart_108 : decode cX9_apart 108 = .ok (.iload 4, 2) := by decide +kernel
theorem dX9_apart_110 : decode cX9_apart 110 = .ok (.invokestatic 255, 3) := by decide +kernel
theorem dX9_apart_113 : decode cX9_apart 113 = .ok (.goto 5, 3) := by decide +kernel
theorem dX9_apart_116 : decode cX9_apart 116 = .ok (.iload 4, 2) := by decide +kernel
theorem dX9_apart_118 : decode cX9_apart 118 = .ok (.ireturn, 1) := by decide +kernel
theorem dX9_forgotten_0 : decode cX9_forgotten 0 = .ok (.iconst (-1), 1) := by decide +kernel
theorem dX9_forgotten_1 : decode cX9_forgotten 1 = .ok (.istore 4, 2) := by decide +kernel
theorem dX9_forgotten_3 : decode cX9_forgotten 3 = .ok (.iconst 1, 1) := by decide +kernel
theorem dX9_forgotten_4 : decode cX9_forgotten 4 = .ok (.aload_n 0, 1) := by decide +kernel
theorem dX9_forgotten_5 : decode cX9_forgotten 5 = .ok (.getfield 83, 3) := by decide +kernel
theorem dX9_forgotten_8 : decode cX9_forgotten 8 = .ok (.ishl, 1) := by decide +kernel
theorem dX9_forgotten_9 : decode cX9_forgotten 9 = .ok (.iconst 1, 1) := by decide +kernel
theorem dX9_forgotten_10 : decode cX9_forgotten 10 = .ok (.isub, 1) := by decide +kernel
theorem dX9_forgotten_11 : decode cX9_forgotten 11 = .ok (.istore 5, 2) := by decide +kernel
theorem dX9_forgotten_13 : decode cX9_forgotten 13 = .ok (.iload 5, 2) := by decide +kernel
theorem dX9_forgotten_15 : decode cX9_forgotten 15 = .ok (.ifCond .lt 140, 3) := by decide +kernel
theorem dX9_forgotten_18 : decode cX9_forgotten 18 = .ok (.iconst 0, 1) := by decide +kernel
theorem dX9_forgotten_19 : decode cX9_forgotten 19 = .ok (.istore 6, 2) := by decide +kernel
theorem dX9_forgotten_21 : decode cX9_forgotten 21 = .ok (.iconst 1, 1) := by decide +kernel
theorem dX9_forgotten_22 : decode cX9_forgotten 22 = .ok (.istore 7, 2) := by decide +kernel
theorem dX9_forgotten_24 : decode cX9_forgotten 24 = .ok (.iconst 0, 1) := by decide +kernel
theorem dX9_forgotten_25 : decode cX9_forgotten 25 = .ok (.istore 8, 2) := by decide +kernel
theorem dX9_forgotten_27 : decode cX9_forgotten 27 = .ok (.iload 8, 2) := by decide +kernel
theorem dX9_forgotten_29 : decode cX9_forgotten 29 = .ok (.aload_n 0, 1) := by decide +kernel
theorem dX9_forgotten_30 : decode cX9_forgotten 30 = .ok (.getfield 83, 3) := by decide +kernel
theorem dX9_forgotten_33 : decode cX9_forgotten 33 = .ok (.if_icmp .ge 96, 3) := by decide +kernel
theorem dX9_forgotten_36 : decode cX9_forgotten 36 = .ok (.iload 5, 2) := by decide +kernel
theorem dX9_forgotten_38 : decode cX9_forgotten 38 = .ok (.iload 8, 2) := by decide +kernel
theorem dX9_forgotten_40 : decode cX9_forgotten 40 = .ok (.ishr, 1) := by decide +kernel
theorem dX9_forgotten_41 : decode cX9_forgotten 41 = .ok (.iconst 1, 1) := by decide +kernel
theorem dX9_forgotten_42 : decode cX9_forgotten 42 = .ok (.iand, 1) := by decide +kernel
theorem dX9_forgotten_43 : decode cX9_forgotten 43 = .ok (.iconst 1, 1) := by decide +kernel
theorem dX9_forgotten_44 : decode cX9_forgotten 44 = .ok (.if_icmp .ne 7, 3) := by decide +kernel
theorem dX9_forgotten_47 : decode cX9_forgotten 47 = .ok (.iconst 1, 1) := by decide +kernel
theorem dX9_forgotten_48 : decode cX9_forgotten 48 = .ok (.goto 4, 3) := by decide +kernel
theorem dX9_forgotten_51 : decode cX9_forgotten 51 = .ok (.iconst 0, 1) := by decide +kernel
theorem dX9_forgotten_52 : decode cX9_forgotten 52 = .ok (.istore 9, 2) := by decide +kernel
theorem dX9_forgotten_54 : decode cX9_forgotten 54 = .ok (.iload 7, 2) := by decide +kernel
theorem dX9_forgotten_56 : decode cX9_forgotten 56 = .ok (.ifCond .eq 44, 3) := by decide +kernel
theorem dX9_forgotten_59 : decode cX9_forgotten 59 = .ok (.iload 9, 2) := by decide +kernel
theorem dX9_forgotten_61 : decode cX9_forgotten 61 = .ok (.ifCond .eq 35, 3) := by decide +kernel
theorem dX9_forgotten_64 : decode cX9_forgotten 64 = .ok (.aload_n 0, 1) := by decide +kernel
theorem dX9_forgotten_65 : decode cX9_forgotten 65 = .ok (.iload 8, 2) := by decide +kernel
theorem dX9_forgotten_67 : decode cX9_forgotten 67 = .ok (.invokevirtual 182, 3) := by decide +kernel
theorem dX9_forgotten_70 : decode cX9_forgotten 70 = .ok (.iload_n 2, 1) := by decide +kernel
theorem dX9_forgotten_71 : decode cX9_forgotten 71 = .ok (.if_icmp .ne 29, 3) := by decide +kernel
theorem dX9_forgotten_74 : decode cX9_forgotten 74 = .ok (.aload_n 0, 1) := by decide +kernel
theorem dX9_forgotten_75 : decode cX9_forgotten 75 = .ok (.getfield 35, 3) := by decide +kernel
theorem dX9_forgotten_78 : decode cX9_forgotten 78 = .ok (.iload_n 1, 1) := by decide +kernel
theorem dX9_forgotten_79 : decode cX9_forgotten 79 = .ok (.iload 8, 2) := by decide +kernel
theorem dX9_forgotten_81 : decode cX9_forgotten 81 = .ok (.invokestatic 178, 3) := by decide +kernel
theorem dX9_forgotten_84 : decode cX9_forgotten 84 = .ok (.ifCond .eq 16, 3) := by decide +kernel
theorem dX9_forgotten_87 : decode cX9_forgotten 87 = .ok (.aload_n 0, 1) := by decide +kernel
theorem dX9_forgotten_88 : decode cX9_forgotten 88 = .ok (.iload 8, 2) := by decide +kernel
theorem dX9_forgotten_90 : decode cX9_forgotten 90 = .ok (.invokevirtual 193, 3) := by decide +kernel
theorem dX9_forgotten_93 : decode cX9_forgotten 93 = .ok (.ifCond .ne 7, 3) := by decide +kernel
theorem dX9_forgotten_96 : decode cX9_forgotten 96 = .ok (.iconst 1, 1) := by decide +kernel
theorem dX9_forgotten_97 : decode cX9_forgotten 97 = .ok (.goto 4, 3) := by decide +kernel
theorem dX9_forgotten_100 : decode cX9_forgotten 100 = .ok (.iconst 0, 1) := by decide +kernel
theorem dX9_forgotten_101 : decode cX9_forgotten 101 = .ok (.istore 7, 2) := by decide +kernel
theorem dX9_forgotten_103 : decode cX9_forgotten 103 = .ok (.iload 6, 2) := by decide +kernel
theorem dX9_forgotten_105 : decode cX9_forgotten 105 = .ok (.iload 9, 2) := by decide +kernel
theorem dX9_forgotten_107 : decode cX9_forgotten 107 = .ok (.ifCond .eq 12, 3) := by decide +kernel
theorem dX9_forgotten_110 : decode cX9_forgotten 110 = .ok (.aload_n 0, 1) := by decide +kernel
theorem dX9_forgotten_111 : decode cX9_forgotten 111 = .ok (.iload 8, 2) := by decide +kernel
theorem dX9_forgotten_113 : decode cX9_forgotten 113 = .ok (.invokevirtual 186, 3) := by decide +kernel
theorem dX9_forgotten_116 : decode cX9_forgotten 116 = .ok (.goto 4, 3) := by decide +kernel
theorem dX9_forgotten_119 : decode cX9_forgotten 119 = .ok (.iconst 0, 1) := by decide +kernel
theorem dX9_forgotten_120 : decode cX9_forgotten 120 = .ok (.iadd, 1) := by decide +kernel
theorem dX9_forgotten_121 : decode cX9_forgotten 121 = .ok (.istore 6, 2) := by decide +kernel
theorem dX9_forgotten_123 : decode cX9_forgotten 123 = .ok (.iinc 8 1, 3) := by decide +kernel
theorem dX9_forgotten_126 : decode cX9_forgotten 126 = .ok (.goto (-99), 3) := by decide +kernel
theorem dX9_forgotten_129 : decode cX9_forgotten 129 = .ok (.iload 7, 2) := by decide +kernel
theorem dX9_forgotten_131 : decode cX9_forgotten 131 = .ok (.ifCond .eq 14, 3) := by decide +kernel
theorem dX9_forgotten_134 : decode cX9_forgotten 134 = .ok (.iload 6, 2) := by decide +kernel
theorem dX9_forgotten_136 : decode cX9_forgotten 136 = .ok (.iload_n 3, 1) := by decide +kernel
theorem dX9_forgotten_137 : decode cX9_forgotten 137 = .ok (.if_icmp .ne 8, 3) := by decide +kernel
theorem dX9_forgotten_140 : decode cX9_forgotten 140 = .ok (.iload 5, 2) := by decide +kernel
theorem dX9_forgotten_142 : decode cX9_forgotten 142 = .ok (.goto 5, 3) := by decide +kernel
theorem dX9_forgotten_145 : decode cX9_forgotten 145 = .ok (.iload 4, 2) := by decide +kernel
theorem dX9_forgotten_147 : decode cX9_forgotten 147 = .ok (.istore 4, 2) := by decide +kernel
theorem dX9_forgotten_149 : decode cX9_forgotten 149 = .ok (.iinc 5 (-1), 3) := by decide +kernel
theorem dX9_forgotten_152 : decode cX9_forgotten 152 = .ok (.goto (-139), 3) := by decide +kernel
theorem dX9_forgotten_155 : decode cX9_forgotten 155 = .ok (.iload 4, 2) := by decide +kernel
theorem dX9_forgotten_157 : decode cX9_forgotten 157 = .ok (.ireturn, 1) := by decide +kernel
theorem dX9_treaty_0 : decode cX9_treaty 0 = .ok (.aload_n 0, 1) := by decide +kernel
theorem dX9_treaty_1 : decode cX9_treaty 1 = .ok (.iload_n 1, 1) := by decide +kernel
theorem dX9_treaty_2 : decode cX9_treaty 2 = .ok (.invokevirtual 214, 3) := by decide +kernel
theorem dX9_treaty_5 : decode cX9_treaty 5 = .ok (.ifCond .eq 16, 3) := by decide +kernel
theorem dX9_treaty_8 : decode cX9_treaty 8 = .ok (.aload_n 0, 1) := by decide +kernel
theorem dX9_treaty_9 : decode cX9_treaty 9 = .ok (.iload_n 2, 1) := by decide +kernel
theorem dX9_treaty_10 : decode cX9_treaty 10 = .ok (.invokevirtual 214, 3) := by decide +kernel
theorem dX9_treaty_13 : decode cX9_treaty 13 = .ok (.ifCond .eq 8, 3) := by decide +kernel
theorem dX9_treaty_16 : decode cX9_treaty 16 = .ok (.iload_n 1, 1) := by decide +kernel
theorem dX9_treaty_17 : decode cX9_treaty 17 = .ok (.iload_n 2, 1) := by decide +kernel
theorem dX9_treaty_18 : decode cX9_treaty 18 = .ok (.if_icmp .ne 6, 3) := by decide +kernel
theorem dX9_treaty_21 : decode cX9_treaty 21 = .ok (.ldc 213, 2) := by decide +kernel
theorem dX9_treaty_23 : decode cX9_treaty 23 = .ok (.ireturn, 1) := by decide +kernel
theorem dX9_treaty_24 : decode cX9_treaty 24 = .ok (.iload_n 3, 1) := by decide +kernel
theorem dX9_treaty_25 : decode cX9_treaty 25 = .ok (.iconst 0, 1) := by decide +kernel
theorem dX9_treaty_26 : decode cX9_treaty 26 = .ok (.iconst 2, 1) := by decide +kernel
theorem dX9_treaty_27 : decode cX9_treaty 27 = .ok (.invokestatic 79, 3) := by decide +kernel
theorem dX9_treaty_30 : decode cX9_treaty 30 = .ok (.ifCond .ne 6, 3) := by decide +kernel
theorem dX9_treaty_33 : decode cX9_treaty 33 = .ok (.ldc 89, 2) := by decide +kernel
theorem dX9_treaty_35 : decode cX9_treaty 35 = .ok (.ireturn, 1) := by decide +kernel
theorem dX9_treaty_36 : decode cX9_treaty 36 = .ok (.bipush 72, 2) := by decide +kernel
theorem dX9_treaty_38 : decode cX9_treaty 38 = .ok (.istore 4, 2) := by decide +kernel
theorem dX9_treaty_40 : decode cX9_treaty 40 = .ok (.aload_n 0, 1) := by decide +kernel
theorem dX9_treaty_41 : decode cX9_treaty 41 = .ok (.iload_n 1, 1) := by decide +kernel
theorem dX9_treaty_42 : decode cX9_treaty 42 = .ok (.iload_n 2, 1) := by decide +kernel
theorem dX9_treaty_43 : decode cX9_treaty 43 = .ok (.iload 4, 2) := by decide +kernel
theorem dX9_treaty_45 : decode cX9_treaty 45 = .ok (.invokevirtual 261, 3) := by decide +kernel
theorem dX9_treaty_48 : decode cX9_treaty 48 = .ok (.iconst (-1), 1) := by decide +kernel
theorem dX9_treaty_49 : decode cX9_treaty 49 = .ok (.if_icmp .eq 15, 3) := by decide +kernel
theorem dX9_treaty_52 : decode cX9_treaty 52 = .ok (.aload_n 0, 1) := by decide +kernel
theorem dX9_treaty_53 : decode cX9_treaty 53 = .ok (.iload_n 2, 1) := by decide +kernel
theorem dX9_treaty_54 : decode cX9_treaty 54 = .ok (.iload_n 1, 1) := by decide +kernel
theorem dX9_treaty_55 : decode cX9_treaty 55 = .ok (.iload 4, 2) := by decide +kernel
theorem dX9_treaty_57 : decode cX9_treaty 57 = .ok (.invokevirtual 261, 3) := by decide +kernel
theorem dX9_treaty_60 : decode cX9_treaty 60 = .ok (.iconst (-1), 1) := by decide +kernel
theorem dX9_treaty_61 : decode cX9_treaty 61 = .ok (.if_icmp .ne 9, 3) := by decide +kernel
theorem dX9_treaty_64 : decode cX9_treaty 64 = .ok (.iinc 4 (-1), 3) := by decide +kernel
theorem dX9_treaty_67 : decode cX9_treaty 67 = .ok (.goto (-27), 3) := by decide +kernel
theorem dX9_treaty_70 : decode cX9_treaty 70 = .ok (.iload_n 3, 1) := by decide +kernel
theorem dX9_treaty_71 : decode cX9_treaty 71 = .ok (.ifCond .ne 8, 3) := by decide +kernel
theorem dX9_treaty_74 : decode cX9_treaty 74 = .ok (.iload 4, 2) := by decide +kernel
theorem dX9_treaty_76 : decode cX9_treaty 76 = .ok (.goto 27, 3) := by decide +kernel
theorem dX9_treaty_79 : decode cX9_treaty 79 = .ok (.iload_n 3, 1) := by decide +kernel
theorem dX9_treaty_80 : decode cX9_treaty 80 = .ok (.iconst 1, 1) := by decide +kernel
theorem dX9_treaty_81 : decode cX9_treaty 81 = .ok (.if_icmp .ne 14, 3) := by decide +kernel
theorem dX9_treaty_84 : decode cX9_treaty 84 = .ok (.aload_n 0, 1) := by decide +kernel
theorem dX9_treaty_85 : decode cX9_treaty 85 = .ok (.iload_n 1, 1) := by decide +kernel
theorem dX9_treaty_86 : decode cX9_treaty 86 = .ok (.iload_n 2, 1) := by decide +kernel
theorem dX9_treaty_87 : decode cX9_treaty 87 = .ok (.iload 4, 2) := by decide +kernel
theorem dX9_treaty_89 : decode cX9_treaty 89 = .ok (.invokevirtual 261, 3) := by decide +kernel
theorem dX9_treaty_92 : decode cX9_treaty 92 = .ok (.goto 11, 3) := by decide +kernel
theorem dX9_treaty_95 : decode cX9_treaty 95 = .ok (.aload_n 0, 1) := by decide +kernel
theorem dX9_treaty_96 : decode cX9_treaty 96 = .ok (.iload_n 2, 1) := by decide +kernel
theorem dX9_treaty_97 : decode cX9_treaty 97 = .ok (.iload_n 1, 1) := by decide +kernel
theorem dX9_treaty_98 : decode cX9_treaty 98 = .ok (.iload 4, 2) := by decide +kernel
theorem dX9_treaty_100 : decode cX9_treaty 100 = .ok (.invokevirtual 261, 3) := by decide +kernel
theorem dX9_treaty_103 : decode cX9_treaty 103 = .ok (.ireturn, 1) := by decide +kernel
theorem dX9_odds_0 : decode cX9_odds 0 = .ok (.aload_n 0, 1) := by decide +kernel
theorem dX9_odds_1 : decode cX9_odds 1 = .ok (.iload_n 1, 1) := by decide +kernel
theorem dX9_odds_2 : decode cX9_odds 2 = .ok (.invokevirtual 214, 3) := by decide +kernel
theorem dX9_odds_5 : decode cX9_odds 5 = .ok (.ifCond .eq 11, 3) := by decide +kernel
theorem dX9_odds_8 : decode cX9_odds 8 = .ok (.aload_n 0, 1) := by decide +kernel
theorem dX9_odds_9 : decode cX9_odds 9 = .ok (.iload_n 2, 1) := by decide +kernel
theorem dX9_odds_10 : decode cX9_odds 10 = .ok (.invokevirtual 220, 3) := by decide +kernel
theorem dX9_odds_13 : decode cX9_odds 13 = .ok (.ifCond .ne 6, 3) := by decide +kernel
theorem dX9_odds_16 : decode cX9_odds 16 = .ok (.ldc 213, 2) := by decide +kernel
theorem dX9_odds_18 : decode cX9_odds 18 = .ok (.ireturn, 1) := by decide +kernel
theorem dX9_odds_19 : decode cX9_odds 19 = .ok (.iload_n 3, 1) := by decide +kernel
theorem dX9_odds_20 : decode cX9_odds 20 = .ok (.iconst 0, 1) := by decide +kernel
theorem dX9_odds_21 : decode cX9_odds 21 = .ok (.bipush 100, 2) := by decide +kernel
theorem dX9_odds_23 : decode cX9_odds 23 = .ok (.invokestatic 79, 3) := by decide +kernel
theorem dX9_odds_26 : decode cX9_odds 26 = .ok (.ifCond .ne 6, 3) := by decide +kernel
theorem dX9_odds_29 : decode cX9_odds 29 = .ok (.ldc 89, 2) := by decide +kernel
theorem dX9_odds_31 : decode cX9_odds 31 = .ok (.ireturn, 1) := by decide +kernel
theorem dX9_odds_32 : decode cX9_odds 32 = .ok (.iconst 0, 1) := by decide +kernel
theorem dX9_odds_33 : decode cX9_odds 33 = .ok (.istore 4, 2) := by decide +kernel
theorem dX9_odds_35 : decode cX9_odds 35 = .ok (.iload 4, 2) := by decide +kernel
theorem dX9_odds_37 : decode cX9_odds 37 = .ok (.sipush 1200, 3) := by decide +kernel
theorem dX9_odds_40 : decode cX9_odds 40 = .ok (.if_icmp .ge 17, 3) := by decide +kernel
theorem dX9_odds_43 : decode cX9_odds 43 = .ok (.aload_n 0, 1) := by decide +kernel
theorem dX9_odds_44 : decode cX9_odds 44 = .ok (.getfield 60, 3) := by decide +kernel
theorem dX9_odds_47 : decode cX9_odds 47 = .ok (.iload 4, 2) := by decide +kernel
theorem dX9_odds_49 : decode cX9_odds 49 = .ok (.lconst 0, 1) := by decide +kernel
theorem dX9_odds_50 : decode cX9_odds 50 = .ok (.lastore, 1) := by decide +kernel
theorem dX9_odds_51 : decode cX9_odds 51 = .ok (.iinc 4 1, 3) := by decide +kernel
theorem dX9_odds_54 : decode cX9_odds 54 = .ok (.goto (-19), 3) := by decide +kernel
theorem dX9_odds_57 : decode cX9_odds 57 = .ok (.aload_n 0, 1) := by decide +kernel
theorem dX9_odds_58 : decode cX9_odds 58 = .ok (.getfield 60, 3) := by decide +kernel
theorem dX9_odds_61 : decode cX9_odds 61 = .ok (.sipush 600, 3) := by decide +kernel
theorem dX9_odds_64 : decode cX9_odds 64 = .ok (.aload_n 0, 1) := by decide +kernel
theorem dX9_odds_65 : decode cX9_odds 65 = .ok (.aload_n 0, 1) := by decide +kernel
theorem dX9_odds_66 : decode cX9_odds 66 = .ok (.getfield 35, 3) := by decide +kernel
theorem dX9_odds_69 : decode cX9_odds 69 = .ok (.iload_n 1, 1) := by decide +kernel
theorem dX9_odds_70 : decode cX9_odds 70 = .ok (.invokevirtual 217, 3) := by decide +kernel
theorem dX9_odds_73 : decode cX9_odds 73 = .ok (.iadd, 1) := by decide +kernel
theorem dX9_odds_74 : decode cX9_odds 74 = .ok (.ldc2_w 265, 3) := by decide +kernel
theorem dX9_odds_77 : decode cX9_odds 77 = .ok (.lastore, 1) := by decide +kernel
theorem dX9_odds_78 : decode cX9_odds 78 = .ok (.iconst 0, 1) := by decide +kernel
theorem dX9_odds_79 : decode cX9_odds 79 = .ok (.istore 4, 2) := by decide +kernel
theorem dX9_odds_81 : decode cX9_odds 81 = .ok (.iload 4, 2) := by decide +kernel
theorem dX9_odds_83 : decode cX9_odds 83 = .ok (.aload_n 0, 1) := by decide +kernel
theorem dX9_odds_84 : decode cX9_odds 84 = .ok (.getfield 83, 3) := by decide +kernel
theorem dX9_odds_87 : decode cX9_odds 87 = .ok (.if_icmp .ge 209, 3) := by decide +kernel
theorem dX9_odds_90 : decode cX9_odds 90 = .ok (.aload_n 0, 1) := by decide +kernel
theorem dX9_odds_91 : decode cX9_odds 91 = .ok (.iload 4, 2) := by decide +kernel
theorem dX9_odds_93 : decode cX9_odds 93 = .ok (.invokevirtual 193, 3) := by decide +kernel
theorem dX9_odds_96 : decode cX9_odds 96 = .ok (.ifCond .eq 12, 3) := by decide +kernel
theorem dX9_odds_99 : decode cX9_odds 99 = .ok (.aload_n 0, 1) := by decide +kernel
theorem dX9_odds_100 : decode cX9_odds 100 = .ok (.iload 4, 2) := by decide +kernel
theorem dX9_odds_102 : decode cX9_odds 102 = .ok (.invokevirtual 186, 3) := by decide +kernel
theorem dX9_odds_105 : decode cX9_odds 105 = .ok (.goto 10, 3) := by decide +kernel
theorem dX9_odds_108 : decode cX9_odds 108 = .ok (.aload_n 0, 1) := by decide +kernel
theorem dX9_odds_109 : decode cX9_odds 109 = .ok (.iload 4, 2) := by decide +kernel
theorem dX9_odds_111 : decode cX9_odds 111 = .ok (.invokevirtual 186, 3) := by decide +kernel
theorem dX9_odds_114 : decode cX9_odds 114 = .ok (.ineg, 1) := by decide +kernel
theorem dX9_odds_115 : decode cX9_odds 115 = .ok (.istore 5, 2) := by decide +kernel
theorem dX9_odds_117 : decode cX9_odds 117 = .ok (.aload_n 0, 1) := by decide +kernel
theorem dX9_odds_118 : decode cX9_odds 118 = .ok (.iload 4, 2) := by decide +kernel
theorem dX9_odds_120 : decode cX9_odds 120 = .ok (.invokevirtual 182, 3) := by decide +kernel
theorem dX9_odds_123 : decode cX9_odds 123 = .ok (.iload_n 1, 1) := by decide +kernel
theorem dX9_odds_124 : decode cX9_odds 124 = .ok (.if_icmp .ne 16, 3) := by decide +kernel
theorem dX9_odds_127 : decode cX9_odds 127 = .ok (.aload_n 0, 1) := by decide +kernel
theorem dX9_odds_128 : decode cX9_odds 128 = .ok (.aload_n 0, 1) := by decide +kernel
theorem dX9_odds_129 : decode cX9_odds 129 = .ok (.getfield 35, 3) := by decide +kernel
theorem dX9_odds_132 : decode cX9_odds 132 = .ok (.iload 4, 2) := by decide +kernel
theorem dX9_odds_134 : decode cX9_odds 134 = .ok (.invokevirtual 189, 3) := by decide +kernel
theorem dX9_odds_137 : decode cX9_odds 137 = .ok (.goto 4, 3) := by decide +kernel
theorem dX9_odds_140 : decode cX9_odds 140 = .ok (.iconst 0, 1) := by decide +kernel
theorem dX9_odds_141 : decode cX9_odds 141 = .ok (.istore 6, 2) := by decide +kernel
theorem dX9_odds_143 : decode cX9_odds 143 = .ok (.iload 6, 2) := by decide +kernel
theorem dX9_odds_145 : decode cX9_odds 145 = .ok (.ifCond .le 145, 3) := by decide +kernel
theorem dX9_odds_148 : decode cX9_odds 148 = .ok (.iconst 0, 1) := by decide +kernel
theorem dX9_odds_149 : decode cX9_odds 149 = .ok (.istore 7, 2) := by decide +kernel
theorem dX9_odds_151 : decode cX9_odds 151 = .ok (.iload 7, 2) := by decide +kernel
theorem dX9_odds_153 : decode cX9_odds 153 = .ok (.sipush 1200, 3) := by decide +kernel
theorem dX9_odds_156 : decode cX9_odds 156 = .ok (.if_icmp .ge 17, 3) := by decide +kernel
theorem dX9_odds_159 : decode cX9_odds 159 = .ok (.aload_n 0, 1) := by decide +kernel
theorem dX9_odds_160 : decode cX9_odds 160 = .ok (.getfield 64, 3) := by decide +kernel
theorem dX9_odds_163 : decode cX9_odds 163 = .ok (.iload 7, 2) := by decide +kernel
theorem dX9_odds_165 : decode cX9_odds 165 = .ok (.lconst 0, 1) := by decide +kernel
theorem dX9_odds_166 : decode cX9_odds 166 = .ok (.lastore, 1) := by decide +kernel
theorem dX9_odds_167 : decode cX9_odds 167 = .ok (.iinc 7 1, 3) := by decide +kernel
theorem dX9_odds_170 : decode cX9_odds 170 = .ok (.goto (-19), 3) := by decide +kernel
theorem dX9_odds_173 : decode cX9_odds 173 = .ok (.iconst 0, 1) := by decide +kernel
theorem dX9_odds_174 : decode cX9_odds 174 = .ok (.istore 7, 2) := by decide +kernel
theorem dX9_odds_176 : decode cX9_odds 176 = .ok (.iload 7, 2) := by decide +kernel
theorem dX9_odds_178 : decode cX9_odds 178 = .ok (.sipush 1200, 3) := by decide +kernel
theorem dX9_odds_181 : decode cX9_odds 181 = .ok (.if_icmp .ge 72, 3) := by decide +kernel
theorem dX9_odds_184 : decode cX9_odds 184 = .ok (.aload_n 0, 1) := by decide +kernel
theorem dX9_odds_185 : decode cX9_odds 185 = .ok (.getfield 60, 3) := by decide +kernel
theorem dX9_odds_188 : decode cX9_odds 188 = .ok (.iload 7, 2) := by decide +kernel
theorem dX9_odds_190 : decode cX9_odds 190 = .ok (.laload, 1) := by decide +kernel
theorem dX9_odds_191 : decode cX9_odds 191 = .ok (.lconst 0, 1) := by decide +kernel
theorem dX9_odds_192 : decode cX9_odds 192 = .ok (.lcmp, 1) := by decide +kernel
theorem dX9_odds_193 : decode cX9_odds 193 = .ok (.ifCond .le 54, 3) := by decide +kernel
theorem dX9_odds_196 : decode cX9_odds 196 = .ok (.aload_n 0, 1) := by decide +kernel
theorem dX9_odds_197 : decode cX9_odds 197 = .ok (.getfield 60, 3) := by decide +kernel
theorem dX9_odds_200 : decode cX9_odds 200 = .ok (.iload 7, 2) := by decide +kernel
theorem dX9_odds_202 : decode cX9_odds 202 = .ok (.laload, 1) := by decide +kernel
theorem dX9_odds_203 : decode cX9_odds 203 = .ok (.iload_n 3, 1) := by decide +kernel
theorem dX9_odds_204 : decode cX9_odds 204 = .ok (.i2l, 1) := by decide +kernel
theorem dX9_odds_205 : decode cX9_odds 205 = .ok (.lmul, 1) := by decide +kernel
theorem dX9_odds_206 : decode cX9_odds 206 = .ok (.ldc2_w 267, 3) := by decide +kernel
theorem dX9_odds_209 : decode cX9_odds 209 = .ok (.ldiv, 1) := by decide +kernel
theorem dX9_odds_210 : decode cX9_odds 210 = .ok (.lstore 8, 2) := by decide +kernel
theorem dX9_odds_212 : decode cX9_odds 212 = .ok (.aload_n 0, 1) := by decide +kernel
theorem dX9_odds_213 : decode cX9_odds 213 = .ok (.getfield 64, 3) := by decide +kernel
theorem dX9_odds_216 : decode cX9_odds 216 = .ok (.iload 7, 2) := by decide +kernel
theorem dX9_odds_218 : decode cX9_odds 218 = .ok (.dup2, 1) := by decide +kernel
theorem dX9_odds_219 : decode cX9_odds 219 = .ok (.laload, 1) := by decide +kernel
theorem dX9_odds_220 : decode cX9_odds 220 = .ok (.aload_n 0, 1) := by decide +kernel
theorem dX9_odds_221 : decode cX9_odds 221 = .ok (.getfield 60, 3) := by decide +kernel
theorem dX9_odds_224 : decode cX9_odds 224 = .ok (.iload 7, 2) := by decide +kernel
theorem dX9_odds_226 : decode cX9_odds 226 = .ok (.laload, 1) := by decide +kernel
theorem dX9_odds_227 : decode cX9_odds 227 = .ok (.lload 8, 2) := by decide +kernel
theorem dX9_odds_229 : decode cX9_odds 229 = .ok (.lsub, 1) := by decide +kernel
theorem dX9_odds_230 : decode cX9_odds 230 = .ok (.ladd, 1) := by decide +kernel
theorem dX9_odds_231 : decode cX9_odds 231 = .ok (.lastore, 1) := by decide +kernel
theorem dX9_odds_232 : decode cX9_odds 232 = .ok (.aload_n 0, 1) := by decide +kernel
theorem dX9_odds_233 : decode cX9_odds 233 = .ok (.getfield 64, 3) := by decide +kernel
theorem dX9_odds_236 : decode cX9_odds 236 = .ok (.iload 7, 2) := by decide +kernel
theorem dX9_odds_238 : decode cX9_odds 238 = .ok (.iload 5, 2) := by decide +kernel
theorem dX9_odds_240 : decode cX9_odds 240 = .ok (.iadd, 1) := by decide +kernel
theorem dX9_odds_241 : decode cX9_odds 241 = .ok (.dup2, 1) := by decide +kernel
theorem dX9_odds_242 : decode cX9_odds 242 = .ok (.laload, 1) := by decide +kernel
theorem dX9_odds_243 : decode cX9_odds 243 = .ok (.lload 8, 2) := by decide +kernel
theorem dX9_odds_245 : decode cX9_odds 245 = .ok (.ladd, 1) := by decide +kernel
theorem dX9_odds_246 : decode cX9_odds 246 = .ok (.lastore, 1) := by decide +kernel
theorem dX9_odds_247 : decode cX9_odds 247 = .ok (.iinc 7 1, 3) := by decide +kernel
theorem dX9_odds_250 : decode cX9_odds 250 = .ok (.goto (-74), 3) := by decide +kernel
theorem dX9_odds_253 : decode cX9_odds 253 = .ok (.iconst 0, 1) := by decide +kernel
theorem dX9_odds_254 : decode cX9_odds 254 = .ok (.istore 7, 2) := by decide +kernel
theorem dX9_odds_256 : decode cX9_odds 256 = .ok (.iload 7, 2) := by decide +kernel
theorem dX9_odds_258 : decode cX9_odds 258 = .ok (.sipush 1200, 3) := by decide +kernel
theorem dX9_odds_261 : decode cX9_odds 261 = .ok (.if_icmp .ge 23, 3) := by decide +kernel
theorem dX9_odds_264 : decode cX9_odds 264 = .ok (.aload_n 0, 1) := by decide +kernel
theorem dX9_odds_265 : decode cX9_odds 265 = .ok (.getfield 60, 3) := by decide +kernel
theorem dX9_odds_268 : decode cX9_odds 268 = .ok (.iload 7, 2) := by decide +kernel
theorem dX9_odds_270 : decode cX9_odds 270 = .ok (.aload_n 0, 1) := by decide +kernel
theorem dX9_odds_271 : decode cX9_odds 271 = .ok (.getfield 64, 3) := by decide +kernel
theorem dX9_odds_274 : decode cX9_odds 274 = .ok (.iload 7, 2) := by decide +kernel
theorem dX9_odds_276 : decode cX9_odds 276 = .ok (.laload, 1) := by decide +kernel
theorem dX9_odds_277 : decode cX9_odds 277 = .ok (.lastore, 1) := by decide +kernel
theorem dX9_odds_278 : decode cX9_odds 278 = .ok (.iinc 7 1, 3) := by decide +kernel
theorem dX9_odds_281 : decode cX9_odds 281 = .ok (.goto (-25), 3) := by decide +kernel
theorem dX9_odds_284 : decode cX9_odds 284 = .ok (.iinc 6 (-1), 3) := by decide +kernel
theorem dX9_odds_287 : decode cX9_odds 287 = .ok (.goto (-144), 3) := by decide +kernel
theorem dX9_odds_290 : decode cX9_odds 290 = .ok (.iinc 4 1, 3) := by decide +kernel
theorem dX9_odds_293 : decode cX9_odds 293 = .ok (.goto (-212), 3) := by decide +kernel
theorem dX9_odds_296 : decode cX9_odds 296 = .ok (.lconst 0, 1) := by decide +kernel
theorem dX9_odds_297 : decode cX9_odds 297 = .ok (.lstore 4, 2) := by decide +kernel
theorem dX9_odds_299 : decode cX9_odds 299 = .ok (.iconst 0, 1) := by decide +kernel
theorem dX9_odds_300 : decode cX9_odds 300 = .ok (.istore 6, 2) := by decide +kernel
theorem dX9_odds_302 : decode cX9_odds 302 = .ok (.iload 6, 2) := by decide +kernel
theorem dX9_odds_304 : decode cX9_odds 304 = .ok (.sipush 1200, 3) := by decide +kernel
theorem dX9_odds_307 : decode cX9_odds 307 = .ok (.if_icmp .ge 40, 3) := by decide +kernel
theorem dX9_odds_310 : decode cX9_odds 310 = .ok (.lload 4, 2) := by decide +kernel
theorem dX9_odds_312 : decode cX9_odds 312 = .ok (.iload 6, 2) := by decide +kernel
theorem dX9_odds_314 : decode cX9_odds 314 = .ok (.sipush 600, 3) := by decide +kernel
theorem dX9_odds_317 : decode cX9_odds 317 = .ok (.isub, 1) := by decide +kernel
theorem dX9_odds_318 : decode cX9_odds 318 = .ok (.aload_n 0, 1) := by decide +kernel
theorem dX9_odds_319 : decode cX9_odds 319 = .ok (.getfield 32, 3) := by decide +kernel
theorem dX9_odds_322 : decode cX9_odds 322 = .ok (.iload_n 2, 1) := by decide +kernel
theorem dX9_odds_323 : decode cX9_odds 323 = .ok (.iaload, 1) := by decide +kernel
theorem dX9_odds_324 : decode cX9_odds 324 = .ok (.if_icmp .gt 13, 3) := by decide +kernel
theorem dX9_odds_327 : decode cX9_odds 327 = .ok (.aload_n 0, 1) := by decide +kernel
theorem dX9_odds_328 : decode cX9_odds 328 = .ok (.getfield 60, 3) := by decide +kernel
theorem dX9_odds_331 : decode cX9_odds 331 = .ok (.iload 6, 2) := by decide +kernel
theorem dX9_odds_333 : decode cX9_odds 333 = .ok (.laload, 1) := by decide +kernel
theorem dX9_odds_334 : decode cX9_odds 334 = .ok (.goto 4, 3) := by decide +kernel
theorem dX9_odds_337 : decode cX9_odds 337 = .ok (.lconst 0, 1) := by decide +kernel
theorem dX9_odds_338 : decode cX9_odds 338 = .ok (.ladd, 1) := by decide +kernel
theorem dX9_odds_339 : decode cX9_odds 339 = .ok (.lstore 4, 2) := by decide +kernel
theorem dX9_odds_341 : decode cX9_odds 341 = .ok (.iinc 6 1, 3) := by decide +kernel
theorem dX9_odds_344 : decode cX9_odds 344 = .ok (.goto (-42), 3) := by decide +kernel
theorem dX9_odds_347 : decode cX9_odds 347 = .ok (.lload 4, 2) := by decide +kernel
theorem dX9_odds_349 : decode cX9_odds 349 = .ok (.l2i, 1) := by decide +kernel
theorem dX9_odds_350 : decode cX9_odds 350 = .ok (.ireturn, 1) := by decide +kernel
theorem dX9_write_0 : decode cX9_write 0 = .ok (.aload_n 0, 1) := by decide +kernel
theorem dX9_write_1 : decode cX9_write 1 = .ok (.iload_n 1, 1) := by decide +kernel
theorem dX9_write_2 : decode cX9_write 2 = .ok (.invokevirtual 214, 3) := by decide +kernel
theorem dX9_write_5 : decode cX9_write 5 = .ok (.ifCond .ne 6, 3) := by decide +kernel
theorem dX9_write_8 : decode cX9_write 8 = .ok (.ldc 213, 2) := by decide +kernel
theorem dX9_write_10 : decode cX9_write 10 = .ok (.ireturn, 1) := by decide +kernel
theorem dX9_write_11 : decode cX9_write 11 = .ok (.iload_n 2, 1) := by decide +kernel
theorem dX9_write_12 : decode cX9_write 12 = .ok (.sipush (-999), 3) := by decide +kernel
theorem dX9_write_15 : decode cX9_write 15 = .ok (.sipush 999, 3) := by decide +kernel
theorem dX9_write_18 : decode cX9_write 18 = .ok (.invokestatic 79, 3) := by decide +kernel
theorem dX9_write_21 : decode cX9_write 21 = .ok (.ifCond .ne 6, 3) := by decide +kernel
theorem dX9_write_24 : decode cX9_write 24 = .ok (.ldc 89, 2) := by decide +kernel
theorem dX9_write_26 : decode cX9_write 26 = .ok (.ireturn, 1) := by decide +kernel
theorem dX9_write_27 : decode cX9_write 27 = .ok (.aload_n 0, 1) := by decide +kernel
theorem dX9_write_28 : decode cX9_write 28 = .ok (.getfield 73, 3) := by decide +kernel
theorem dX9_write_31 : decode cX9_write 31 = .ok (.bipush 15, 2) := by decide +kernel
theorem dX9_write_33 : decode cX9_write 33 = .ok (.if_icmp .ne 6, 3) := by decide +kernel
theorem dX9_write_36 : decode cX9_write 36 = .ok (.ldc 93, 2) := by decide +kernel
theorem dX9_write_38 : decode cX9_write 38 = .ok (.ireturn, 1) := by decide +kernel
theorem dX9_write_39 : decode cX9_write 39 = .ok (.aload_n 0, 1) := by decide +kernel
theorem dX9_write_40 : decode cX9_write 40 = .ok (.getfield 51, 3) := by decide +kernel
theorem dX9_write_43 : decode cX9_write 43 = .ok (.iconst 2, 1) := by decide +kernel
theorem dX9_write_44 : decode cX9_write 44 = .ok (.aload_n 0, 1) := by decide +kernel
theorem dX9_write_45 : decode cX9_write 45 = .ok (.getfield 73, 3) := by decide +kernel
theorem dX9_write_48 : decode cX9_write 48 = .ok (.imul, 1) := by decide +kernel
theorem dX9_write_49 : decode cX9_write 49 = .ok (.iload_n 1, 1) := by decide +kernel
theorem dX9_write_50 : decode cX9_write 50 = .ok (.iastore, 1) := by decide +kernel
theorem dX9_write_51 : decode cX9_write 51 = .ok (.aload_n 0, 1) := by decide +kernel
theorem dX9_write_52 : decode cX9_write 52 = .ok (.getfield 51, 3) := by decide +kernel
theorem dX9_write_55 : decode cX9_write 55 = .ok (.iconst 2, 1) := by decide +kernel
theorem dX9_write_56 : decode cX9_write 56 = .ok (.aload_n 0, 1) := by decide +kernel
theorem dX9_write_57 : decode cX9_write 57 = .ok (.getfield 73, 3) := by decide +kernel
theorem dX9_write_60 : decode cX9_write 60 = .ok (.imul, 1) := by decide +kernel
theorem dX9_write_61 : decode cX9_write 61 = .ok (.iconst 1, 1) := by decide +kernel
theorem dX9_write_62 : decode cX9_write 62 = .ok (.iadd, 1) := by decide +kernel
theorem dX9_write_63 : decode cX9_write 63 = .ok (.iload_n 2, 1) := by decide +kernel
theorem dX9_write_64 : decode cX9_write 64 = .ok (.iastore, 1) := by decide +kernel
theorem dX9_write_65 : decode cX9_write 65 = .ok (.aload_n 0, 1) := by decide +kernel
theorem dX9_write_66 : decode cX9_write 66 = .ok (.dup, 1) := by decide +kernel
theorem dX9_write_67 : decode cX9_write 67 = .ok (.getfield 73, 3) := by decide +kernel
theorem dX9_write_70 : decode cX9_write 70 = .ok (.iconst 1, 1) := by decide +kernel
theorem dX9_write_71 : decode cX9_write 71 = .ok (.iadd, 1) := by decide +kernel
theorem dX9_write_72 : decode cX9_write 72 = .ok (.putfield 73, 3) := by decide +kernel
theorem dX9_write_75 : decode cX9_write 75 = .ok (.aload_n 0, 1) := by decide +kernel
theorem dX9_write_76 : decode cX9_write 76 = .ok (.getfield 73, 3) := by decide +kernel
theorem dX9_write_79 : decode cX9_write 79 = .ok (.ireturn, 1) := by decide +kernel
theorem dX9_tear_0 : decode cX9_tear 0 = .ok (.aload_n 0, 1) := by decide +kernel
theorem dX9_tear_1 : decode cX9_tear 1 = .ok (.getfield 73, 3) := by decide +kernel
theorem dX9_tear_4 : decode cX9_tear 4 = .ok (.istore_n 1, 1) := by decide +kernel
theorem dX9_tear_5 : decode cX9_tear 5 = .ok (.aload_n 0, 1) := by decide +kernel
theorem dX9_tear_6 : decode cX9_tear 6 = .ok (.iconst 0, 1) := by decide +kernel
theorem dX9_tear_7 : decode cX9_tear 7 = .ok (.putfield 73, 3) := by decide +kernel
theorem dX9_tear_10 : decode cX9_tear 10 = .ok (.iload_n 1, 1) := by decide +kernel
theorem dX9_tear_11 : decode cX9_tear 11 = .ok (.ireturn, 1) := by decide +kernel
theorem dX9_judge_0 : decode cX9_judge 0 = .ok (.iconst 0, 1) := by decide +kernel
theorem dX9_judge_1 : decode cX9_judge 1 = .ok (.istore_n 1, 1) := by decide +kernel
theorem dX9_judge_2 : decode cX9_judge 2 = .ok (.iload_n 1, 1) := by decide +kernel
theorem dX9_judge_3 : decode cX9_judge 3 = .ok (.aload_n 0, 1) := by decide +kernel
theorem dX9_judge_4 : decode cX9_judge 4 = .ok (.getfield 73, 3) := by decide +kernel
theorem dX9_judge_7 : decode cX9_judge 7 = .ok (.if_icmp .ge 40, 3) := by decide +kernel
theorem dX9_judge_10 : decode cX9_judge 10 = .ok (.aload_n 0, 1) := by decide +kernel
theorem dX9_judge_11 : decode cX9_judge 11 = .ok (.aload_n 0, 1) := by decide +kernel
theorem dX9_judge_12 : decode cX9_judge 12 = .ok (.getfield 35, 3) := by decide +kernel
theorem dX9_judge_15 : decode cX9_judge 15 = .ok (.aload_n 0, 1) := by decide +kernel
theorem dX9_judge_16 : decode cX9_judge 16 = .ok (.getfield 51, 3) := by decide +kernel
theorem dX9_judge_19 : decode cX9_judge 19 = .ok (.iconst 2, 1) := by decide +kernel
theorem dX9_judge_20 : decode cX9_judge 20 = .ok (.iload_n 1, 1) := by decide +kernel
theorem dX9_judge_21 : decode cX9_judge 21 = .ok (.imul, 1) := by decide +kernel
theorem dX9_judge_22 : decode cX9_judge 22 = .ok (.iaload, 1) := by decide +kernel
theorem dX9_judge_23 : decode cX9_judge 23 = .ok (.invokevirtual 217, 3) := by decide +kernel
theorem dX9_judge_26 : decode cX9_judge 26 = .ok (.aload_n 0, 1) := by decide +kernel
theorem dX9_judge_27 : decode cX9_judge 27 = .ok (.getfield 51, 3) := by decide +kernel
theorem dX9_judge_30 : decode cX9_judge 30 = .ok (.iconst 2, 1) := by decide +kernel
theorem dX9_judge_31 : decode cX9_judge 31 = .ok (.iload_n 1, 1) := by decide +kernel
theorem dX9_judge_32 : decode cX9_judge 32 = .ok (.imul, 1) := by decide +kernel
theorem dX9_judge_33 : decode cX9_judge 33 = .ok (.iconst 1, 1) := by decide +kernel
theorem dX9_judge_34 : decode cX9_judge 34 = .ok (.iadd, 1) := by decide +kernel
theorem dX9_judge_35 : decode cX9_judge 35 = .ok (.iaload, 1) := by decide +kernel
theorem dX9_judge_36 : decode cX9_judge 36 = .ok (.if_icmp .eq 5, 3) := by decide +kernel
theorem dX9_judge_39 : decode cX9_judge 39 = .ok (.iload_n 1, 1) := by decide +kernel
theorem dX9_judge_40 : decode cX9_judge 40 = .ok (.ireturn, 1) := by decide +kernel
theorem dX9_judge_41 : decode cX9_judge 41 = .ok (.iinc 1 1, 3) := by decide +kernel
theorem dX9_judge_44 : decode cX9_judge 44 = .ok (.goto (-42), 3) := by decide +kernel
theorem dX9_judge_47 : decode cX9_judge 47 = .ok (.iconst (-1), 1) := by decide +kernel
theorem dX9_judge_48 : decode cX9_judge 48 = .ok (.ireturn, 1) := by decide +kernel
theorem dX9_seed_0 : decode cX9_seed 0 = .ok (.iload_n 1, 1) := by decide +kernel
theorem dX9_seed_1 : decode cX9_seed 1 = .ok (.ifCond .ge 6, 3) := by decide +kernel
theorem dX9_seed_4 : decode cX9_seed 4 = .ok (.ldc 89, 2) := by decide +kernel
theorem dX9_seed_6 : decode cX9_seed 6 = .ok (.ireturn, 1) := by decide +kernel
theorem dX9_seed_7 : decode cX9_seed 7 = .ok (.aload_n 0, 1) := by decide +kernel
theorem dX9_seed_8 : decode cX9_seed 8 = .ok (.getfield 35, 3) := by decide +kernel
theorem dX9_seed_11 : decode cX9_seed 11 = .ok (.bipush 57, 2) := by decide +kernel
theorem dX9_seed_13 : decode cX9_seed 13 = .ok (.iaload, 1) := by decide +kernel
theorem dX9_seed_14 : decode cX9_seed 14 = .ok (.istore_n 2, 1) := by decide +kernel
theorem dX9_seed_15 : decode cX9_seed 15 = .ok (.aload_n 0, 1) := by decide +kernel
theorem dX9_seed_16 : decode cX9_seed 16 = .ok (.getfield 35, 3) := by decide +kernel
theorem dX9_seed_19 : decode cX9_seed 19 = .ok (.bipush 57, 2) := by decide +kernel
theorem dX9_seed_21 : decode cX9_seed 21 = .ok (.iload_n 1, 1) := by decide +kernel
theorem dX9_seed_22 : decode cX9_seed 22 = .ok (.iastore, 1) := by decide +kernel
theorem dX9_seed_23 : decode cX9_seed 23 = .ok (.iload_n 2, 1) := by decide +kernel
theorem dX9_seed_24 : decode cX9_seed 24 = .ok (.ireturn, 1) := by decide +kernel
theorem dX9_keep_0 : decode cX9_keep 0 = .ok (.iload_n 1, 1) := by decide +kernel
theorem dX9_keep_1 : decode cX9_keep 1 = .ok (.iconst 0, 1) := by decide +kernel
theorem dX9_keep_2 : decode cX9_keep 2 = .ok (.iconst 1, 1) := by decide +kernel
theorem dX9_keep_3 : decode cX9_keep 3 = .ok (.invokestatic 79, 3) := by decide +kernel
theorem dX9_keep_6 : decode cX9_keep 6 = .ok (.ifCond .ne 6, 3) := by decide +kernel
theorem dX9_keep_9 : decode cX9_keep 9 = .ok (.ldc 213, 2) := by decide +kernel
theorem dX9_keep_11 : decode cX9_keep 11 = .ok (.ireturn, 1) := by decide +kernel
theorem dX9_keep_12 : decode cX9_keep 12 = .ok (.aload_n 0, 1) := by decide +kernel
theorem dX9_keep_13 : decode cX9_keep 13 = .ok (.getfield 35, 3) := by decide +kernel
theorem dX9_keep_16 : decode cX9_keep 16 = .ok (.iconst 0, 1) := by decide +kernel
theorem dX9_keep_17 : decode cX9_keep 17 = .ok (.aload_n 0, 1) := by decide +kernel
theorem dX9_keep_18 : decode cX9_keep 18 = .ok (.getfield 44, 3) := by decide +kernel
theorem dX9_keep_21 : decode cX9_keep 21 = .ok (.bipush 58, 2) := by decide +kernel
theorem dX9_keep_23 : decode cX9_keep 23 = .ok (.iload_n 1, 1) := by decide +kernel
theorem dX9_keep_24 : decode cX9_keep 24 = .ok (.imul, 1) := by decide +kernel
theorem dX9_keep_25 : decode cX9_keep 25 = .ok (.invokestatic 202, 3) := by decide +kernel
theorem dX9_keep_28 : decode cX9_keep 28 = .ok (.aload_n 0, 1) := by decide +kernel
theorem dX9_keep_29 : decode cX9_keep 29 = .ok (.getfield 47, 3) := by decide +kernel
theorem dX9_keep_32 : decode cX9_keep 32 = .ok (.iload_n 1, 1) := by decide +kernel
theorem dX9_keep_33 : decode cX9_keep 33 = .ok (.iconst 1, 1) := by decide +kernel
theorem dX9_keep_34 : decode cX9_keep 34 = .ok (.bastore, 1) := by decide +kernel
theorem dX9_keep_35 : decode cX9_keep 35 = .ok (.iconst 1, 1) := by decide +kernel
theorem dX9_keep_36 : decode cX9_keep 36 = .ok (.ireturn, 1) := by decide +kernel
theorem dX9_goBack_0 : decode cX9_goBack 0 = .ok (.iload_n 1, 1) := by decide +kernel
theorem dX9_goBack_1 : decode cX9_goBack 1 = .ok (.iconst 0, 1) := by decide +kernel
theorem dX9_goBack_2 : decode cX9_goBack 2 = .ok (.iconst 1, 1) := by decide +kernel
theorem dX9_goBack_3 : decode cX9_goBack 3 = .ok (.invokestatic 79, 3) := by decide +kernel
theorem dX9_goBack_6 : decode cX9_goBack 6 = .ok (.ifCond .ne 6, 3) := by decide +kernel
theorem dX9_goBack_9 : decode cX9_goBack 9 = .ok (.ldc 213, 2) := by decide +kernel
theorem dX9_goBack_11 : decode cX9_goBack 11 = .ok (.ireturn, 1) := by decide +kernel
theorem dX9_goBack_12 : decode cX9_goBack 12 = .ok (.aload_n 0, 1) := by decide +kernel
theorem dX9_goBack_13 : decode cX9_goBack 13 = .ok (.getfield 47, 3) := by decide +kernel
theorem dX9_goBack_16 : decode cX9_goBack 16 = .ok (.iload_n 1, 1) := by decide +kernel
theorem dX9_goBack_17 : decode cX9_goBack 17 = .ok (.baload, 1) := by decide +kernel
theorem dX9_goBack_18 : decode cX9_goBack 18 = .ok (.ifCond .ne 6, 3) := by decide +kernel
theorem dX9_goBack_21 : decode cX9_goBack 21 = .ok (.ldc 223, 2) := by decide +kernel
theorem dX9_goBack_23 : decode cX9_goBack 23 = .ok (.ireturn, 1) := by decide +kernel
theorem dX9_goBack_24 : decode cX9_goBack 24 = .ok (.aload_n 0, 1) := by decide +kernel
theorem dX9_goBack_25 : decode cX9_goBack 25 = .ok (.getfield 44, 3) := by decide +kernel
theorem dX9_goBack_28 : decode cX9_goBack 28 = .ok (.bipush 58, 2) := by decide +kernel
theorem dX9_goBack_30 : decode cX9_goBack 30 = .ok (.iload_n 1, 1) := by decide +kernel
theorem dX9_goBack_31 : decode cX9_goBack 31 = .ok (.imul, 1) := by decide +kernel
theorem dX9_goBack_32 : decode cX9_goBack 32 = .ok (.aload_n 0, 1) := by decide +kernel
theorem dX9_goBack_33 : decode cX9_goBack 33 = .ok (.getfield 35, 3) := by decide +kernel
theorem dX9_goBack_36 : decode cX9_goBack 36 = .ok (.iconst 0, 1) := by decide +kernel
theorem dX9_goBack_37 : decode cX9_goBack 37 = .ok (.invokestatic 202, 3) := by decide +kernel
theorem dX9_goBack_40 : decode cX9_goBack 40 = .ok (.iconst 1, 1) := by decide +kernel
theorem dX9_goBack_41 : decode cX9_goBack 41 = .ok (.ireturn, 1) := by decide +kernel
theorem dJ6_bitCount_0f7a4_0 : decode cJ6_bitCount_0f7a4 0 = .ok (.iload_n 0, 1) := by decide +kernel
theorem dJ6_bitCount_0f7a4_1 : decode cJ6_bitCount_0f7a4 1 = .ok (.iload_n 0, 1) := by decide +kernel
theorem dJ6_bitCount_0f7a4_2 : decode cJ6_bitCount_0f7a4 2 = .ok (.iconst 1, 1) := by decide +kernel
theorem dJ6_bitCount_0f7a4_3 : decode cJ6_bitCount_0f7a4 3 = .ok (.iushr, 1) := by decide +kernel
theorem dJ6_bitCount_0f7a4_4 : decode cJ6_bitCount_0f7a4 4 = .ok (.ldc_w 265, 3) := by decide +kernel
theorem dJ6_bitCount_0f7a4_7 : decode cJ6_bitCount_0f7a4 7 = .ok (.iand, 1) := by decide +kernel
theorem dJ6_bitCount_0f7a4_8 : decode cJ6_bitCount_0f7a4 8 = .ok (.isub, 1) := by decide +kernel
theorem dJ6_bitCount_0f7a4_9 : decode cJ6_bitCount_0f7a4 9 = .ok (.istore_n 0, 1) := by decide +kernel
theorem dJ6_bitCount_0f7a4_10 : decode cJ6_bitCount_0f7a4 10 = .ok (.iload_n 0, 1) := by decide +kernel
theorem dJ6_bitCount_0f7a4_11 : decode cJ6_bitCount_0f7a4 11 = .ok (.ldc_w 266, 3) := by decide +kernel
theorem dJ6_bitCount_0f7a4_14 : decode cJ6_bitCount_0f7a4 14 = .ok (.iand, 1) := by decide +kernel
theorem dJ6_bitCount_0f7a4_15 : decode cJ6_bitCount_0f7a4 15 = .ok (.iload_n 0, 1) := by decide +kernel
theorem dJ6_bitCount_0f7a4_16 : decode cJ6_bitCount_0f7a4 16 = .ok (.iconst 2, 1) := by decide +kernel
theorem dJ6_bitCount_0f7a4_17 : decode cJ6_bitCount_0f7a4 17 = .ok (.iushr, 1) := by decide +kernel
theorem dJ6_bitCount_0f7a4_18 : decode cJ6_bitCount_0f7a4 18 = .ok (.ldc_w 266, 3) := by decide +kernel
theorem dJ6_bitCount_0f7a4_21 : decode cJ6_bitCount_0f7a4 21 = .ok (.iand, 1) := by decide +kernel
theorem dJ6_bitCount_0f7a4_22 : decode cJ6_bitCount_0f7a4 22 = .ok (.iadd, 1) := by decide +kernel
theorem dJ6_bitCount_0f7a4_23 : decode cJ6_bitCount_0f7a4 23 = .ok (.istore_n 0, 1) := by decide +kernel
theorem dJ6_bitCount_0f7a4_24 : decode cJ6_bitCount_0f7a4 24 = .ok (.iload_n 0, 1) := by decide +kernel
theorem dJ6_bitCount_0f7a4_25 : decode cJ6_bitCount_0f7a4 25 = .ok (.iload_n 0, 1) := by decide +kernel
theorem dJ6_bitCount_0f7a4_26 : decode cJ6_bitCount_0f7a4 26 = .ok (.iconst 4, 1) := by decide +kernel
theorem dJ6_bitCount_0f7a4_27 : decode cJ6_bitCount_0f7a4 27 = .ok (.iushr, 1) := by decide +kernel
theorem dJ6_bitCount_0f7a4_28 : decode cJ6_bitCount_0f7a4 28 = .ok (.iadd, 1) := by decide +kernel
theorem dJ6_bitCount_0f7a4_29 : decode cJ6_bitCount_0f7a4 29 = .ok (.ldc_w 267, 3) := by decide +kernel
theorem dJ6_bitCount_0f7a4_32 : decode cJ6_bitCount_0f7a4 32 = .ok (.iand, 1) := by decide +kernel
theorem dJ6_bitCount_0f7a4_33 : decode cJ6_bitCount_0f7a4 33 = .ok (.istore_n 0, 1) := by decide +kernel
theorem dJ6_bitCount_0f7a4_34 : decode cJ6_bitCount_0f7a4 34 = .ok (.iload_n 0, 1) := by decide +kernel
theorem dJ6_bitCount_0f7a4_35 : decode cJ6_bitCount_0f7a4 35 = .ok (.iload_n 0, 1) := by decide +kernel
theorem dJ6_bitCount_0f7a4_36 : decode cJ6_bitCount_0f7a4 36 = .ok (.bipush 8, 2) := by decide +kernel
theorem dJ6_bitCount_0f7a4_38 : decode cJ6_bitCount_0f7a4 38 = .ok (.iushr, 1) := by decide +kernel
theorem dJ6_bitCount_0f7a4_39 : decode cJ6_bitCount_0f7a4 39 = .ok (.iadd, 1) := by decide +kernel
theorem dJ6_bitCount_0f7a4_40 : decode cJ6_bitCount_0f7a4 40 = .ok (.istore_n 0, 1) := by decide +kernel
theorem dJ6_bitCount_0f7a4_41 : decode cJ6_bitCount_0f7a4 41 = .ok (.iload_n 0, 1) := by decide +kernel
theorem dJ6_bitCount_0f7a4_42 : decode cJ6_bitCount_0f7a4 42 = .ok (.iload_n 0, 1) := by decide +kernel
theorem dJ6_bitCount_0f7a4_43 : decode cJ6_bitCount_0f7a4 43 = .ok (.bipush 16, 2) := by decide +kernel
theorem dJ6_bitCount_0f7a4_45 : decode cJ6_bitCount_0f7a4 45 = .ok (.iushr, 1) := by decide +kernel
theorem dJ6_bitCount_0f7a4_46 : decode cJ6_bitCount_0f7a4 46 = .ok (.iadd, 1) := by decide +kernel
theorem dJ6_bitCount_0f7a4_47 : decode cJ6_bitCount_0f7a4 47 = .ok (.istore_n 0, 1) := by decide +kernel
theorem dJ6_bitCount_0f7a4_48 : decode cJ6_bitCount_0f7a4 48 = .ok (.iload_n 0, 1) := by decide +kernel
theorem dJ6_bitCount_0f7a4_49 : decode cJ6_bitCount_0f7a4 49 = .ok (.bipush 63, 2) := by decide +kernel
theorem dJ6_bitCount_0f7a4_51 : decode cJ6_bitCount_0f7a4 51 = .ok (.iand, 1) := by decide +kernel
theorem dJ6_bitCount_0f7a4_52 : decode cJ6_bitCount_0f7a4 52 = .ok (.ireturn, 1) := by decide +kernel
theorem dJ9_max_7cf53_0 : decode cJ9_max_7cf53 0 = .ok (.iload_n 0, 1) := by decide +kernel
theorem dJ9_max_7cf53_1 : decode cJ9_max_7cf53 1 = .ok (.iload_n 1, 1) := by decide +kernel
theorem dJ9_max_7cf53_2 : decode cJ9_max_7cf53 2 = .ok (.if_icmp .lt 7, 3) := by decide +kernel
theorem dJ9_max_7cf53_5 : decode cJ9_max_7cf53 5 = .ok (.iload_n 0, 1) := by decide +kernel
theorem dJ9_max_7cf53_6 : decode cJ9_max_7cf53 6 = .ok (.goto 4, 3) := by decide +kernel
theorem dJ9_max_7cf53_9 : decode cJ9_max_7cf53 9 = .ok (.iload_n 1, 1) := by decide +kernel
theorem dJ9_max_7cf53_10 : decode cJ9_max_7cf53 10 = .ok (.ireturn, 1) := by decide +kernel
theorem dJ9_min_7cf53_0 : decode cJ9_min_7cf53 0 = .ok (.iload_n 0, 1) := by decide +kernel
theorem dJ9_min_7cf53_1 : decode cJ9_min_7cf53 1 = .ok (.iload_n 1, 1) := by decide +kernel
theorem dJ9_min_7cf53_2 : decode cJ9_min_7cf53 2 = .ok (.if_icmp .gt 7, 3) := by decide +kernel
theorem dJ9_min_7cf53_5 : decode cJ9_min_7cf53 5 = .ok (.iload_n 0, 1) := by decide +kernel
theorem dJ9_min_7cf53_6 : decode cJ9_min_7cf53 6 = .ok (.goto 4, 3) := by decide +kernel
theorem dJ9_min_7cf53_9 : decode cJ9_min_7cf53 9 = .ok (.iload_n 1, 1) := by decide +kernel
theorem dJ9_min_7cf53_10 : decode cJ9_min_7cf53 10 = .ok (.ireturn, 1) := by decide +kernel
theorem dJ7_fill_53178_0 : decode cJ7_fill_53178 0 = .ok (.iconst 0, 1) := by decide +kernel
theorem dJ7_fill_53178_1 : decode cJ7_fill_53178 1 = .ok (.istore_n 2, 1) := by decide +kernel
theorem dJ7_fill_53178_2 : decode cJ7_fill_53178 2 = .ok (.aload_n 0, 1) := by decide +kernel
theorem dJ7_fill_53178_3 : decode cJ7_fill_53178 3 = .ok (.arraylength, 1) := by decide +kernel
theorem dJ7_fill_53178_4 : decode cJ7_fill_53178 4 = .ok (.istore_n 3, 1) := by decide +kernel
theorem dJ7_fill_53178_5 : decode cJ7_fill_53178 5 = .ok (.iload_n 2, 1) := by decide +kernel
theorem dJ7_fill_53178_6 : decode cJ7_fill_53178 6 = .ok (.iload_n 3, 1) := by decide +kernel
theorem dJ7_fill_53178_7 : decode cJ7_fill_53178 7 = .ok (.if_icmp .ge 13, 3) := by decide +kernel
theorem dJ7_fill_53178_10 : decode cJ7_fill_53178 10 = .ok (.aload_n 0, 1) := by decide +kernel
theorem dJ7_fill_53178_11 : decode cJ7_fill_53178 11 = .ok (.iload_n 2, 1) := by decide +kernel
theorem dJ7_fill_53178_12 : decode cJ7_fill_53178 12 = .ok (.iload_n 1, 1) := by decide +kernel
theorem dJ7_fill_53178_13 : decode cJ7_fill_53178 13 = .ok (.iastore, 1) := by decide +kernel
theorem dJ7_fill_53178_14 : decode cJ7_fill_53178 14 = .ok (.iinc 2 1, 3) := by decide +kernel
theorem dJ7_fill_53178_17 : decode cJ7_fill_53178 17 = .ok (.goto (-12), 3) := by decide +kernel
theorem dJ7_fill_53178_20 : decode cJ7_fill_53178 20 = .ok (.return_, 1) := by decide +kernel
theorem dL_law_0 : decode cL_law 0 = .ok (.new 7, 3) := by decide +kernel
theorem dL_law_3 : decode cL_law 3 = .ok (.dup, 1) := by decide +kernel
theorem dL_law_4 : decode cL_law 4 = .ok (.invokespecial 9, 3) := by decide +kernel
theorem dL_law_7 : decode cL_law 7 = .ok (.astore_n 1, 1) := by decide +kernel
theorem dL_law_8 : decode cL_law 8 = .ok (.new 10, 3) := by decide +kernel
theorem dL_law_11 : decode cL_law 11 = .ok (.dup, 1) := by decide +kernel
theorem dL_law_12 : decode cL_law 12 = .ok (.invokespecial 12, 3) := by decide +kernel
theorem dL_law_15 : decode cL_law 15 = .ok (.astore_n 2, 1) := by decide +kernel
theorem dL_law_16 : decode cL_law 16 = .ok (.iconst 0, 1) := by decide +kernel
theorem dL_law_17 : decode cL_law 17 = .ok (.istore_n 3, 1) := by decide +kernel
theorem dL_law_18 : decode cL_law 18 = .ok (.iload_n 3, 1) := by decide +kernel
theorem dL_law_19 : decode cL_law 19 = .ok (.aload_n 0, 1) := by decide +kernel
theorem dL_law_20 : decode cL_law 20 = .ok (.arraylength, 1) := by decide +kernel
theorem dL_law_21 : decode cL_law 21 = .ok (.iconst 5, 1) := by decide +kernel
theorem dL_law_22 : decode cL_law 22 = .ok (.isub, 1) := by decide +kernel
theorem dL_law_23 : decode cL_law 23 = .ok (.if_icmp .gt 977, 3) := by decide +kernel
theorem dL_law_26 : decode cL_law 26 = .ok (.aload_n 0, 1) := by decide +kernel
theorem dL_law_27 : decode cL_law 27 = .ok (.iload_n 3, 1) := by decide +kernel
theorem dL_law_28 : decode cL_law 28 = .ok (.iaload, 1) := by decide +kernel
theorem dL_law_29 : decode cL_law 29 = .ok (.bipush 31, 2) := by decide +kernel
theorem dL_law_31 : decode cL_law 31 = .ok (.iand, 1) := by decide +kernel
theorem dL_law_32 : decode cL_law 32 = .ok (.tableswitch 962 0 27 #[128, 151, 164, 177, 200, 233, 266, 299, 322, 345, 378, 411, 434, 457, 490, 523, 566, 609, 662, 705, 748, 791, 834, 867, 880, 893, 916, 939], 128) := by decide +kernel
theorem dL_law_160 : decode cL_law 160 = .ok (.aload_n 1, 1) := by decide +kernel
theorem dL_law_161 : decode cL_law 161 = .ok (.aload_n 0, 1) := by decide +kernel
theorem dL_law_162 : decode cL_law 162 = .ok (.iload_n 3, 1) := by decide +kernel
theorem dL_law_163 : decode cL_law 163 = .ok (.iconst 1, 1) := by decide +kernel
theorem dL_law_164 : decode cL_law 164 = .ok (.iadd, 1) := by decide +kernel
theorem dL_law_165 : decode cL_law 165 = .ok (.iaload, 1) := by decide +kernel
theorem dL_law_166 : decode cL_law 166 = .ok (.invokevirtual 13, 3) := by decide +kernel
theorem dL_law_169 : decode cL_law 169 = .ok (.aload_n 2, 1) := by decide +kernel
theorem dL_law_170 : decode cL_law 170 = .ok (.aload_n 0, 1) := by decide +kernel
theorem dL_law_171 : decode cL_law 171 = .ok (.iload_n 3, 1) := by decide +kernel
theorem dL_law_172 : decode cL_law 172 = .ok (.iconst 1, 1) := by decide +kernel
theorem dL_law_173 : decode cL_law 173 = .ok (.iadd, 1) := by decide +kernel
theorem dL_law_174 : decode cL_law 174 = .ok (.iaload, 1) := by decide +kernel
theorem dL_law_175 : decode cL_law 175 = .ok (.invokevirtual 17, 3) := by decide +kernel
theorem dL_law_178 : decode cL_law 178 = .ok (.if_icmp .eq 816, 3) := by decide +kernel
theorem dL_law_181 : decode cL_law 181 = .ok (.iconst 0, 1) := by decide +kernel
theorem dL_law_182 : decode cL_law 182 = .ok (.ireturn, 1) := by decide +kernel
theorem dL_law_183 : decode cL_law 183 = .ok (.aload_n 1, 1) := by decide +kernel
theorem dL_law_184 : decode cL_law 184 = .ok (.invokevirtual 18, 3) := by decide +kernel
theorem dL_law_187 : decode cL_law 187 = .ok (.aload_n 2, 1) := by decide +kernel
theorem dL_law_188 : decode cL_law 188 = .ok (.invokevirtual 22, 3) := by decide +kernel
theorem dL_law_191 : decode cL_law 191 = .ok (.if_icmp .eq 803, 3) := by decide +kernel
theorem dL_law_194 : decode cL_law 194 = .ok (.iconst 0, 1) := by decide +kernel
theorem dL_law_195 : decode cL_law 195 = .ok (.ireturn, 1) := by decide +kernel
theorem dL_law_196 : decode cL_law 196 = .ok (.aload_n 1, 1) := by decide +kernel
theorem dL_law_197 : decode cL_law 197 = .ok (.invokevirtual 23, 3) := by decide +kernel
theorem dL_law_200 : decode cL_law 200 = .ok (.aload_n 2, 1) := by decide +kernel
theorem dL_law_201 : decode cL_law 201 = .ok (.invokevirtual 26, 3) := by decide +kernel
theorem dL_law_204 : decode cL_law 204 = .ok (.if_icmp .eq 790, 3) := by decide +kernel
theorem dL_law_207 : decode cL_law 207 = .ok (.iconst 0, 1) := by decide +kernel
theorem dL_law_208 : decode cL_law 208 = .ok (.ireturn, 1) := by decide +kernel
theorem dL_law_209 : decode cL_law 209 = .ok (.aload_n 1, 1) := by decide +kernel
theorem dL_law_210 : decode cL_law 210 = .ok (.aload_n 0, 1) := by decide +kernel
theorem dL_law_211 : decode cL_law 211 = .ok (.iload_n 3, 1) := by decide +kernel
theorem dL_law_212 : decode cL_law 212 = .ok (.iconst 1, 1) := by decide +kernel
theorem dL_law_213 : decode cL_law 213 = .ok (.iadd, 1) := by decide +kernel
theorem dL_law_214 : decode cL_law 214 = .ok (.iaload, 1) := by decide +kernel
theorem dL_law_215 : decode cL_law 215 = .ok (.invokevirtual 27, 3) := by decide +kernel
theorem dL_law_218 : decode cL_law 218 = .ok (.aload_n 2, 1) := by decide +kernel
theorem dL_law_219 : decode cL_law 219 = .ok (.aload_n 0, 1) := by decide +kernel
theorem dL_law_220 : decode cL_law 220 = .ok (.iload_n 3, 1) := by decide +kernel
theorem dL_law_221 : decode cL_law 221 = .ok (.iconst 1, 1) := by decide +kernel
theorem dL_law_222 : decode cL_law 222 = .ok (.iadd, 1) := by decide +kernel
theorem dL_law_223 : decode cL_law 223 = .ok (.iaload, 1) := by decide +kernel
theorem dL_law_224 : decode cL_law 224 = .ok (.invokevirtual 30, 3) := by decide +kernel
theorem dL_law_227 : decode cL_law 227 = .ok (.if_icmp .eq 767, 3) := by decide +kernel
theorem dL_law_230 : decode cL_law 230 = .ok (.iconst 0, 1) := by decide +kernel
theorem dL_law_231 : decode cL_law 231 = .ok (.ireturn, 1) := by decide +kernel
theorem dL_law_232 : decode cL_law 232 = .ok (.aload_n 1, 1) := by decide +kernel
theorem dL_law_233 : decode cL_law 233 = .ok (.aload_n 0, 1) := by decide +kernel
theorem dL_law_234 : decode cL_law 234 = .ok (.iload_n 3, 1) := by decide +kernel
theorem dL_law_235 : decode cL_law 235 = .ok (.iconst 1, 1) := by decide +kernel
theorem dL_law_236 : decode cL_law 236 = .ok (.iadd, 1) := by decide +kernel
theorem dL_law_237 : decode cL_law 237 = .ok (.iaload, 1) := by decide +kernel
theorem dL_law_238 : decode cL_law 238 = .ok (.aload_n 0, 1) := by decide +kernel
theorem dL_law_239 : decode cL_law 239 = .ok (.iload_n 3, 1) := by decide +kernel
theorem dL_law_240 : decode cL_law 240 = .ok (.iconst 2, 1) := by decide +kernel
theorem dL_law_241 : decode cL_law 241 = .ok (.iadd, 1) := by decide +kernel
theorem dL_law_242 : decode cL_law 242 = .ok (.iaload, 1) := by decide +kernel
theorem dL_law_243 : decode cL_law 243 = .ok (.invokevirtual 31, 3) := by decide +kernel
theorem dL_law_246 : decode cL_law 246 = .ok (.aload_n 2, 1) := by decide +kernel
theorem dL_law_247 : decode cL_law 247 = .ok (.aload_n 0, 1) := by decide +kernel
theorem dL_law_248 : decode cL_law 248 = .ok (.iload_n 3, 1) := by decide +kernel
theorem dL_law_249 : decode cL_law 249 = .ok (.iconst 1, 1) := by decide +kernel
theorem dL_law_250 : decode cL_law 250 = .ok (.iadd, 1) := by decide +kernel
theorem dL_law_251 : decode cL_law 251 = .ok (.iaload, 1) := by decide +kernel
theorem dL_law_252 : decode cL_law 252 = .ok (.aload_n 0, 1) := by decide +kernel
theorem dL_law_253 : decode cL_law 253 = .ok (.iload_n 3, 1) := by decide +kernel
theorem dL_law_254 : decode cL_law 254 = .ok (.iconst 2, 1) := by decide +kernel
theorem dL_law_255 : decode cL_law 255 = .ok (.iadd, 1) := by decide +kernel
theorem dL_law_256 : decode cL_law 256 = .ok (.iaload, 1) := by decide +kernel
theorem dL_law_257 : decode cL_law 257 = .ok (.invokevirtual 35, 3) := by decide +kernel
theorem dL_law_260 : decode cL_law 260 = .ok (.if_icmp .eq 734, 3) := by decide +kernel
theorem dL_law_263 : decode cL_law 263 = .ok (.iconst 0, 1) := by decide +kernel
theorem dL_law_264 : decode cL_law 264 = .ok (.ireturn, 1) := by decide +kernel
theorem dL_law_265 : decode cL_law 265 = .ok (.aload_n 1, 1) := by decide +kernel
theorem dL_law_266 : decode cL_law 266 = .ok (.aload_n 0, 1) := by decide +kernel
theorem dL_law_267 : decode cL_law 267 = .ok (.iload_n 3, 1) := by decide +kernel
theorem dL_law_268 : decode cL_law 268 = .ok (.iconst 1, 1) := by decide +kernel
theorem dL_law_269 : decode cL_law 269 = .ok (.iadd, 1) := by decide +kernel
theorem dL_law_270 : decode cL_law 270 = .ok (.iaload, 1) := by decide +kernel
theorem dL_law_271 : decode cL_law 271 = .ok (.aload_n 0, 1) := by decide +kernel
theorem dL_law_272 : decode cL_law 272 = .ok (.iload_n 3, 1) := by decide +kernel
theorem dL_law_273 : decode cL_law 273 = .ok (.iconst 2, 1) := by decide +kernel
theorem dL_law_274 : decode cL_law 274 = .ok (.iadd, 1) := by decide +kernel
theorem dL_law_275 : decode cL_law 275 = .ok (.iaload, 1) := by decide +kernel
theorem dL_law_276 : decode cL_law 276 = .ok (.invokevirtual 36, 3) := by decide +kernel
theorem dL_law_279 : decode cL_law 279 = .ok (.aload_n 2, 1) := by decide +kernel
theorem dL_law_280 : decode cL_law 280 = .ok (.aload_n 0, 1) := by decide +kernel
theorem dL_law_281 : decode cL_law 281 = .ok (.iload_n 3, 1) := by decide +kernel
theorem dL_law_282 : decode cL_law 282 = .ok (.iconst 1, 1) := by decide +kernel
theorem dL_law_283 : decode cL_law 283 = .ok (.iadd, 1) := by decide +kernel
theorem dL_law_284 : decode cL_law 284 = .ok (.iaload, 1) := by decide +kernel
theorem dL_law_285 : decode cL_law 285 = .ok (.aload_n 0, 1) := by decide +kernel
theorem dL_law_286 : decode cL_law 286 = .ok (.iload_n 3, 1) := by decide +kernel
theorem dL_law_287 : decode cL_law 287 = .ok (.iconst 2, 1) := by decide +kernel
theorem dL_law_288 : decode cL_law 288 = .ok (.iadd, 1) := by decide +kernel
theorem dL_law_289 : decode cL_law 289 = .ok (.iaload, 1) := by decide +kernel
theorem dL_law_290 : decode cL_law 290 = .ok (.invokevirtual 39, 3) := by decide +kernel
theorem dL_law_293 : decode cL_law 293 = .ok (.if_icmp .eq 701, 3) := by decide +kernel
theorem dL_law_296 : decode cL_law 296 = .ok (.iconst 0, 1) := by decide +kernel
theorem dL_law_297 : decode cL_law 297 = .ok (.ireturn, 1) := by decide +kernel
theorem dL_law_298 : decode cL_law 298 = .ok (.aload_n 1, 1) := by decide +kernel
theorem dL_law_299 : decode cL_law 299 = .ok (.aload_n 0, 1) := by decide +kernel
theorem dL_law_300 : decode cL_law 300 = .ok (.iload_n 3, 1) := by decide +kernel
theorem dL_law_301 : decode cL_law 301 = .ok (.iconst 1, 1) := by decide +kernel
theorem dL_law_302 : decode cL_law 302 = .ok (.iadd, 1) := by decide +kernel
theorem dL_law_303 : decode cL_law 303 = .ok (.iaload, 1) := by decide +kernel
theorem dL_law_304 : decode cL_law 304 = .ok (.aload_n 0, 1) := by decide +kernel
theorem dL_law_305 : decode cL_law 305 = .ok (.iload_n 3, 1) := by decide +kernel
theorem dL_law_306 : decode cL_law 306 = .ok (.iconst 2, 1) := by decide +kernel
theorem dL_law_307 : decode cL_law 307 = .ok (.iadd, 1) := by decide +kernel
theorem dL_law_308 : decode cL_law 308 = .ok (.iaload, 1) := by decide +kernel
theorem dL_law_309 : decode cL_law 309 = .ok (.invokevirtual 40, 3) := by decide +kernel
theorem dL_law_312 : decode cL_law 312 = .ok (.aload_n 2, 1) := by decide +kernel
theorem dL_law_313 : decode cL_law 313 = .ok (.aload_n 0, 1) := by decide +kernel
theorem dL_law_314 : decode cL_law 314 = .ok (.iload_n 3, 1) := by decide +kernel
theorem dL_law_315 : decode cL_law 315 = .ok (.iconst 1, 1) := by decide +kernel
theorem dL_law_316 : decode cL_law 316 = .ok (.iadd, 1) := by decide +kernel
theorem dL_law_317 : decode cL_law 317 = .ok (.iaload, 1) := by decide +kernel
theorem dL_law_318 : decode cL_law 318 = .ok (.aload_n 0, 1) := by decide +kernel
theorem dL_law_319 : decode cL_law 319 = .ok (.iload_n 3, 1) := by decide +kernel
theorem dL_law_320 : decode cL_law 320 = .ok (.iconst 2, 1) := by decide +kernel
theorem dL_law_321 : decode cL_law 321 = .ok (.iadd, 1) := by decide +kernel
theorem dL_law_322 : decode cL_law 322 = .ok (.iaload, 1) := by decide +kernel
theorem dL_law_323 : decode cL_law 323 = .ok (.invokevirtual 43, 3) := by decide +kernel
theorem dL_law_326 : decode cL_law 326 = .ok (.if_icmp .eq 668, 3) := by decide +kernel
theorem dL_law_329 : decode cL_law 329 = .ok (.iconst 0, 1) := by decide +kernel
theorem dL_law_330 : decode cL_law 330 = .ok (.ireturn, 1) := by decide +kernel
theorem dL_law_331 : decode cL_law 331 = .ok (.aload_n 1, 1) := by decide +kernel
theorem dL_law_332 : decode cL_law 332 = .ok (.aload_n 0, 1) := by decide +kernel
theorem dL_law_333 : decode cL_law 333 = .ok (.iload_n 3, 1) := by decide +kernel
theorem dL_law_334 : decode cL_law 334 = .ok (.iconst 1, 1) := by decide +kernel
theorem dL_law_335 : decode cL_law 335 = .ok (.iadd, 1) := by decide +kernel
theorem dL_law_336 : decode cL_law 336 = .ok (.iaload, 1) := by decide +kernel
theorem dL_law_337 : decode cL_law 337 = .ok (.invokevirtual 44, 3) := by decide +kernel
theorem dL_law_340 : decode cL_law 340 = .ok (.aload_n 2, 1) := by decide +kernel
theorem dL_law_341 : decode cL_law 341 = .ok (.aload_n 0, 1) := by decide +kernel
theorem dL_law_342 : decode cL_law 342 = .ok (.iload_n 3, 1) := by decide +kernel
theorem dL_law_343 : decode cL_law 343 = .ok (.iconst 1, 1) := by decide +kernel
theorem dL_law_344 : decode cL_law 344 = .ok (.iadd, 1) := by decide +kernel
theorem dL_law_345 : decode cL_law 345 = .ok (.iaload, 1) := by decide +kernel
theorem dL_law_346 : decode cL_law 346 = .ok (.invokevirtual 47, 3) := by decide +kernel
theorem dL_law_349 : decode cL_law 349 = .ok (.if_icmp .eq 645, 3) := by decide +kernel
theorem dL_law_352 : decode cL_law 352 = .ok (.iconst 0, 1) := by decide +kernel
theorem dL_law_353 : decode cL_law 353 = .ok (.ireturn, 1) := by decide +kernel
theorem dL_law_354 : decode cL_law 354 = .ok (.aload_n 1, 1) := by decide +kernel
theorem dL_law_355 : decode cL_law 355 = .ok (.aload_n 0, 1) := by decide +kernel
theorem dL_law_356 : decode cL_law 356 = .ok (.iload_n 3, 1) := by decide +kernel
theorem dL_law_357 : decode cL_law 357 = .ok (.iconst 1, 1) := by decide +kernel
theorem dL_law_358 : decode cL_law 358 = .ok (.iadd, 1) := by decide +kernel
theorem dL_law_359 : decode cL_law 359 = .ok (.iaload, 1) := by decide +kernel
theorem dL_law_360 : decode cL_law 360 = .ok (.invokevirtual 48, 3) := by decide +kernel
theorem dL_law_363 : decode cL_law 363 = .ok (.aload_n 2, 1) := by decide +kernel
theorem dL_law_364 : decode cL_law 364 = .ok (.aload_n 0, 1) := by decide +kernel
theorem dL_law_365 : decode cL_law 365 = .ok (.iload_n 3, 1) := by decide +kernel
theorem dL_law_366 : decode cL_law 366 = .ok (.iconst 1, 1) := by decide +kernel
theorem dL_law_367 : decode cL_law 367 = .ok (.iadd, 1) := by decide +kernel
theorem dL_law_368 : decode cL_law 368 = .ok (.iaload, 1) := by decide +kernel
theorem dL_law_369 : decode cL_law 369 = .ok (.invokevirtual 51, 3) := by decide +kernel
theorem dL_law_372 : decode cL_law 372 = .ok (.if_icmp .eq 622, 3) := by decide +kernel
theorem dL_law_375 : decode cL_law 375 = .ok (.iconst 0, 1) := by decide +kernel
theorem dL_law_376 : decode cL_law 376 = .ok (.ireturn, 1) := by decide +kernel
theorem dL_law_377 : decode cL_law 377 = .ok (.aload_n 1, 1) := by decide +kernel
theorem dL_law_378 : decode cL_law 378 = .ok (.aload_n 0, 1) := by decide +kernel
theorem dL_law_379 : decode cL_law 379 = .ok (.iload_n 3, 1) := by decide +kernel
theorem dL_law_380 : decode cL_law 380 = .ok (.iconst 1, 1) := by decide +kernel
theorem dL_law_381 : decode cL_law 381 = .ok (.iadd, 1) := by decide +kernel
theorem dL_law_382 : decode cL_law 382 = .ok (.iaload, 1) := by decide +kernel
theorem dL_law_383 : decode cL_law 383 = .ok (.aload_n 0, 1) := by decide +kernel
theorem dL_law_384 : decode cL_law 384 = .ok (.iload_n 3, 1) := by decide +kernel
theorem dL_law_385 : decode cL_law 385 = .ok (.iconst 2, 1) := by decide +kernel
theorem dL_law_386 : decode cL_law 386 = .ok (.iadd, 1) := by decide +kernel
theorem dL_law_387 : decode cL_law 387 = .ok (.iaload, 1) := by decide +kernel
theorem dL_law_388 : decode cL_law 388 = .ok (.invokevirtual 52, 3) := by decide +kernel
theorem dL_law_391 : decode cL_law 391 = .ok (.aload_n 2, 1) := by decide +kernel
theorem dL_law_392 : decode cL_law 392 = .ok (.aload_n 0, 1) := by decide +kernel
theorem dL_law_393 : decode cL_law 393 = .ok (.iload_n 3, 1) := by decide +kernel
theorem dL_law_394 : decode cL_law 394 = .ok (.iconst 1, 1) := by decide +kernel
theorem dL_law_395 : decode cL_law 395 = .ok (.iadd, 1) := by decide +kernel
theorem dL_law_396 : decode cL_law 396 = .ok (.iaload, 1) := by decide +kernel
theorem dL_law_397 : decode cL_law 397 = .ok (.aload_n 0, 1) := by decide +kernel
theorem dL_law_398 : decode cL_law 398 = .ok (.iload_n 3, 1) := by decide +kernel
theorem dL_law_399 : decode cL_law 399 = .ok (.iconst 2, 1) := by decide +kernel
theorem dL_law_400 : decode cL_law 400 = .ok (.iadd, 1) := by decide +kernel
theorem dL_law_401 : decode cL_law 401 = .ok (.iaload, 1) := by decide +kernel
theorem dL_law_402 : decode cL_law 402 = .ok (.invokevirtual 55, 3) := by decide +kernel
theorem dL_law_405 : decode cL_law 405 = .ok (.if_icmp .eq 589, 3) := by decide +kernel
theorem dL_law_408 : decode cL_law 408 = .ok (.iconst 0, 1) := by decide +kernel
theorem dL_law_409 : decode cL_law 409 = .ok (.ireturn, 1) := by decide +kernel
theorem dL_law_410 : decode cL_law 410 = .ok (.aload_n 1, 1) := by decide +kernel
theorem dL_law_411 : decode cL_law 411 = .ok (.aload_n 0, 1) := by decide +kernel
theorem dL_law_412 : decode cL_law 412 = .ok (.iload_n 3, 1) := by decide +kernel
theorem dL_law_413 : decode cL_law 413 = .ok (.iconst 1, 1) := by decide +kernel
theorem dL_law_414 : decode cL_law 414 = .ok (.iadd, 1) := by decide +kernel
theorem dL_law_415 : decode cL_law 415 = .ok (.iaload, 1) := by decide +kernel
theorem dL_law_416 : decode cL_law 416 = .ok (.aload_n 0, 1) := by decide +kernel
theorem dL_law_417 : decode cL_law 417 = .ok (.iload_n 3, 1) := by decide +kernel
theorem dL_law_418 : decode cL_law 418 = .ok (.iconst 2, 1) := by decide +kernel
theorem dL_law_419 : decode cL_law 419 = .ok (.iadd, 1) := by decide +kernel
theorem dL_law_420 : decode cL_law 420 = .ok (.iaload, 1) := by decide +kernel
theorem dL_law_421 : decode cL_law 421 = .ok (.invokevirtual 56, 3) := by decide +kernel
theorem dL_law_424 : decode cL_law 424 = .ok (.aload_n 2, 1) := by decide +kernel
theorem dL_law_425 : decode cL_law 425 = .ok (.aload_n 0, 1) := by decide +kernel
theorem dL_law_426 : decode cL_law 426 = .ok (.iload_n 3, 1) := by decide +kernel
theorem dL_law_427 : decode cL_law 427 = .ok (.iconst 1, 1) := by decide +kernel
theorem dL_law_428 : decode cL_law 428 = .ok (.iadd, 1) := by decide +kernel
theorem dL_law_429 : decode cL_law 429 = .ok (.iaload, 1) := by decide +kernel
theorem dL_law_430 : decode cL_law 430 = .ok (.aload_n 0, 1) := by decide +kernel
theorem dL_law_431 : decode cL_law 431 = .ok (.iload_n 3, 1) := by decide +kernel
theorem dL_law_432 : decode cL_law 432 = .ok (.iconst 2, 1) := by decide +kernel
theorem dL_law_433 : decode cL_law 433 = .ok (.iadd, 1) := by decide +kernel
theorem dL_law_434 : decode cL_law 434 = .ok (.iaload, 1) := by decide +kernel
theorem dL_law_435 : decode cL_law 435 = .ok (.invokevirtual 59, 3) := by decide +kernel
theorem dL_law_438 : decode cL_law 438 = .ok (.if_icmp .eq 556, 3) := by decide +kernel
theorem dL_law_441 : decode cL_law 441 = .ok (.iconst 0, 1) := by decide +kernel
theorem dL_law_442 : decode cL_law 442 = .ok (.ireturn, 1) := by decide +kernel
theorem dL_law_443 : decode cL_law 443 = .ok (.aload_n 1, 1) := by decide +kernel
theorem dL_law_444 : decode cL_law 444 = .ok (.aload_n 0, 1) := by decide +kernel
theorem dL_law_445 : decode cL_law 445 = .ok (.iload_n 3, 1) := by decide +kernel
theorem dL_law_446 : decode cL_law 446 = .ok (.iconst 1, 1) := by decide +kernel
theorem dL_law_447 : decode cL_law 447 = .ok (.iadd, 1) := by decide +kernel
theorem dL_law_448 : decode cL_law 448 = .ok (.iaload, 1) := by decide +kernel
theorem dL_law_449 : decode cL_law 449 = .ok (.invokevirtual 60, 3) := by decide +kernel
theorem dL_law_452 : decode cL_law 452 = .ok (.aload_n 2, 1) := by decide +kernel
theorem dL_law_453 : decode cL_law 453 = .ok (.aload_n 0, 1) := by decide +kernel
theorem dL_law_454 : decode cL_law 454 = .ok (.iload_n 3, 1) := by decide +kernel
theorem dL_law_455 : decode cL_law 455 = .ok (.iconst 1, 1) := by decide +kernel
theorem dL_law_456 : decode cL_law 456 = .ok (.iadd, 1) := by decide +kernel
theorem dL_law_457 : decode cL_law 457 = .ok (.iaload, 1) := by decide +kernel
theorem dL_law_458 : decode cL_law 458 = .ok (.invokevirtual 63, 3) := by decide +kernel
theorem dL_law_461 : decode cL_law 461 = .ok (.if_icmp .eq 533, 3) := by decide +kernel
theorem dL_law_464 : decode cL_law 464 = .ok (.iconst 0, 1) := by decide +kernel
theorem dL_law_465 : decode cL_law 465 = .ok (.ireturn, 1) := by decide +kernel
theorem dL_law_466 : decode cL_law 466 = .ok (.aload_n 1, 1) := by decide +kernel
theorem dL_law_467 : decode cL_law 467 = .ok (.aload_n 0, 1) := by decide +kernel
theorem dL_law_468 : decode cL_law 468 = .ok (.iload_n 3, 1) := by decide +kernel
theorem dL_law_469 : decode cL_law 469 = .ok (.iconst 1, 1) := by decide +kernel
theorem dL_law_470 : decode cL_law 470 = .ok (.iadd, 1) := by decide +kernel
theorem dL_law_471 : decode cL_law 471 = .ok (.iaload, 1) := by decide +kernel
theorem dL_law_472 : decode cL_law 472 = .ok (.invokevirtual 64, 3) := by decide +kernel
theorem dL_law_475 : decode cL_law 475 = .ok (.aload_n 2, 1) := by decide +kernel
theorem dL_law_476 : decode cL_law 476 = .ok (.aload_n 0, 1) := by decide +kernel
theorem dL_law_477 : decode cL_law 477 = .ok (.iload_n 3, 1) := by decide +kernel
theorem dL_law_478 : decode cL_law 478 = .ok (.iconst 1, 1) := by decide +kernel
theorem dL_law_479 : decode cL_law 479 = .ok (.iadd, 1) := by decide +kernel
theorem dL_law_480 : decode cL_law 480 = .ok (.iaload, 1) := by decide +kernel
theorem dL_law_481 : decode cL_law 481 = .ok (.invokevirtual 67, 3) := by decide +kernel
theorem dL_law_484 : decode cL_law 484 = .ok (.if_icmp .eq 510, 3) := by decide +kernel
theorem dL_law_487 : decode cL_law 487 = .ok (.iconst 0, 1) := by decide +kernel
theorem dL_law_488 : decode cL_law 488 = .ok (.ireturn, 1) := by decide +kernel
theorem dL_law_489 : decode cL_law 489 = .ok (.aload_n 1, 1) := by decide +kernel
theorem dL_law_490 : decode cL_law 490 = .ok (.aload_n 0, 1) := by decide +kernel
theorem dL_law_491 : decode cL_law 491 = .ok (.iload_n 3, 1) := by decide +kernel
theorem dL_law_492 : decode cL_law 492 = .ok (.iconst 1, 1) := by decide +kernel
theorem dL_law_493 : decode cL_law 493 = .ok (.iadd, 1) := by decide +kernel
theorem dL_law_494 : decode cL_law 494 = .ok (.iaload, 1) := by decide +kernel
theorem dL_law_495 : decode cL_law 495 = .ok (.aload_n 0, 1) := by decide +kernel
theorem dL_law_496 : decode cL_law 496 = .ok (.iload_n 3, 1) := by decide +kernel
theorem dL_law_497 : decode cL_law 497 = .ok (.iconst 2, 1) := by decide +kernel
theorem dL_law_498 : decode cL_law 498 = .ok (.iadd, 1) := by decide +kernel
theorem dL_law_499 : decode cL_law 499 = .ok (.iaload, 1) := by decide +kernel
theorem dL_law_500 : decode cL_law 500 = .ok (.invokevirtual 68, 3) := by decide +kernel
theorem dL_law_503 : decode cL_law 503 = .ok (.aload_n 2, 1) := by decide +kernel
theorem dL_law_504 : decode cL_law 504 = .ok (.aload_n 0, 1) := by decide +kernel
theorem dL_law_505 : decode cL_law 505 = .ok (.iload_n 3, 1) := by decide +kernel
theorem dL_law_506 : decode cL_law 506 = .ok (.iconst 1, 1) := by decide +kernel
theorem dL_law_507 : decode cL_law 507 = .ok (.iadd, 1) := by decide +kernel
theorem dL_law_508 : decode cL_law 508 = .ok (.iaload, 1) := by decide +kernel
theorem dL_law_509 : decode cL_law 509 = .ok (.aload_n 0, 1) := by decide +kernel
theorem dL_law_510 : decode cL_law 510 = .ok (.iload_n 3, 1) := by decide +kernel
theorem dL_law_511 : decode cL_law 511 = .ok (.iconst 2, 1) := by decide +kernel
theorem dL_law_512 : decode cL_law 512 = .ok (.iadd, 1) := by decide +kernel
theorem dL_law_513 : decode cL_law 513 = .ok (.iaload, 1) := by decide +kernel
theorem dL_law_514 : decode cL_law 514 = .ok (.invokevirtual 71, 3) := by decide +kernel
theorem dL_law_517 : decode cL_law 517 = .ok (.if_icmp .eq 477, 3) := by decide +kernel
theorem dL_law_520 : decode cL_law 520 = .ok (.iconst 0, 1) := by decide +kernel
theorem dL_law_521 : decode cL_law 521 = .ok (.ireturn, 1) := by decide +kernel
theorem dL_law_522 : decode cL_law 522 = .ok (.aload_n 1, 1) := by decide +kernel
theorem dL_law_523 : decode cL_law 523 = .ok (.aload_n 0, 1) := by decide +kernel
theorem dL_law_524 : decode cL_law 524 = .ok (.iload_n 3, 1) := by decide +kernel
theorem dL_law_525 : decode cL_law 525 = .ok (.iconst 1, 1) := by decide +kernel
theorem dL_law_526 : decode cL_law 526 = .ok (.iadd, 1) := by decide +kernel
theorem dL_law_527 : decode cL_law 527 = .ok (.iaload, 1) := by decide +kernel
theorem dL_law_528 : decode cL_law 528 = .ok (.aload_n 0, 1) := by decide +kernel
theorem dL_law_529 : decode cL_law 529 = .ok (.iload_n 3, 1) := by decide +kernel
theorem dL_law_530 : decode cL_law 530 = .ok (.iconst 2, 1) := by decide +kernel
theorem dL_law_531 : decode cL_law 531 = .ok (.iadd, 1) := by decide +kernel
theorem dL_law_532 : decode cL_law 532 = .ok (.iaload, 1) := by decide +kernel
theorem dL_law_533 : decode cL_law 533 = .ok (.invokevirtual 72, 3) := by decide +kernel
theorem dL_law_536 : decode cL_law 536 = .ok (.aload_n 2, 1) := by decide +kernel
theorem dL_law_537 : decode cL_law 537 = .ok (.aload_n 0, 1) := by decide +kernel
theorem dL_law_538 : decode cL_law 538 = .ok (.iload_n 3, 1) := by decide +kernel
theorem dL_law_539 : decode cL_law 539 = .ok (.iconst 1, 1) := by decide +kernel
theorem dL_law_540 : decode cL_law 540 = .ok (.iadd, 1) := by decide +kernel
theorem dL_law_541 : decode cL_law 541 = .ok (.iaload, 1) := by decide +kernel
theorem dL_law_542 : decode cL_law 542 = .ok (.aload_n 0, 1) := by decide +kernel
theorem dL_law_543 : decode cL_law 543 = .ok (.iload_n 3, 1) := by decide +kernel
theorem dL_law_544 : decode cL_law 544 = .ok (.iconst 2, 1) := by decide +kernel
theorem dL_law_545 : decode cL_law 545 = .ok (.iadd, 1) := by decide +kernel
theorem dL_law_546 : decode cL_law 546 = .ok (.iaload, 1) := by decide +kernel
theorem dL_law_547 : decode cL_law 547 = .ok (.invokevirtual 75, 3) := by decide +kernel
theorem dL_law_550 : decode cL_law 550 = .ok (.if_icmp .eq 444, 3) := by decide +kernel
theorem dL_law_553 : decode cL_law 553 = .ok (.iconst 0, 1) := by decide +kernel
theorem dL_law_554 : decode cL_law 554 = .ok (.ireturn, 1) := by decide +kernel
theorem dL_law_555 : decode cL_law 555 = .ok (.aload_n 1, 1) := by decide +kernel
theorem dL_law_556 : decode cL_law 556 = .ok (.aload_n 0, 1) := by decide +kernel
theorem dL_law_557 : decode cL_law 557 = .ok (.iload_n 3, 1) := by decide +kernel
theorem dL_law_558 : decode cL_law 558 = .ok (.iconst 1, 1) := by decide +kernel
theorem dL_law_559 : decode cL_law 559 = .ok (.iadd, 1) := by decide +kernel
theorem dL_law_560 : decode cL_law 560 = .ok (.iaload, 1) := by decide +kernel
theorem dL_law_561 : decode cL_law 561 = .ok (.aload_n 0, 1) := by decide +kernel
theorem dL_law_562 : decode cL_law 562 = .ok (.iload_n 3, 1) := by decide +kernel
theorem dL_law_563 : decode cL_law 563 = .ok (.iconst 2, 1) := by decide +kernel
theorem dL_law_564 : decode cL_law 564 = .ok (.iadd, 1) := by decide +kernel
theorem dL_law_565 : decode cL_law 565 = .ok (.iaload, 1) := by decide +kernel
theorem dL_law_566 : decode cL_law 566 = .ok (.aload_n 0, 1) := by decide +kernel
theorem dL_law_567 : decode cL_law 567 = .ok (.iload_n 3, 1) := by decide +kernel
theorem dL_law_568 : decode cL_law 568 = .ok (.iconst 3, 1) := by decide +kernel
theorem dL_law_569 : decode cL_law 569 = .ok (.iadd, 1) := by decide +kernel
theorem dL_law_570 : decode cL_law 570 = .ok (.iaload, 1) := by decide +kernel
theorem dL_law_571 : decode cL_law 571 = .ok (.invokevirtual 76, 3) := by decide +kernel
theorem dL_law_574 : decode cL_law 574 = .ok (.aload_n 2, 1) := by decide +kernel
theorem dL_law_575 : decode cL_law 575 = .ok (.aload_n 0, 1) := by decide +kernel
theorem dL_law_576 : decode cL_law 576 = .ok (.iload_n 3, 1) := by decide +kernel
theorem dL_law_577 : decode cL_law 577 = .ok (.iconst 1, 1) := by decide +kernel
theorem dL_law_578 : decode cL_law 578 = .ok (.iadd, 1) := by decide +kernel
theorem dL_law_579 : decode cL_law 579 = .ok (.iaload, 1) := by decide +kernel
theorem dL_law_580 : decode cL_law 580 = .ok (.aload_n 0, 1) := by decide +kernel
theorem dL_law_581 : decode cL_law 581 = .ok (.iload_n 3, 1) := by decide +kernel
theorem dL_law_582 : decode cL_law 582 = .ok (.iconst 2, 1) := by decide +kernel
theorem dL_law_583 : decode cL_law 583 = .ok (.iadd, 1) := by decide +kernel
theorem dL_law_584 : decode cL_law 584 = .ok (.iaload, 1) := by decide +kernel
theorem dL_law_585 : decode cL_law 585 = .ok (.aload_n 0, 1) := by decide +kernel
theorem dL_law_586 : decode cL_law 586 = .ok (.iload_n 3, 1) := by decide +kernel
theorem dL_law_587 : decode cL_law 587 = .ok (.iconst 3, 1) := by decide +kernel
theorem dL_law_588 : decode cL_law 588 = .ok (.iadd, 1) := by decide +kernel
theorem dL_law_589 : decode cL_law 589 = .ok (.iaload, 1) := by decide +kernel
theorem dL_law_590 : decode cL_law 590 = .ok (.invokevirtual 80, 3) := by decide +kernel
theorem dL_law_593 : decode cL_law 593 = .ok (.if_icmp .eq 401, 3) := by decide +kernel
theorem dL_law_596 : decode cL_law 596 = .ok (.iconst 0, 1) := by decide +kernel
theorem dL_law_597 : decode cL_law 597 = .ok (.ireturn, 1) := by decide +kernel
theorem dL_law_598 : decode cL_law 598 = .ok (.aload_n 1, 1) := by decide +kernel
theorem dL_law_599 : decode cL_law 599 = .ok (.aload_n 0, 1) := by decide +kernel
theorem dL_law_600 : decode cL_law 600 = .ok (.iload_n 3, 1) := by decide +kernel
theorem dL_law_601 : decode cL_law 601 = .ok (.iconst 1, 1) := by decide +kernel
theorem dL_law_602 : decode cL_law 602 = .ok (.iadd, 1) := by decide +kernel
theorem dL_law_603 : decode cL_law 603 = .ok (.iaload, 1) := by decide +kernel
theorem dL_law_604 : decode cL_law 604 = .ok (.aload_n 0, 1) := by decide +kernel
theorem dL_law_605 : decode cL_law 605 = .ok (.iload_n 3, 1) := by decide +kernel
theorem dL_law_606 : decode cL_law 606 = .ok (.iconst 2, 1) := by decide +kernel
theorem dL_law_607 : decode cL_law 607 = .ok (.iadd, 1) := by decide +kernel
theorem dL_law_608 : decode cL_law 608 = .ok (.iaload, 1) := by decide +kernel
theorem dL_law_609 : decode cL_law 609 = .ok (.aload_n 0, 1) := by decide +kernel
theorem dL_law_610 : decode cL_law 610 = .ok (.iload_n 3, 1) := by decide +kernel
theorem dL_law_611 : decode cL_law 611 = .ok (.iconst 3, 1) := by decide +kernel
theorem dL_law_612 : decode cL_law 612 = .ok (.iadd, 1) := by decide +kernel
theorem dL_law_613 : decode cL_law 613 = .ok (.iaload, 1) := by decide +kernel
theorem dL_law_614 : decode cL_law 614 = .ok (.invokevirtual 81, 3) := by decide +kernel
theorem dL_law_617 : decode cL_law 617 = .ok (.aload_n 2, 1) := by decide +kernel
theorem dL_law_618 : decode cL_law 618 = .ok (.aload_n 0, 1) := by decide +kernel
theorem dL_law_619 : decode cL_law 619 = .ok (.iload_n 3, 1) := by decide +kernel
theorem dL_law_620 : decode cL_law 620 = .ok (.iconst 1, 1) := by decide +kernel
theorem dL_law_621 : decode cL_law 621 = .ok (.iadd, 1) := by decide +kernel
theorem dL_law_622 : decode cL_law 622 = .ok (.iaload, 1) := by decide +kernel
theorem dL_law_623 : decode cL_law 623 = .ok (.aload_n 0, 1) := by decide +kernel
theorem dL_law_624 : decode cL_law 624 = .ok (.iload_n 3, 1) := by decide +kernel
theorem dL_law_625 : decode cL_law 625 = .ok (.iconst 2, 1) := by decide +kernel
theorem dL_law_626 : decode cL_law 626 = .ok (.iadd, 1) := by decide +kernel
theorem dL_law_627 : decode cL_law 627 = .ok (.iaload, 1) := by decide +kernel
theorem dL_law_628 : decode cL_law 628 = .ok (.aload_n 0, 1) := by decide +kernel
theorem dL_law_629 : decode cL_law 629 = .ok (.iload_n 3, 1) := by decide +kernel
theorem dL_law_630 : decode cL_law 630 = .ok (.iconst 3, 1) := by decide +kernel
theorem dL_law_631 : decode cL_law 631 = .ok (.iadd, 1) := by decide +kernel
theorem dL_law_632 : decode cL_law 632 = .ok (.iaload, 1) := by decide +kernel
theorem dL_law_633 : decode cL_law 633 = .ok (.invokevirtual 84, 3) := by decide +kernel
theorem dL_law_636 : decode cL_law 636 = .ok (.if_icmp .eq 358, 3) := by decide +kernel
theorem dL_law_639 : decode cL_law 639 = .ok (.iconst 0, 1) := by decide +kernel
theorem dL_law_640 : decode cL_law 640 = .ok (.ireturn, 1) := by decide +kernel
theorem dL_law_641 : decode cL_law 641 = .ok (.aload_n 1, 1) := by decide +kernel
theorem dL_law_642 : decode cL_law 642 = .ok (.aload_n 0, 1) := by decide +kernel
theorem dL_law_643 : decode cL_law 643 = .ok (.iload_n 3, 1) := by decide +kernel
theorem dL_law_644 : decode cL_law 644 = .ok (.iconst 1, 1) := by decide +kernel
theorem dL_law_645 : decode cL_law 645 = .ok (.iadd, 1) := by decide +kernel
theorem dL_law_646 : decode cL_law 646 = .ok (.iaload, 1) := by decide +kernel
theorem dL_law_647 : decode cL_law 647 = .ok (.aload_n 0, 1) := by decide +kernel
theorem dL_law_648 : decode cL_law 648 = .ok (.iload_n 3, 1) := by decide +kernel
theorem dL_law_649 : decode cL_law 649 = .ok (.iconst 2, 1) := by decide +kernel
theorem dL_law_650 : decode cL_law 650 = .ok (.iadd, 1) := by decide +kernel
theorem dL_law_651 : decode cL_law 651 = .ok (.iaload, 1) := by decide +kernel
theorem dL_law_652 : decode cL_law 652 = .ok (.aload_n 0, 1) := by decide +kernel
theorem dL_law_653 : decode cL_law 653 = .ok (.iload_n 3, 1) := by decide +kernel
theorem dL_law_654 : decode cL_law 654 = .ok (.iconst 3, 1) := by decide +kernel
theorem dL_law_655 : decode cL_law 655 = .ok (.iadd, 1) := by decide +kernel
theorem dL_law_656 : decode cL_law 656 = .ok (.iaload, 1) := by decide +kernel
theorem dL_law_657 : decode cL_law 657 = .ok (.aload_n 0, 1) := by decide +kernel
theorem dL_law_658 : decode cL_law 658 = .ok (.iload_n 3, 1) := by decide +kernel
theorem dL_law_659 : decode cL_law 659 = .ok (.iconst 4, 1) := by decide +kernel
theorem dL_law_660 : decode cL_law 660 = .ok (.iadd, 1) := by decide +kernel
theorem dL_law_661 : decode cL_law 661 = .ok (.iaload, 1) := by decide +kernel
theorem dL_law_662 : decode cL_law 662 = .ok (.invokevirtual 85, 3) := by decide +kernel
theorem dL_law_665 : decode cL_law 665 = .ok (.aload_n 2, 1) := by decide +kernel
theorem dL_law_666 : decode cL_law 666 = .ok (.aload_n 0, 1) := by decide +kernel
theorem dL_law_667 : decode cL_law 667 = .ok (.iload_n 3, 1) := by decide +kernel
theorem dL_law_668 : decode cL_law 668 = .ok (.iconst 1, 1) := by decide +kernel
theorem dL_law_669 : decode cL_law 669 = .ok (.iadd, 1) := by decide +kernel
theorem dL_law_670 : decode cL_law 670 = .ok (.iaload, 1) := by decide +kernel
theorem dL_law_671 : decode cL_law 671 = .ok (.aload_n 0, 1) := by decide +kernel
theorem dL_law_672 : decode cL_law 672 = .ok (.iload_n 3, 1) := by decide +kernel
theorem dL_law_673 : decode cL_law 673 = .ok (.iconst 2, 1) := by decide +kernel
theorem dL_law_674 : decode cL_law 674 = .ok (.iadd, 1) := by decide +kernel
theorem dL_law_675 : decode cL_law 675 = .ok (.iaload, 1) := by decide +kernel
theorem dL_law_676 : decode cL_law 676 = .ok (.aload_n 0, 1) := by decide +kernel
theorem dL_law_677 : decode cL_law 677 = .ok (.iload_n 3, 1) := by decide +kernel
theorem dL_law_678 : decode cL_law 678 = .ok (.iconst 3, 1) := by decide +kernel
theorem dL_law_679 : decode cL_law 679 = .ok (.iadd, 1) := by decide +kernel
theorem dL_law_680 : decode cL_law 680 = .ok (.iaload, 1) := by decide +kernel
theorem dL_law_681 : decode cL_law 681 = .ok (.aload_n 0, 1) := by decide +kernel
theorem dL_law_682 : decode cL_law 682 = .ok (.iload_n 3, 1) := by decide +kernel
theorem dL_law_683 : decode cL_law 683 = .ok (.iconst 4, 1) := by decide +kernel
theorem dL_law_684 : decode cL_law 684 = .ok (.iadd, 1) := by decide +kernel
theorem dL_law_685 : decode cL_law 685 = .ok (.iaload, 1) := by decide +kernel
theorem dL_law_686 : decode cL_law 686 = .ok (.invokevirtual 89, 3) := by decide +kernel
theorem dL_law_689 : decode cL_law 689 = .ok (.if_icmp .eq 305, 3) := by decide +kernel
theorem dL_law_692 : decode cL_law 692 = .ok (.iconst 0, 1) := by decide +kernel
theorem dL_law_693 : decode cL_law 693 = .ok (.ireturn, 1) := by decide +kernel
theorem dL_law_694 : decode cL_law 694 = .ok (.aload_n 1, 1) := by decide +kernel
theorem dL_law_695 : decode cL_law 695 = .ok (.aload_n 0, 1) := by decide +kernel
theorem dL_law_696 : decode cL_law 696 = .ok (.iload_n 3, 1) := by decide +kernel
theorem dL_law_697 : decode cL_law 697 = .ok (.iconst 1, 1) := by decide +kernel
theorem dL_law_698 : decode cL_law 698 = .ok (.iadd, 1) := by decide +kernel
theorem dL_law_699 : decode cL_law 699 = .ok (.iaload, 1) := by decide +kernel
theorem dL_law_700 : decode cL_law 700 = .ok (.aload_n 0, 1) := by decide +kernel
theorem dL_law_701 : decode cL_law 701 = .ok (.iload_n 3, 1) := by decide +kernel
theorem dL_law_702 : decode cL_law 702 = .ok (.iconst 2, 1) := by decide +kernel
theorem dL_law_703 : decode cL_law 703 = .ok (.iadd, 1) := by decide +kernel
theorem dL_law_704 : decode cL_law 704 = .ok (.iaload, 1) := by decide +kernel
theorem dL_law_705 : decode cL_law 705 = .ok (.aload_n 0, 1) := by decide +kernel
theorem dL_law_706 : decode cL_law 706 = .ok (.iload_n 3, 1) := by decide +kernel
theorem dL_law_707 : decode cL_law 707 = .ok (.iconst 3, 1) := by decide +kernel
theorem dL_law_708 : decode cL_law 708 = .ok (.iadd, 1) := by decide +kernel
theorem dL_law_709 : decode cL_law 709 = .ok (.iaload, 1) := by decide +kernel
theorem dL_law_710 : decode cL_law 710 = .ok (.invokevirtual 90, 3) := by decide +kernel
theorem dL_law_713 : decode cL_law 713 = .ok (.aload_n 2, 1) := by decide +kernel
theorem dL_law_714 : decode cL_law 714 = .ok (.aload_n 0, 1) := by decide +kernel
theorem dL_law_715 : decode cL_law 715 = .ok (.iload_n 3, 1) := by decide +kernel
theorem dL_law_716 : decode cL_law 716 = .ok (.iconst 1, 1) := by decide +kernel
theorem dL_law_717 : decode cL_law 717 = .ok (.iadd, 1) := by decide +kernel
theorem dL_law_718 : decode cL_law 718 = .ok (.iaload, 1) := by decide +kernel
theorem dL_law_719 : decode cL_law 719 = .ok (.aload_n 0, 1) := by decide +kernel
theorem dL_law_720 : decode cL_law 720 = .ok (.iload_n 3, 1) := by decide +kernel
theorem dL_law_721 : decode cL_law 721 = .ok (.iconst 2, 1) := by decide +kernel
theorem dL_law_722 : decode cL_law 722 = .ok (.iadd, 1) := by decide +kernel
theorem dL_law_723 : decode cL_law 723 = .ok (.iaload, 1) := by decide +kernel
theorem dL_law_724 : decode cL_law 724 = .ok (.aload_n 0, 1) := by decide +kernel
theorem dL_law_725 : decode cL_law 725 = .ok (.iload_n 3, 1) := by decide +kernel
theorem dL_law_726 : decode cL_law 726 = .ok (.iconst 3, 1) := by decide +kernel
theorem dL_law_727 : decode cL_law 727 = .ok (.iadd, 1) := by decide +kernel
theorem dL_law_728 : decode cL_law 728 = .ok (.iaload, 1) := by decide +kernel
theorem dL_law_729 : decode cL_law 729 = .ok (.invokevirtual 93, 3) := by decide +kernel
theorem dL_law_732 : decode cL_law 732 = .ok (.if_icmp .eq 262, 3) := by decide +kernel
theorem dL_law_735 : decode cL_law 735 = .ok (.iconst 0, 1) := by decide +kernel
theorem dL_law_736 : decode cL_law 736 = .ok (.ireturn, 1) := by decide +kernel
theorem dL_law_737 : decode cL_law 737 = .ok (.aload_n 1, 1) := by decide +kernel
theorem dL_law_738 : decode cL_law 738 = .ok (.aload_n 0, 1) := by decide +kernel
theorem dL_law_739 : decode cL_law 739 = .ok (.iload_n 3, 1) := by decide +kernel
theorem dL_law_740 : decode cL_law 740 = .ok (.iconst 1, 1) := by decide +kernel
theorem dL_law_741 : decode cL_law 741 = .ok (.iadd, 1) := by decide +kernel
theorem dL_law_742 : decode cL_law 742 = .ok (.iaload, 1) := by decide +kernel
theorem dL_law_743 : decode cL_law 743 = .ok (.aload_n 0, 1) := by decide +kernel
theorem dL_law_744 : decode cL_law 744 = .ok (.iload_n 3, 1) := by decide +kernel
theorem dL_law_745 : decode cL_law 745 = .ok (.iconst 2, 1) := by decide +kernel
theorem dL_law_746 : decode cL_law 746 = .ok (.iadd, 1) := by decide +kernel
theorem dL_law_747 : decode cL_law 747 = .ok (.iaload, 1) := by decide +kernel
theorem dL_law_748 : decode cL_law 748 = .ok (.aload_n 0, 1) := by decide +kernel
theorem dL_law_749 : decode cL_law 749 = .ok (.iload_n 3, 1) := by decide +kernel
theorem dL_law_750 : decode cL_law 750 = .ok (.iconst 3, 1) := by decide +kernel
theorem dL_law_751 : decode cL_law 751 = .ok (.iadd, 1) := by decide +kernel
theorem dL_law_752 : decode cL_law 752 = .ok (.iaload, 1) := by decide +kernel
theorem dL_law_753 : decode cL_law 753 = .ok (.invokevirtual 94, 3) := by decide +kernel
theorem dL_law_756 : decode cL_law 756 = .ok (.aload_n 2, 1) := by decide +kernel
theorem dL_law_757 : decode cL_law 757 = .ok (.aload_n 0, 1) := by decide +kernel
theorem dL_law_758 : decode cL_law 758 = .ok (.iload_n 3, 1) := by decide +kernel
theorem dL_law_759 : decode cL_law 759 = .ok (.iconst 1, 1) := by decide +kernel
theorem dL_law_760 : decode cL_law 760 = .ok (.iadd, 1) := by decide +kernel
theorem dL_law_761 : decode cL_law 761 = .ok (.iaload, 1) := by decide +kernel
theorem dL_law_762 : decode cL_law 762 = .ok (.aload_n 0, 1) := by decide +kernel
theorem dL_law_763 : decode cL_law 763 = .ok (.iload_n 3, 1) := by decide +kernel
theorem dL_law_764 : decode cL_law 764 = .ok (.iconst 2, 1) := by decide +kernel
theorem dL_law_765 : decode cL_law 765 = .ok (.iadd, 1) := by decide +kernel
theorem dL_law_766 : decode cL_law 766 = .ok (.iaload, 1) := by decide +kernel
theorem dL_law_767 : decode cL_law 767 = .ok (.aload_n 0, 1) := by decide +kernel
theorem dL_law_768 : decode cL_law 768 = .ok (.iload_n 3, 1) := by decide +kernel
theorem dL_law_769 : decode cL_law 769 = .ok (.iconst 3, 1) := by decide +kernel
theorem dL_law_770 : decode cL_law 770 = .ok (.iadd, 1) := by decide +kernel
theorem dL_law_771 : decode cL_law 771 = .ok (.iaload, 1) := by decide +kernel
theorem dL_law_772 : decode cL_law 772 = .ok (.invokevirtual 97, 3) := by decide +kernel
theorem dL_law_775 : decode cL_law 775 = .ok (.if_icmp .eq 219, 3) := by decide +kernel
theorem dL_law_778 : decode cL_law 778 = .ok (.iconst 0, 1) := by decide +kernel
theorem dL_law_779 : decode cL_law 779 = .ok (.ireturn, 1) := by decide +kernel
theorem dL_law_780 : decode cL_law 780 = .ok (.aload_n 1, 1) := by decide +kernel
theorem dL_law_781 : decode cL_law 781 = .ok (.aload_n 0, 1) := by decide +kernel
theorem dL_law_782 : decode cL_law 782 = .ok (.iload_n 3, 1) := by decide +kernel
theorem dL_law_783 : decode cL_law 783 = .ok (.iconst 1, 1) := by decide +kernel
theorem dL_law_784 : decode cL_law 784 = .ok (.iadd, 1) := by decide +kernel
theorem dL_law_785 : decode cL_law 785 = .ok (.iaload, 1) := by decide +kernel
theorem dL_law_786 : decode cL_law 786 = .ok (.aload_n 0, 1) := by decide +kernel
theorem dL_law_787 : decode cL_law 787 = .ok (.iload_n 3, 1) := by decide +kernel
theorem dL_law_788 : decode cL_law 788 = .ok (.iconst 2, 1) := by decide +kernel
theorem dL_law_789 : decode cL_law 789 = .ok (.iadd, 1) := by decide +kernel
theorem dL_law_790 : decode cL_law 790 = .ok (.iaload, 1) := by decide +kernel
theorem dL_law_791 : decode cL_law 791 = .ok (.aload_n 0, 1) := by decide +kernel
theorem dL_law_792 : decode cL_law 792 = .ok (.iload_n 3, 1) := by decide +kernel
theorem dL_law_793 : decode cL_law 793 = .ok (.iconst 3, 1) := by decide +kernel
theorem dL_law_794 : decode cL_law 794 = .ok (.iadd, 1) := by decide +kernel
theorem dL_law_795 : decode cL_law 795 = .ok (.iaload, 1) := by decide +kernel
theorem dL_law_796 : decode cL_law 796 = .ok (.invokevirtual 98, 3) := by decide +kernel
theorem dL_law_799 : decode cL_law 799 = .ok (.aload_n 2, 1) := by decide +kernel
theorem dL_law_800 : decode cL_law 800 = .ok (.aload_n 0, 1) := by decide +kernel
theorem dL_law_801 : decode cL_law 801 = .ok (.iload_n 3, 1) := by decide +kernel
theorem dL_law_802 : decode cL_law 802 = .ok (.iconst 1, 1) := by decide +kernel
theorem dL_law_803 : decode cL_law 803 = .ok (.iadd, 1) := by decide +kernel
theorem dL_law_804 : decode cL_law 804 = .ok (.iaload, 1) := by decide +kernel
theorem dL_law_805 : decode cL_law 805 = .ok (.aload_n 0, 1) := by decide +kernel
theorem dL_law_806 : decode cL_law 806 = .ok (.iload_n 3, 1) := by decide +kernel
theorem dL_law_807 : decode cL_law 807 = .ok (.iconst 2, 1) := by decide +kernel
theorem dL_law_808 : decode cL_law 808 = .ok (.iadd, 1) := by decide +kernel
theorem dL_law_809 : decode cL_law 809 = .ok (.iaload, 1) := by decide +kernel
theorem dL_law_810 : decode cL_law 810 = .ok (.aload_n 0, 1) := by decide +kernel
theorem dL_law_811 : decode cL_law 811 = .ok (.iload_n 3, 1) := by decide +kernel
theorem dL_law_812 : decode cL_law 812 = .ok (.iconst 3, 1) := by decide +kernel
theorem dL_law_813 : decode cL_law 813 = .ok (.iadd, 1) := by decide +kernel
theorem dL_law_814 : decode cL_law 814 = .ok (.iaload, 1) := by decide +kernel
theorem dL_law_815 : decode cL_law 815 = .ok (.invokevirtual 101, 3) := by decide +kernel
theorem dL_law_818 : decode cL_law 818 = .ok (.if_icmp .eq 176, 3) := by decide +kernel
theorem dL_law_821 : decode cL_law 821 = .ok (.iconst 0, 1) := by decide +kernel
theorem dL_law_822 : decode cL_law 822 = .ok (.ireturn, 1) := by decide +kernel
theorem dL_law_823 : decode cL_law 823 = .ok (.aload_n 1, 1) := by decide +kernel
theorem dL_law_824 : decode cL_law 824 = .ok (.aload_n 0, 1) := by decide +kernel
theorem dL_law_825 : decode cL_law 825 = .ok (.iload_n 3, 1) := by decide +kernel
theorem dL_law_826 : decode cL_law 826 = .ok (.iconst 1, 1) := by decide +kernel
theorem dL_law_827 : decode cL_law 827 = .ok (.iadd, 1) := by decide +kernel
theorem dL_law_828 : decode cL_law 828 = .ok (.iaload, 1) := by decide +kernel
theorem dL_law_829 : decode cL_law 829 = .ok (.aload_n 0, 1) := by decide +kernel
theorem dL_law_830 : decode cL_law 830 = .ok (.iload_n 3, 1) := by decide +kernel
theorem dL_law_831 : decode cL_law 831 = .ok (.iconst 2, 1) := by decide +kernel
theorem dL_law_832 : decode cL_law 832 = .ok (.iadd, 1) := by decide +kernel
theorem dL_law_833 : decode cL_law 833 = .ok (.iaload, 1) := by decide +kernel
theorem dL_law_834 : decode cL_law 834 = .ok (.aload_n 0, 1) := by decide +kernel
theorem dL_law_835 : decode cL_law 835 = .ok (.iload_n 3, 1) := by decide +kernel
theorem dL_law_836 : decode cL_law 836 = .ok (.iconst 3, 1) := by decide +kernel
theorem dL_law_837 : decode cL_law 837 = .ok (.iadd, 1) := by decide +kernel
theorem dL_law_838 : decode cL_law 838 = .ok (.iaload, 1) := by decide +kernel
theorem dL_law_839 : decode cL_law 839 = .ok (.invokevirtual 102, 3) := by decide +kernel
theorem dL_law_842 : decode cL_law 842 = .ok (.aload_n 2, 1) := by decide +kernel
theorem dL_law_843 : decode cL_law 843 = .ok (.aload_n 0, 1) := by decide +kernel
theorem dL_law_844 : decode cL_law 844 = .ok (.iload_n 3, 1) := by decide +kernel
theorem dL_law_845 : decode cL_law 845 = .ok (.iconst 1, 1) := by decide +kernel
theorem dL_law_846 : decode cL_law 846 = .ok (.iadd, 1) := by decide +kernel
theorem dL_law_847 : decode cL_law 847 = .ok (.iaload, 1) := by decide +kernel
theorem dL_law_848 : decode cL_law 848 = .ok (.aload_n 0, 1) := by decide +kernel
theorem dL_law_849 : decode cL_law 849 = .ok (.iload_n 3, 1) := by decide +kernel
theorem dL_law_850 : decode cL_law 850 = .ok (.iconst 2, 1) := by decide +kernel
theorem dL_law_851 : decode cL_law 851 = .ok (.iadd, 1) := by decide +kernel
theorem dL_law_852 : decode cL_law 852 = .ok (.iaload, 1) := by decide +kernel
theorem dL_law_853 : decode cL_law 853 = .ok (.aload_n 0, 1) := by decide +kernel
theorem dL_law_854 : decode cL_law 854 = .ok (.iload_n 3, 1) := by decide +kernel
theorem dL_law_855 : decode cL_law 855 = .ok (.iconst 3, 1) := by decide +kernel
theorem dL_law_856 : decode cL_law 856 = .ok (.iadd, 1) := by decide +kernel
theorem dL_law_857 : decode cL_law 857 = .ok (.iaload, 1) := by decide +kernel
theorem dL_law_858 : decode cL_law 858 = .ok (.invokevirtual 105, 3) := by decide +kernel
theorem dL_law_861 : decode cL_law 861 = .ok (.if_icmp .eq 133, 3) := by decide +kernel
theorem dL_law_864 : decode cL_law 864 = .ok (.iconst 0, 1) := by decide +kernel
theorem dL_law_865 : decode cL_law 865 = .ok (.ireturn, 1) := by decide +kernel
theorem dL_law_866 : decode cL_law 866 = .ok (.aload_n 1, 1) := by decide +kernel
theorem dL_law_867 : decode cL_law 867 = .ok (.aload_n 0, 1) := by decide +kernel
theorem dL_law_868 : decode cL_law 868 = .ok (.iload_n 3, 1) := by decide +kernel
theorem dL_law_869 : decode cL_law 869 = .ok (.iconst 1, 1) := by decide +kernel
theorem dL_law_870 : decode cL_law 870 = .ok (.iadd, 1) := by decide +kernel
theorem dL_law_871 : decode cL_law 871 = .ok (.iaload, 1) := by decide +kernel
theorem dL_law_872 : decode cL_law 872 = .ok (.aload_n 0, 1) := by decide +kernel
theorem dL_law_873 : decode cL_law 873 = .ok (.iload_n 3, 1) := by decide +kernel
theorem dL_law_874 : decode cL_law 874 = .ok (.iconst 2, 1) := by decide +kernel
theorem dL_law_875 : decode cL_law 875 = .ok (.iadd, 1) := by decide +kernel
theorem dL_law_876 : decode cL_law 876 = .ok (.iaload, 1) := by decide +kernel
theorem dL_law_877 : decode cL_law 877 = .ok (.invokevirtual 106, 3) := by decide +kernel
theorem dL_law_880 : decode cL_law 880 = .ok (.aload_n 2, 1) := by decide +kernel
theorem dL_law_881 : decode cL_law 881 = .ok (.aload_n 0, 1) := by decide +kernel
theorem dL_law_882 : decode cL_law 882 = .ok (.iload_n 3, 1) := by decide +kernel
theorem dL_law_883 : decode cL_law 883 = .ok (.iconst 1, 1) := by decide +kernel
theorem dL_law_884 : decode cL_law 884 = .ok (.iadd, 1) := by decide +kernel
theorem dL_law_885 : decode cL_law 885 = .ok (.iaload, 1) := by decide +kernel
theorem dL_law_886 : decode cL_law 886 = .ok (.aload_n 0, 1) := by decide +kernel
theorem dL_law_887 : decode cL_law 887 = .ok (.iload_n 3, 1) := by decide +kernel
theorem dL_law_888 : decode cL_law 888 = .ok (.iconst 2, 1) := by decide +kernel
theorem dL_law_889 : decode cL_law 889 = .ok (.iadd, 1) := by decide +kernel
theorem dL_law_890 : decode cL_law 890 = .ok (.iaload, 1) := by decide +kernel
theorem dL_law_891 : decode cL_law 891 = .ok (.invokevirtual 109, 3) := by decide +kernel
theorem dL_law_894 : decode cL_law 894 = .ok (.if_icmp .eq 100, 3) := by decide +kernel
theorem dL_law_897 : decode cL_law 897 = .ok (.iconst 0, 1) := by decide +kernel
theorem dL_law_898 : decode cL_law 898 = .ok (.ireturn, 1) := by decide +kernel
theorem dL_law_899 : decode cL_law 899 = .ok (.aload_n 1, 1) := by decide +kernel
theorem dL_law_900 : decode cL_law 900 = .ok (.invokevirtual 110, 3) := by decide +kernel
theorem dL_law_903 : decode cL_law 903 = .ok (.aload_n 2, 1) := by decide +kernel
theorem dL_law_904 : decode cL_law 904 = .ok (.invokevirtual 113, 3) := by decide +kernel
theorem dL_law_907 : decode cL_law 907 = .ok (.if_icmp .eq 87, 3) := by decide +kernel
theorem dL_law_910 : decode cL_law 910 = .ok (.iconst 0, 1) := by decide +kernel
theorem dL_law_911 : decode cL_law 911 = .ok (.ireturn, 1) := by decide +kernel
theorem dL_law_912 : decode cL_law 912 = .ok (.aload_n 1, 1) := by decide +kernel
theorem dL_law_913 : decode cL_law 913 = .ok (.invokevirtual 114, 3) := by decide +kernel
theorem dL_law_916 : decode cL_law 916 = .ok (.aload_n 2, 1) := by decide +kernel
theorem dL_law_917 : decode cL_law 917 = .ok (.invokevirtual 117, 3) := by decide +kernel
theorem dL_law_920 : decode cL_law 920 = .ok (.if_icmp .eq 74, 3) := by decide +kernel
theorem dL_law_923 : decode cL_law 923 = .ok (.iconst 0, 1) := by decide +kernel
theorem dL_law_924 : decode cL_law 924 = .ok (.ireturn, 1) := by decide +kernel
theorem dL_law_925 : decode cL_law 925 = .ok (.aload_n 1, 1) := by decide +kernel
theorem dL_law_926 : decode cL_law 926 = .ok (.aload_n 0, 1) := by decide +kernel
theorem dL_law_927 : decode cL_law 927 = .ok (.iload_n 3, 1) := by decide +kernel
theorem dL_law_928 : decode cL_law 928 = .ok (.iconst 1, 1) := by decide +kernel
theorem dL_law_929 : decode cL_law 929 = .ok (.iadd, 1) := by decide +kernel
theorem dL_law_930 : decode cL_law 930 = .ok (.iaload, 1) := by decide +kernel
theorem dL_law_931 : decode cL_law 931 = .ok (.invokevirtual 118, 3) := by decide +kernel
theorem dL_law_934 : decode cL_law 934 = .ok (.aload_n 2, 1) := by decide +kernel
theorem dL_law_935 : decode cL_law 935 = .ok (.aload_n 0, 1) := by decide +kernel
theorem dL_law_936 : decode cL_law 936 = .ok (.iload_n 3, 1) := by decide +kernel
theorem dL_law_937 : decode cL_law 937 = .ok (.iconst 1, 1) := by decide +kernel
theorem dL_law_938 : decode cL_law 938 = .ok (.iadd, 1) := by decide +kernel
theorem dL_law_939 : decode cL_law 939 = .ok (.iaload, 1) := by decide +kernel
theorem dL_law_940 : decode cL_law 940 = .ok (.invokevirtual 121, 3) := by decide +kernel
theorem dL_law_943 : decode cL_law 943 = .ok (.if_icmp .eq 51, 3) := by decide +kernel
theorem dL_law_946 : decode cL_law 946 = .ok (.iconst 0, 1) := by decide +kernel
theorem dL_law_947 : decode cL_law 947 = .ok (.ireturn, 1) := by decide +kernel
theorem dL_law_948 : decode cL_law 948 = .ok (.aload_n 1, 1) := by decide +kernel
theorem dL_law_949 : decode cL_law 949 = .ok (.aload_n 0, 1) := by decide +kernel
theorem dL_law_950 : decode cL_law 950 = .ok (.iload_n 3, 1) := by decide +kernel
theorem dL_law_951 : decode cL_law 951 = .ok (.iconst 1, 1) := by decide +kernel
theorem dL_law_952 : decode cL_law 952 = .ok (.iadd, 1) := by decide +kernel
theorem dL_law_953 : decode cL_law 953 = .ok (.iaload, 1) := by decide +kernel
theorem dL_law_954 : decode cL_law 954 = .ok (.invokevirtual 122, 3) := by decide +kernel
theorem dL_law_957 : decode cL_law 957 = .ok (.aload_n 2, 1) := by decide +kernel
theorem dL_law_958 : decode cL_law 958 = .ok (.aload_n 0, 1) := by decide +kernel
theorem dL_law_959 : decode cL_law 959 = .ok (.iload_n 3, 1) := by decide +kernel
theorem dL_law_960 : decode cL_law 960 = .ok (.iconst 1, 1) := by decide +kernel
theorem dL_law_961 : decode cL_law 961 = .ok (.iadd, 1) := by decide +kernel
theorem dL_law_962 : decode cL_law 962 = .ok (.iaload, 1) := by decide +kernel
theorem dL_law_963 : decode cL_law 963 = .ok (.invokevirtual 125, 3) := by decide +kernel
theorem dL_law_966 : decode cL_law 966 = .ok (.if_icmp .eq 28, 3) := by decide +kernel
theorem dL_law_969 : decode cL_law 969 = .ok (.iconst 0, 1) := by decide +kernel
theorem dL_law_970 : decode cL_law 970 = .ok (.ireturn, 1) := by decide +kernel
theorem dL_law_971 : decode cL_law 971 = .ok (.aload_n 1, 1) := by decide +kernel
theorem dL_law_972 : decode cL_law 972 = .ok (.aload_n 0, 1) := by decide +kernel
theorem dL_law_973 : decode cL_law 973 = .ok (.iload_n 3, 1) := by decide +kernel
theorem dL_law_974 : decode cL_law 974 = .ok (.iconst 1, 1) := by decide +kernel
theorem dL_law_975 : decode cL_law 975 = .ok (.iadd, 1) := by decide +kernel
theorem dL_law_976 : decode cL_law 976 = .ok (.iaload, 1) := by decide +kernel
theorem dL_law_977 : decode cL_law 977 = .ok (.invokevirtual 126, 3) := by decide +kernel
theorem dL_law_980 : decode cL_law 980 = .ok (.aload_n 2, 1) := by decide +kernel
theorem dL_law_981 : decode cL_law 981 = .ok (.aload_n 0, 1) := by decide +kernel
theorem dL_law_982 : decode cL_law 982 = .ok (.iload_n 3, 1) := by decide +kernel
theorem dL_law_983 : decode cL_law 983 = .ok (.iconst 1, 1) := by decide +kernel
theorem dL_law_984 : decode cL_law 984 = .ok (.iadd, 1) := by decide +kernel
theorem dL_law_985 : decode cL_law 985 = .ok (.iaload, 1) := by decide +kernel
theorem dL_law_986 : decode cL_law 986 = .ok (.invokevirtual 129, 3) := by decide +kernel
theorem dL_law_989 : decode cL_law 989 = .ok (.if_icmp .eq 5, 3) := by decide +kernel
theorem dL_law_992 : decode cL_law 992 = .ok (.iconst 0, 1) := by decide +kernel
theorem dL_law_993 : decode cL_law 993 = .ok (.ireturn, 1) := by decide +kernel
theorem dL_law_994 : decode cL_law 994 = .ok (.iinc 3 5, 3) := by decide +kernel
theorem dL_law_997 : decode cL_law 997 = .ok (.goto (-979), 3) := by decide +kernel
theorem dL_law_1000 : decode cL_law 1000 = .ok (.iconst 1, 1) := by decide +kernel
theorem dL_law_1001 : decode cL_law 1001 = .ok (.ireturn, 1) := by decide +kernel
end
section
/-! numbers: ints and longs of the machine as whole numbers -/
abbrev TH : Type := Nat → Nat → Int → Int
def zI (z : Int) : Int32 := Int32.ofInt z
def zJ (z : Int) : Int64 := Int64.ofInt z
def zi (b : Bool) : Int := bif b then 1 else 0
def zR (a : Int) : Prop := -2147483648 ≤ a ∧ a ≤ 2147483647
def zRL (a : Int) : Prop := -9223372036854775808 ≤ a ∧ a ≤ 9223372036854775807
theorem zI_toInt {a : Int} (h : zR a) : (zI a).toInt = a := by
  obtain ⟨h1, h2⟩ := h
  exact Int32.toInt_ofInt_of_le (by omega) (by omega)
theorem zJ_toInt {a : Int} (h : zRL a) : (zJ a).toInt = a := by
  obtain ⟨h1, h2⟩ := h
  exact Int64.toInt_ofInt_of_le (by omega) (by omega)
theorem zI_of (x : Int32) : zI x.toInt = x := Int32.ofInt_toInt x
theorem zJ_of (x : Int64) : zJ x.toInt = x := Int64.ofInt_toInt x
theorem zI_add (a b : Int) : zI a + zI b = zI (a + b) := (Int32.ofInt_add a b).symm
theorem zI_sub (a b : Int) : zI a - zI b = zI (a - b) := (Int32.ofInt_sub a b).symm
theorem zI_mul (a b : Int) : zI a * zI b = zI (a * b) := (Int32.ofInt_mul a b).symm
theorem zI_neg (a : Int) : -zI a = zI (-a) := (Int32.ofInt_neg a).symm
theorem zJ_add (a b : Int) : zJ a + zJ b = zJ (a + b) := (Int64.ofInt_add a b).symm
theorem zJ_sub (a b : Int) : zJ a - zJ b = zJ (a - b) := (Int64.ofInt_sub a b).symm
theorem zJ_mul (a b : Int) : zJ a * zJ b = zJ (a * b) := (Int64.ofInt_mul a b).symm
def zand (a b : Int) : Int := (zI a &&& zI b).toInt
def zor (a b : Int) : Int := (zI a ||| zI b).toInt
def zxor (a b : Int) : Int := (zI a ^^^ zI b).toInt
def zshl (a b : Int) : Int := (zI a <<< (zI b &&& 31)).toInt
def zshr (a b : Int) : Int := (zI a >>> (zI b &&& 31)).toInt
def zushr (a b : Int) : Int := ((zI a).toUInt32 >>> ((zI b).toUInt32 &&& Int32.toUInt32 31)).toInt32.toInt
def zdiv (a b : Int) : Int := (zI a / zI b).toInt
def zrem (a b : Int) : Int := (zI a - zI a / zI b * zI b).toInt
def zlandL (a b : Int) : Int := (zJ a &&& zJ b).toInt
def zdivL (a b : Int) : Int := (zJ a / zJ b).toInt
def zremL (a b : Int) : Int := (zJ a - zJ a / zJ b * zJ b).toInt
theorem zI_lt {a b : Int} (ha : zR a) (hb : zR b) : zI a < zI b ↔ a < b := by rw [Int32.lt_iff_toInt_lt, zI_toInt ha, zI_toInt hb]
theorem zI_le {a b : Int} (ha : zR a) (hb : zR b) : zI a ≤ zI b ↔ a ≤ b := by rw [Int32.le_iff_toInt_le, zI_toInt ha, zI_toInt hb]
theorem zI_eq {a b : Int} (ha : zR a) (hb : zR b) : zI a = zI b ↔ a = b := by rw [← Int32.toInt_inj, zI_toInt ha, zI_toInt hb]
theorem zJ_lt {a b : Int} (ha : zRL a) (hb : zRL b) : zJ a < zJ b ↔ a < b := by rw [Int64.lt_iff_toInt_lt, zJ_toInt ha, zJ_toInt hb]
theorem zJ_eq {a b : Int} (ha : zRL a) (hb : zRL b) : zJ a = zJ b ↔ a = b := by rw [← Int64.toInt_inj, zJ_toInt ha, zJ_toInt hb]
theorem z0 : zR 0 := by unfold zR; omega
theorem zI_0 : zI 0 = 0 := rfl
theorem zJ_0 : zJ 0 = 0 := rfl
theorem zI_in {i : Int} {n : Nat} (h0 : 0 ≤ i) (h : i < n) (hn : n ≤ 2147483647) : vp_in (zI i) n ∧ (zI i).toNatClampNeg = i.toNat := by
  have hr : (zI i).toInt = i := zI_toInt ⟨by omega, by omega⟩
  have hc : (zI i).toNatClampNeg = i.toNat := by
    show (zI i).toInt.toNat = i.toNat
    rw [hr]
  refine ⟨vp_in_iff.mpr ⟨by rw [hr]; exact h0, by rw [hr]; exact h⟩, hc⟩
theorem zI_toInt64 {a : Int} (h : zR a) : (zI a).toInt64 = zJ a := by
  rw [← Int64.toInt_inj, Int32.toInt_toInt64, zI_toInt h, zJ_toInt ⟨by obtain ⟨h1, h2⟩ := h; omega, by obtain ⟨h1, h2⟩ := h; omega⟩]
theorem zJ_toInt32 (a : Int) : (zJ a).toInt32 = zI a := by
  rw [← Int32.toInt_inj]
  show (zJ a).toInt32.toInt = (Int32.ofInt a).toInt
  rw [Int64.toInt_toInt32, Int32.toInt_ofInt]
  show (Int64.ofInt a).toInt.bmod 4294967296 = a.bmod 4294967296
  rw [Int64.toInt_ofInt]
  show (a.bmod 18446744073709551616).bmod 4294967296 = a.bmod 4294967296
  rw [Int.bmod_bmod_of_dvd (by decide)]
/-! the world: which cells there are -/
abbrev GT : Type := (Nat → ClassId) × (Nat → Nat → Nat) × (Nat → Nat) × (Nat → Nat → Nat) × (Nat → ClassId) × (Nat → Prop)
def gD (G : GT) : va_G := (G.1, G.2.1)
def gad (G : GT) : Nat → Nat := G.2.2.1
def gaa (G : GT) : Nat → Nat → Nat := G.2.2.2.1
def gcA (G : GT) : Nat → ClassId := G.2.2.2.2.1
def gA (G : GT) : Nat → Prop := G.2.2.2.2.2
def clsO (o : Nat) : Nat := ([8, 4, 3, 3, 2, 2, 2, 2, 6, 1, 7, 0, 5, 9] : List Nat).getD o 99
def kdT (k : Nat) : List Nat := ([[1, 0, 0, 0], [1, 1, 0], [0, 0, 1, 1, 1], [0, 0, 0, 0, 0, 0, 0, 0, 1, 1, 1, 1, 1, 1, 1, 1], [1, 0, 0, 0, 0, 0], [1, 1], [0, 1, 1], [1, 0, 0], [4, 2, 2, 7, 8, 1, 0, 11, 12, 13, 14, 15], [0, 1, 0, 0, 0, 0, 0, 0, 0, 0, 1, 0, 1, 0, 0, 1, 0, 0, 0, 1, 0, 1, 0, 0, 1, 0, 1, 1, 1, 1, 1, 0, 1, 1, 1, 1, 1, 1]] : List (List Nat)).getD k []
def arL : List (Nat × Nat × Nat × Nat) := [(0, 0, 0, 433), (1, 0, 0, 128), (1, 1, 0, 128), (2, 2, 0, 8), (2, 3, 0, 8), (2, 4, 0, 56), (3, 8, 0, 8), (3, 9, 0, 8), (3, 10, 0, 8), (3, 11, 0, 7), (3, 12, 0, 7), (3, 13, 0, 12), (3, 14, 0, 12), (3, 15, 0, 4), (4, 0, 0, 250), (5, 0, 0, 73), (5, 1, 0, 73), (6, 1, 0, 15), (6, 2, 0, 15), (7, 0, 0, 433), (8, 5, 3, 2), (9, 1, 0, 250), (9, 10, 0, 32), (9, 12, 0, 24), (9, 15, 0, 4), (9, 19, 0, 32), (9, 21, 0, 24), (9, 24, 0, 4), (9, 26, 0, 58), (9, 27, 0, 58), (9, 28, 0, 58), (9, 29, 0, 116), (9, 30, 2, 2), (9, 32, 0, 30), (9, 33, 0, 8), (9, 34, 0, 128), (9, 35, 1, 1200), (9, 36, 1, 1200), (9, 37, 0, 7)]
def wsT : List (Nat × Nat) := [(0, 0), (0, 6), (1, 0), (1, 1), (2, 0), (2, 9), (2, 10), (2, 11), (2, 12), (2, 13), (2, 14), (2, 15), (2, 16), (3, 0), (3, 9), (3, 10), (3, 11), (3, 12), (3, 13), (3, 14), (3, 15), (3, 16), (4, 0), (4, 3), (4, 4), (4, 5), (5, 0), (5, 3), (5, 4), (5, 5), (6, 0), (6, 3), (6, 4), (6, 5), (7, 0), (7, 3), (7, 4), (7, 5), (8, 0), (8, 2), (8, 3), (9, 0), (9, 1), (9, 2), (10, 0), (10, 1), (11, 0), (11, 1), (12, 0), (12, 1), (12, 2), (13, 0), (13, 2), (13, 11), (13, 13), (13, 16), (13, 20), (13, 22), (13, 25), (13, 27), (13, 28), (13, 29), (13, 30), (13, 31), (13, 33), (13, 34), (13, 35), (13, 36), (13, 37), (13, 38)]
def arT (k j : Nat) : Option (Nat × Nat) := (arL.find? (fun q => q.1 == k && q.2.1 == j)).map (fun q => q.2.2)
def fldV (G : GT) (Th : TH) (o j : Nat) (k : Nat) : Value := match k with
  | 0 => .int (zI (Th o j 0))
  | 1 => .ref (gaa G o j)
  | 2 => .ref (gad G (Th o j 0).toNat)
  | n + 3 => .ref (gad G n)
def flds (G : GT) (Th : TH) (o : Nat) : List Value := (kdT (clsO o)).mapIdx (fun j k => fldV G Th o j k)
def arC (G : GT) (Th : TH) (o j : Nat) (q : Nat × Nat) : va_E := match q.1 with
  | 0 => .inl (gcA G 0, q.2, .inl (fun i => zI (Th o j i)))
  | 1 => .inl (gcA G 1, q.2, .inr (.inl (fun i => zJ (Th o j i))))
  | 2 => .inl (gcA G 2, q.2, .inl (fun i => zI (Th o j i)))
  | _ => .inl (gcA G 3, q.2, .inr (.inr (.inr (.inr (fun i => some (gad G (6 + i)))))))
def cel (G : GT) (Th : TH) (q : Nat × Nat) : Nat × va_E := match q.2 with
  | 0 => (gad G q.1, .inr (clsO q.1, flds G Th q.1))
  | j + 1 => (gaa G q.1 j, arC G Th q.1 j ((arT (clsO q.1) j).getD (0, 0)))
def wsG (G : GT) (Th : TH) : va_W := wsT.map (cel G Th)
def tysG (G : GT) : List (ClassId × FieldType) := [(gcA G 0, .int), (gcA G 1, .long), (gcA G 2, .boolean), (gcA G 3, .object "KnownWeight$Heads")]
def lOK (Th : TH) : Prop := (Th 0 1 0 = 2 ∨ Th 0 1 0 = 3) ∧ (Th 0 2 0 = 2 ∨ Th 0 2 0 = 3)
def up (Th : TH) (o j : Nat) (i v : Int) : TH := fun o' j' i' => if o' = o ∧ j' = j ∧ i' = i then v else Th o' j' i'
theorem up_eq (Th : TH) (o j : Nat) (i v : Int) : up Th o j i v o j i = v := by simp [up]
theorem up_ne {Th : TH} {o j o' j' : Nat} {i i' v : Int} (h : ¬ (o' = o ∧ j' = j ∧ i' = i)) : up Th o j i v o' j' i' = Th o' j' i' := by simp [up, h]
set_option maxRecDepth 100000 in
theorem wsT_obj : ∀ o, o < 14 → ∃ k, k < 70 ∧ wsT[k]? = some (o, 0) := by decide +kernel
set_option maxRecDepth 100000 in
theorem wsT_arr : ∀ q ∈ arL, ∀ o, o < 14 → clsO o = q.1 → ∃ k, k < 70 ∧ wsT[k]? = some (o, q.2.1 + 1) := by decide +kernel
set_option maxRecDepth 100000 in
theorem wsT_nd : ∀ i, i < 70 → ∀ j, j < 70 → wsT[i]? = wsT[j]? → i = j := by decide +kernel
set_option maxRecDepth 100000 in
theorem wsT_len : wsT.length = 70 := by decide +kernel
set_option maxRecDepth 100000 in
theorem wsT_kd : ∀ q ∈ wsT, q.2 = 0 ∨ (kdT (clsO q.1))[q.2 - 1]? = some 1 := by decide +kernel
set_option maxRecDepth 100000 in
theorem arL_kd : ∀ q ∈ arL, (kdT q.1)[q.2.1]? = some 1 ∧ q.2.2.2 ≤ 2147483647 := by decide +kernel
theorem clsO_lt {o k : Nat} (h : clsO o = k) (hk : k < 10) : o < 14 := by
  rcases Nat.lt_or_ge o 14 with q | q
  · exact q
  · exfalso
    have : clsO o = 99 := by
      unfold clsO
      rw [List.getD_eq_getElem?_getD, List.getElem?_eq_none (by simpa using q)]
      rfl
    omega
theorem arT_mem {k j : Nat} {q : Nat × Nat} (h : arT k j = some q) : (k, j, q.1, q.2) ∈ arL := by
  unfold arT at h
  cases hf : arL.find? (fun q => q.1 == k && q.2.1 == j) with
  | none => rw [hf] at h; cases h
  | some x =>
    rw [hf] at h
    have h2 := Option.some.inj h
    have h3 := List.mem_of_find?_eq_some hf
    have h4 := List.find?_some hf
    simp at h4
    obtain ⟨x1, x2, x3, x4⟩ := x
    obtain ⟨q1, q2⟩ := q
    simp at h2 h4
    obtain ⟨rfl, rfl⟩ := h2
    obtain ⟨rfl, rfl⟩ := h4
    exact h3
theorem arT_cls {o j : Nat} {q : Nat × Nat} (h : arT (clsO o) j = some q) : o < 14 := by
  rcases Nat.lt_or_ge o 14 with hq | hq
  · exact hq
  · exfalso
    have h9 : clsO o = 99 := by
      unfold clsO
      rw [List.getD_eq_getElem?_getD, List.getElem?_eq_none (by simpa using hq)]
      rfl
    have h1 := arT_mem h
    rw [h9] at h1
    have h2 : ∀ q ∈ arL, q.1 ≠ 99 := by decide +kernel
    exact h2 _ h1 rfl
theorem ws_at (G : GT) (Th : TH) {k : Nat} {q : Nat × Nat} (h : wsT[k]? = some q) : (wsG G Th)[k]? = some (cel G Th q) := by
  unfold wsG
  rw [List.getElem?_map, h]
  rfl
theorem ws_set (G : GT) (Th Th' : TH) {k : Nat} {q : Nat × Nat} {e : Nat × va_E} (hk : k < 70) (h : wsT[k]? = some q) (he : cel G Th' q = e) (ho : ∀ q' ∈ wsT, q' ≠ q → cel G Th' q' = cel G Th q') : (wsG G Th).set k e = wsG G Th' := by
  apply List.ext_getElem?
  intro i
  rw [List.getElem?_set]
  have hlen : (wsG G Th).length = 70 := by unfold wsG; rw [List.length_map]; exact wsT_len
  by_cases hi : k = i
  · subst hi
    rw [if_pos rfl, if_pos (by omega), ws_at G Th' h, he]
  · rw [if_neg hi]
    cases hw : wsT[i]? with
    | none =>
      unfold wsG
      rw [List.getElem?_map, List.getElem?_map, hw]
      rfl
    | some q' =>
      rw [ws_at G Th hw, ws_at G Th' hw]
      have hi70 : i < 70 := by rw [← wsT_len]; exact (List.getElem?_eq_some_iff.mp hw).1
      have hne : q' ≠ q := fun hq => hi (wsT_nd k hk i hi70 (by rw [h, hw, hq]))
      rw [ho q' (List.mem_of_getElem? hw) hne]
theorem flds_get (G : GT) (Th : TH) (o : Nat) {j k : Nat} (h : (kdT (clsO o))[j]? = some k) : (flds G Th o)[j]? = some (fldV G Th o j k) := by
  unfold flds
  rw [List.getElem?_mapIdx, h]
  rfl
theorem flds_up (G : GT) (Th : TH) (o j : Nat) (v : Int) : (kdT (clsO o))[j]? = some 0 → flds G (up Th o j 0 v) o = (flds G Th o).set j (.int (zI v)) := by
  intro h
  apply List.ext_getElem?
  intro i
  rw [List.getElem?_set]
  have hj : j < (flds G Th o).length := by
    unfold flds
    rw [List.length_mapIdx]
    exact (List.getElem?_eq_some_iff.mp h).1
  by_cases hi : j = i
  · subst hi
    rw [if_pos rfl, if_pos hj, flds_get G _ o h]
    simp [fldV, up]
  · rw [if_neg hi]
    cases hk : (kdT (clsO o))[i]? with
    | none =>
      unfold flds
      rw [List.getElem?_mapIdx, List.getElem?_mapIdx, hk]
      rfl
    | some k =>
      rw [flds_get G _ o hk, flds_get G _ o hk]
      have hne : ∀ x : Int, up Th o j 0 v o i x = Th o i x := fun x => up_ne (fun q => hi q.2.1.symm)
      match k with
      | 0 => simp only [fldV, hne]
      | 1 => rfl
      | 2 => simp only [fldV, hne]
      | n + 3 => rfl
theorem flds_same (G : GT) {Th Th' : TH} {o : Nat} (h : ∀ j k, (kdT (clsO o))[j]? = some k → k = 0 ∨ k = 2 → Th' o j 0 = Th o j 0) : flds G Th' o = flds G Th o := by
  apply List.ext_getElem?
  intro i
  cases hk : (kdT (clsO o))[i]? with
  | none =>
    unfold flds
    rw [List.getElem?_mapIdx, List.getElem?_mapIdx, hk]
    rfl
  | some k =>
    rw [flds_get G _ o hk, flds_get G _ o hk]
    match k, hk with
    | 0, hk => simp only [fldV, h i 0 hk (Or.inl rfl)]
    | 1, hk => rfl
    | 2, hk => simp only [fldV, h i 2 hk (Or.inr rfl)]
    | n + 3, hk => rfl
theorem arC_same (G : GT) {Th Th' : TH} {o j : Nat} (q : Nat × Nat) (h : ∀ i, Th' o j i = Th o j i) : arC G Th' o j q = arC G Th o j q := by
  obtain ⟨t, n⟩ := q
  match t with
  | 0 => simp only [arC, h]
  | 1 => simp only [arC, h]
  | 2 => simp only [arC, h]
  | t + 3 => rfl
/-- an int field is put: the world behind it -/
theorem ws_putI (G : GT) (Th : TH) {o j k : Nat} (v : Int) (hk : k < 70) (h : wsT[k]? = some (o, 0)) (hj : (kdT (clsO o))[j]? = some 0) : (wsG G Th).set k (gad G o, .inr (clsO o, (flds G Th o).set j (.int (zI v)))) = wsG G (up Th o j 0 v) := by
  refine ws_set G Th _ hk h ?_ ?_
  · show (gad G o, Sum.inr (clsO o, flds G (up Th o j 0 v) o)) = _
    rw [flds_up G Th o j v hj]
  · intro q' hq' hne
    obtain ⟨o', x⟩ := q'
    cases x with
    | zero =>
      show (gad G o', Sum.inr (clsO o', flds G _ o')) = (gad G o', Sum.inr (clsO o', flds G _ o'))
      rw [flds_same G (fun j' k' _ _ => up_ne (fun z => hne (by rw [z.1])))]
    | succ j' =>
      have h1 := (wsT_kd _ hq').resolve_left (by simp)
      show (gaa G o' j', arC G _ o' j' _) = (gaa G o' j', arC G _ o' j' _)
      rw [arC_same G _ (fun i => up_ne (fun z => by
        obtain ⟨rfl, rfl, -⟩ := z
        have h2 : (kdT (clsO o'))[j']? = some 1 := h1
        rw [hj] at h2
        cases h2))]
/-- an array is put: the world behind it -/
theorem ws_putA (G : GT) (Th Th' : TH) {o j k : Nat} {q : Nat × Nat} (hk : k < 70) (h : wsT[k]? = some (o, j + 1)) (hq : arT (clsO o) j = some q) (hs : ∀ o' j' i', ¬ (o' = o ∧ j' = j) → Th' o' j' i' = Th o' j' i') : (wsG G Th).set k (gaa G o j, arC G Th' o j q) = wsG G Th' := by
  refine ws_set G Th _ hk h ?_ ?_
  · show (gaa G o j, arC G Th' o j ((arT (clsO o) j).getD (0, 0))) = _
    rw [hq]
    rfl
  · intro q' hq' hne
    obtain ⟨o', x⟩ := q'
    have h1 := (arL_kd _ (arT_mem hq)).1
    cases x with
    | zero =>
      show (gad G o', Sum.inr (clsO o', flds G _ o')) = (gad G o', Sum.inr (clsO o', flds G _ o'))
      rw [flds_same G (fun j' k' hk' h0 => hs _ _ _ (fun z => by
        obtain ⟨rfl, rfl⟩ := z
        have h2 : (kdT (clsO o'))[j']? = some 1 := h1
        rw [hk'] at h2
        have h3 := Option.some.inj h2
        omega))]
    | succ j' =>
      show (gaa G o' j', arC G _ o' j' _) = (gaa G o' j', arC G _ o' j' _)
      rw [arC_same G _ (fun i => hs _ _ _ (fun z => hne (by rw [z.1, z.2])))]
theorem lOK_up {Th : TH} {o j : Nat} {i v : Int} {k : Nat} (h : lOK Th) (hk : (kdT (clsO o))[j]? = some k) (h2 : k ≠ 2) : lOK (up Th o j i v) := by
  have n1 : ¬ ((0 : Nat) = o ∧ (1 : Nat) = j ∧ (0 : Int) = i) := fun z => by
    obtain ⟨rfl, rfl, -⟩ := z
    exact h2 (Option.some.inj hk).symm
  have n2 : ¬ ((0 : Nat) = o ∧ (2 : Nat) = j ∧ (0 : Int) = i) := fun z => by
    obtain ⟨rfl, rfl, -⟩ := z
    exact h2 (Option.some.inj hk).symm
  unfold lOK
  rw [up_ne n1, up_ne n2]
  exact h
theorem lOK_cls {Th : TH} (h : lOK Th) : clsO (Th 0 1 0).toNat = 3 ∧ clsO (Th 0 2 0).toNat = 3 := by
  obtain ⟨h1 | h1, h2 | h2⟩ := h <;> rw [h1, h2] <;> exact ⟨rfl, rfl⟩
end
section
def lw_g : List Cond := lw_tbl.filter goodWord
abbrev CX : Type := Program × Launch × Env × Room × State × MethodId × Array Value × List Frame × Method × Code × Nat × Nat × (State → Prop)
def V (G : GT) (X : CX) (Th : TH) (pc : Nat) (lv : List (Nat × Value)) (st : List Value) : Prop := match X with
  | (p, l, e, R, s, m, args, below, meth, c, nc, ns, Q) => ∀ (H : Heap) (locs : List Loc) (ls : Array Slot), lOK Th → va_P (gD G) vwCl (wsG G Th) H → va_D (gA G) (wsG G Th) → va_S (gA G) s.heap H locs → lv_has ls c.maxLocals lv → W p l e R s m args below meth c H locs nc ns Q (F0 m pc ls st)
def CT (G : GT) (l0 : Launch) (X : CX) (cc : ByteArray) (nL : Nat) (own : String) (rm : Room) : Prop := match X with
  | (p, l, _, R, s, m, args, _, _, c, nc, ns, _) => p.tables.exec = Jvm.exec ∧ c.code = cc ∧ c.maxLocals = nL ∧ s.vm.findClass own = some m.cls ∧ (∀ w ∈ lw_g, w.before args s = true) ∧ va_K (gD G) vwCl (tysG G) s ∧ R = rm ∧ nc ≤ R.cells ∧ ns ≤ R.slots ∧ l = l0
theorem mg {w : Cond} (h : w ∈ lw_tbl) (hg : goodWord w = true) : w ∈ lw_g := List.mem_filter.mpr ⟨h, hg⟩
theorem lw_g_sub {w : Cond} (h : w ∈ lw_g) : w ∈ lw_tbl := (List.mem_filter.mp h).1
theorem tbl_goodIn {w : Cond} {ws : List Cond} (hw : w ∈ lw_g) (h : ∀ x ∈ ws, x ∈ lw_g) : GoodIn lw_g (ws ++ (w :: lw_g)) := by
  intro x hx
  have hm : x ∈ lw_g := by
    rcases List.mem_append.mp hx with h1 | h1
    · exact h x h1
    · rcases List.mem_cons.mp h1 with rfl | h1
      · exact hw
      · exact h1
  exact ⟨hm, good_of_word (List.mem_filter.mp hm).2⟩

theorem v_iconst {G : GT} {X : CX} {Th : TH} {pc : Nat} {lv : List (Nat × Value)} {st : List Value} {cc : ByteArray} {nL : Nat} {own : String} {rm : Room} {l0 : Launch} (C : CT G l0 X cc nL own rm) {n : Int} (hd : decode cc pc = .ok (.iconst n, 1)) (k : V G X Th (pc + 1) lv (.int (zI n) :: st)) : V G X Th (pc) lv (st) := by
  obtain ⟨p, l, e, R, s, m, args, below, meth, c, nc, ns, Q⟩ := X
  obtain ⟨hx, hb, hml, hown, hts, hK, hR, hcc, hss, -⟩ := C
  intro H locs ls h1 h2 h3 h4 h5
  exact lv_iconst hx hb hd rfl (k H locs ls h1 h2 h3 h4 h5)

theorem v_bipush {G : GT} {X : CX} {Th : TH} {pc : Nat} {lv : List (Nat × Value)} {st : List Value} {cc : ByteArray} {nL : Nat} {own : String} {rm : Room} {l0 : Launch} (C : CT G l0 X cc nL own rm) {n : Int} (hd : decode cc pc = .ok (.bipush n, 2)) (hv : (Int8.ofInt n).toInt32 = zI n) (k : V G X Th (pc + 2) lv (.int (zI n) :: st)) : V G X Th (pc) lv (st) := by
  obtain ⟨p, l, e, R, s, m, args, below, meth, c, nc, ns, Q⟩ := X
  obtain ⟨hx, hb, hml, hown, hts, hK, hR, hcc, hss, -⟩ := C
  intro H locs ls h1 h2 h3 h4 h5
  exact lv_bipush hx hb hd hv (k H locs ls h1 h2 h3 h4 h5)

theorem v_sipush {G : GT} {X : CX} {Th : TH} {pc : Nat} {lv : List (Nat × Value)} {st : List Value} {cc : ByteArray} {nL : Nat} {own : String} {rm : Room} {l0 : Launch} (C : CT G l0 X cc nL own rm) {n : Int} (hd : decode cc pc = .ok (.sipush n, 3)) (hv : (Int16.ofInt n).toInt32 = zI n) (k : V G X Th (pc + 3) lv (.int (zI n) :: st)) : V G X Th (pc) lv (st) := by
  obtain ⟨p, l, e, R, s, m, args, below, meth, c, nc, ns, Q⟩ := X
  obtain ⟨hx, hb, hml, hown, hts, hK, hR, hcc, hss, -⟩ := C
  intro H locs ls h1 h2 h3 h4 h5
  exact lv_sipush hx hb hd hv (k H locs ls h1 h2 h3 h4 h5)

theorem v_ldc {G : GT} {X : CX} {Th : TH} {pc : Nat} {lv : List (Nat × Value)} {st : List Value} {cc : ByteArray} {nL : Nat} {own : String} {rm : Room} {l0 : Launch} (C : CT G l0 X cc nL own rm) {index : Nat} {v : Int32} {n : Int} (hd : decode cc pc = .ok (.ldc index, 2)) (hw : Cond.constant own index v ∈ lw_g) (hv : v = zI n) (k : V G X Th (pc + 2) lv (.int (zI n) :: st)) : V G X Th (pc) lv (st) := by
  obtain ⟨p, l, e, R, s, m, args, below, meth, c, nc, ns, Q⟩ := X
  obtain ⟨hx, hb, hml, hown, hts, hK, hR, hcc, hss, -⟩ := C
  intro H locs ls h1 h2 h3 h4 h5
  subst hv
  exact lv_ldc hx hb hown (hts _ hw) hd (k H locs ls h1 h2 h3 h4 h5)

theorem v_ldcw {G : GT} {X : CX} {Th : TH} {pc : Nat} {lv : List (Nat × Value)} {st : List Value} {cc : ByteArray} {nL : Nat} {own : String} {rm : Room} {l0 : Launch} (C : CT G l0 X cc nL own rm) {index : Nat} {v : Int32} {n : Int} (hd : decode cc pc = .ok (.ldc_w index, 3)) (hw : Cond.constant own index v ∈ lw_g) (hv : v = zI n) (k : V G X Th (pc + 3) lv (.int (zI n) :: st)) : V G X Th (pc) lv (st) := by
  obtain ⟨p, l, e, R, s, m, args, below, meth, c, nc, ns, Q⟩ := X
  obtain ⟨hx, hb, hml, hown, hts, hK, hR, hcc, hss, -⟩ := C
  intro H locs ls h1 h2 h3 h4 h5
  subst hv
  exact lv_ldcw hx hb hown (hts _ hw) hd (k H locs ls h1 h2 h3 h4 h5)

theorem v_ldc2 {G : GT} {X : CX} {Th : TH} {pc : Nat} {lv : List (Nat × Value)} {st : List Value} {cc : ByteArray} {nL : Nat} {own : String} {rm : Room} {l0 : Launch} (C : CT G l0 X cc nL own rm) {index : Nat} {v : Int64} {n : Int} (hd : decode cc pc = .ok (.ldc2_w index, 3)) (hw : Cond.constantLong own index v ∈ lw_g) (hv : v = zJ n) (k : V G X Th (pc + 3) lv (.long (zJ n) :: st)) : V G X Th (pc) lv (st) := by
  obtain ⟨p, l, e, R, s, m, args, below, meth, c, nc, ns, Q⟩ := X
  obtain ⟨hx, hb, hml, hown, hts, hK, hR, hcc, hss, -⟩ := C
  intro H locs ls h1 h2 h3 h4 h5
  subst hv
  exact lv_ldc2 hx hb hown (hts _ hw) hd (k H locs ls h1 h2 h3 h4 h5)

theorem v_lconst {G : GT} {X : CX} {Th : TH} {pc : Nat} {lv : List (Nat × Value)} {st : List Value} {cc : ByteArray} {nL : Nat} {own : String} {rm : Room} {l0 : Launch} (C : CT G l0 X cc nL own rm) {f : Fin 2} {n : Int} (hd : decode cc pc = .ok (.lconst f, 1)) (hv : Int64.ofNat (f : Nat) = zJ n) (k : V G X Th (pc + 1) lv (.long (zJ n) :: st)) : V G X Th (pc) lv (st) := by
  obtain ⟨p, l, e, R, s, m, args, below, meth, c, nc, ns, Q⟩ := X
  obtain ⟨hx, hb, hml, hown, hts, hK, hR, hcc, hss, -⟩ := C
  intro H locs ls h1 h2 h3 h4 h5
  exact lv_lconst hx hb hd hv (k H locs ls h1 h2 h3 h4 h5)

theorem v_iload_n {G : GT} {X : CX} {Th : TH} {pc : Nat} {lv : List (Nat × Value)} {st : List Value} {cc : ByteArray} {nL : Nat} {own : String} {rm : Room} {l0 : Launch} (C : CT G l0 X cc nL own rm) (j : Nat) {i : Fin 4} {x : Int} (hd : decode cc pc = .ok (.iload_n i, 1)) (hj : lv[j]? = some ((i : Nat), .int (zI x))) (k : V G X Th (pc + 1) lv (.int (zI x) :: st)) : V G X Th (pc) lv (st) := by
  obtain ⟨p, l, e, R, s, m, args, below, meth, c, nc, ns, Q⟩ := X
  obtain ⟨hx, hb, hml, hown, hts, hK, hR, hcc, hss, -⟩ := C
  intro H locs ls h1 h2 h3 h4 h5
  exact lv_iload_n hx hb hd rfl (lv_at h5 j hj) (k H locs ls h1 h2 h3 h4 h5)

theorem v_iload {G : GT} {X : CX} {Th : TH} {pc : Nat} {lv : List (Nat × Value)} {st : List Value} {cc : ByteArray} {nL : Nat} {own : String} {rm : Room} {l0 : Launch} (C : CT G l0 X cc nL own rm) (j : Nat) {i : Nat} {x : Int} (hd : decode cc pc = .ok (.iload i, 2)) (hj : lv[j]? = some (i, .int (zI x))) (k : V G X Th (pc + 2) lv (.int (zI x) :: st)) : V G X Th (pc) lv (st) := by
  obtain ⟨p, l, e, R, s, m, args, below, meth, c, nc, ns, Q⟩ := X
  obtain ⟨hx, hb, hml, hown, hts, hK, hR, hcc, hss, -⟩ := C
  intro H locs ls h1 h2 h3 h4 h5
  exact lv_iload hx hb hd (lv_at h5 j hj) (k H locs ls h1 h2 h3 h4 h5)

theorem v_istore_n {G : GT} {X : CX} {Th : TH} {pc : Nat} {lv : List (Nat × Value)} {st : List Value} {cc : ByteArray} {nL : Nat} {own : String} {rm : Room} {l0 : Launch} (C : CT G l0 X cc nL own rm) {f : Fin 4} {i : Nat} {x : Int} (hd : decode cc pc = .ok (.istore_n f, 1)) (hf : (f : Nat) = i) (hi : i < nL) (k : V G X Th (pc + 1) ((i, Value.int (zI x)) :: lv.filter (fun q => !(q.1 == i) && !(q.1 + 1 == i && q.2.category == 2))) st) : V G X Th (pc) lv (.int (zI x) :: st) := by
  obtain ⟨p, l, e, R, s, m, args, below, meth, c, nc, ns, Q⟩ := X
  obtain ⟨hx, hb, hml, hown, hts, hK, hR, hcc, hss, -⟩ := C
  intro H locs ls h1 h2 h3 h4 h5
  subst hml
  exact lv_istore_n hx hb hd hf h5 hi rfl (fun ls hl => k H locs ls h1 h2 h3 h4 hl)

theorem v_istore {G : GT} {X : CX} {Th : TH} {pc : Nat} {lv : List (Nat × Value)} {st : List Value} {cc : ByteArray} {nL : Nat} {own : String} {rm : Room} {l0 : Launch} (C : CT G l0 X cc nL own rm) {i : Nat} {x : Int} (hd : decode cc pc = .ok (.istore i, 2)) (hi : i < nL) (k : V G X Th (pc + 2) ((i, Value.int (zI x)) :: lv.filter (fun q => !(q.1 == i) && !(q.1 + 1 == i && q.2.category == 2))) st) : V G X Th (pc) lv (.int (zI x) :: st) := by
  obtain ⟨p, l, e, R, s, m, args, below, meth, c, nc, ns, Q⟩ := X
  obtain ⟨hx, hb, hml, hown, hts, hK, hR, hcc, hss, -⟩ := C
  intro H locs ls h1 h2 h3 h4 h5
  subst hml
  exact lv_istore hx hb hd h5 hi rfl (fun ls hl => k H locs ls h1 h2 h3 h4 hl)

theorem v_lload_n {G : GT} {X : CX} {Th : TH} {pc : Nat} {lv : List (Nat × Value)} {st : List Value} {cc : ByteArray} {nL : Nat} {own : String} {rm : Room} {l0 : Launch} (C : CT G l0 X cc nL own rm) (j : Nat) {i : Fin 4} {x : Int} (hd : decode cc pc = .ok (.lload_n i, 1)) (hj : lv[j]? = some ((i : Nat), .long (zJ x))) (k : V G X Th (pc + 1) lv (.long (zJ x) :: st)) : V G X Th (pc) lv (st) := by
  obtain ⟨p, l, e, R, s, m, args, below, meth, c, nc, ns, Q⟩ := X
  obtain ⟨hx, hb, hml, hown, hts, hK, hR, hcc, hss, -⟩ := C
  intro H locs ls h1 h2 h3 h4 h5
  exact lv_lload_n hx hb hd rfl (lv_at h5 j hj) (k H locs ls h1 h2 h3 h4 h5)

theorem v_lload {G : GT} {X : CX} {Th : TH} {pc : Nat} {lv : List (Nat × Value)} {st : List Value} {cc : ByteArray} {nL : Nat} {own : String} {rm : Room} {l0 : Launch} (C : CT G l0 X cc nL own rm) (j : Nat) {i : Nat} {x : Int} (hd : decode cc pc = .ok (.lload i, 2)) (hj : lv[j]? = some (i, .long (zJ x))) (k : V G X Th (pc + 2) lv (.long (zJ x) :: st)) : V G X Th (pc) lv (st) := by
  obtain ⟨p, l, e, R, s, m, args, below, meth, c, nc, ns, Q⟩ := X
  obtain ⟨hx, hb, hml, hown, hts, hK, hR, hcc, hss, -⟩ := C
  intro H locs ls h1 h2 h3 h4 h5
  exact lv_lload hx hb hd (lv_at h5 j hj) (k H locs ls h1 h2 h3 h4 h5)

theorem v_lstore_n {G : GT} {X : CX} {Th : TH} {pc : Nat} {lv : List (Nat × Value)} {st : List Value} {cc : ByteArray} {nL : Nat} {own : String} {rm : Room} {l0 : Launch} (C : CT G l0 X cc nL own rm) {f : Fin 4} {i : Nat} {x : Int} (hd : decode cc pc = .ok (.lstore_n f, 1)) (hf : (f : Nat) = i) (hi : i + 1 < nL) (k : V G X Th (pc + 1) ((i, Value.long (zJ x)) :: lv.filter (fun q => !(q.1 == i) && (!(q.1 == i + 1) && !(q.1 + 1 == i && q.2.category == 2)))) st) : V G X Th (pc) lv (.long (zJ x) :: st) := by
  obtain ⟨p, l, e, R, s, m, args, below, meth, c, nc, ns, Q⟩ := X
  obtain ⟨hx, hb, hml, hown, hts, hK, hR, hcc, hss, -⟩ := C
  intro H locs ls h1 h2 h3 h4 h5
  subst hml
  exact lv_lstore_n hx hb hd hf h5 hi rfl (fun ls hl => k H locs ls h1 h2 h3 h4 hl)

theorem v_lstore {G : GT} {X : CX} {Th : TH} {pc : Nat} {lv : List (Nat × Value)} {st : List Value} {cc : ByteArray} {nL : Nat} {own : String} {rm : Room} {l0 : Launch} (C : CT G l0 X cc nL own rm) {i : Nat} {x : Int} (hd : decode cc pc = .ok (.lstore i, 2)) (hi : i + 1 < nL) (k : V G X Th (pc + 2) ((i, Value.long (zJ x)) :: lv.filter (fun q => !(q.1 == i) && (!(q.1 == i + 1) && !(q.1 + 1 == i && q.2.category == 2)))) st) : V G X Th (pc) lv (.long (zJ x) :: st) := by
  obtain ⟨p, l, e, R, s, m, args, below, meth, c, nc, ns, Q⟩ := X
  obtain ⟨hx, hb, hml, hown, hts, hK, hR, hcc, hss, -⟩ := C
  intro H locs ls h1 h2 h3 h4 h5
  subst hml
  exact lv_lstore hx hb hd h5 hi rfl (fun ls hl => k H locs ls h1 h2 h3 h4 hl)

theorem v_aload_n {G : GT} {X : CX} {Th : TH} {pc : Nat} {lv : List (Nat × Value)} {st : List Value} {cc : ByteArray} {nL : Nat} {own : String} {rm : Room} {l0 : Launch} (C : CT G l0 X cc nL own rm) (j : Nat) {i : Fin 4} {x : Nat} (hd : decode cc pc = .ok (.aload_n i, 1)) (hj : lv[j]? = some ((i : Nat), .ref x)) (k : V G X Th (pc + 1) lv (.ref x :: st)) : V G X Th (pc) lv (st) := by
  obtain ⟨p, l, e, R, s, m, args, below, meth, c, nc, ns, Q⟩ := X
  obtain ⟨hx, hb, hml, hown, hts, hK, hR, hcc, hss, -⟩ := C
  intro H locs ls h1 h2 h3 h4 h5
  exact lv_aload_n hx hb hd rfl (lv_at h5 j hj) (k H locs ls h1 h2 h3 h4 h5)

theorem v_aload {G : GT} {X : CX} {Th : TH} {pc : Nat} {lv : List (Nat × Value)} {st : List Value} {cc : ByteArray} {nL : Nat} {own : String} {rm : Room} {l0 : Launch} (C : CT G l0 X cc nL own rm) (j : Nat) {i : Nat} {x : Nat} (hd : decode cc pc = .ok (.aload i, 2)) (hj : lv[j]? = some (i, .ref x)) (k : V G X Th (pc + 2) lv (.ref x :: st)) : V G X Th (pc) lv (st) := by
  obtain ⟨p, l, e, R, s, m, args, below, meth, c, nc, ns, Q⟩ := X
  obtain ⟨hx, hb, hml, hown, hts, hK, hR, hcc, hss, -⟩ := C
  intro H locs ls h1 h2 h3 h4 h5
  exact lv_aload hx hb hd (lv_at h5 j hj) (k H locs ls h1 h2 h3 h4 h5)

theorem v_astore_n {G : GT} {X : CX} {Th : TH} {pc : Nat} {lv : List (Nat × Value)} {st : List Value} {cc : ByteArray} {nL : Nat} {own : String} {rm : Room} {l0 : Launch} (C : CT G l0 X cc nL own rm) {f : Fin 4} {i : Nat} {x : Nat} (hd : decode cc pc = .ok (.astore_n f, 1)) (hf : (f : Nat) = i) (hi : i < nL) (k : V G X Th (pc + 1) ((i, Value.ref x) :: lv.filter (fun q => !(q.1 == i) && !(q.1 + 1 == i && q.2.category == 2))) st) : V G X Th (pc) lv (.ref x :: st) := by
  obtain ⟨p, l, e, R, s, m, args, below, meth, c, nc, ns, Q⟩ := X
  obtain ⟨hx, hb, hml, hown, hts, hK, hR, hcc, hss, -⟩ := C
  intro H locs ls h1 h2 h3 h4 h5
  subst hml
  exact lv_astore_n hx hb hd hf h5 hi rfl (fun ls hl => k H locs ls h1 h2 h3 h4 hl)

theorem v_astore {G : GT} {X : CX} {Th : TH} {pc : Nat} {lv : List (Nat × Value)} {st : List Value} {cc : ByteArray} {nL : Nat} {own : String} {rm : Room} {l0 : Launch} (C : CT G l0 X cc nL own rm) {i : Nat} {x : Nat} (hd : decode cc pc = .ok (.astore i, 2)) (hi : i < nL) (k : V G X Th (pc + 2) ((i, Value.ref x) :: lv.filter (fun q => !(q.1 == i) && !(q.1 + 1 == i && q.2.category == 2))) st) : V G X Th (pc) lv (.ref x :: st) := by
  obtain ⟨p, l, e, R, s, m, args, below, meth, c, nc, ns, Q⟩ := X
  obtain ⟨hx, hb, hml, hown, hts, hK, hR, hcc, hss, -⟩ := C
  intro H locs ls h1 h2 h3 h4 h5
  subst hml
  exact lv_astore hx hb hd h5 hi rfl (fun ls hl => k H locs ls h1 h2 h3 h4 hl)

theorem v_iinc {G : GT} {X : CX} {Th : TH} {pc : Nat} {lv : List (Nat × Value)} {st : List Value} {cc : ByteArray} {nL : Nat} {own : String} {rm : Room} {l0 : Launch} (C : CT G l0 X cc nL own rm) (j : Nat) {i : Nat} {n x : Int} (hd : decode cc pc = .ok (.iinc i n, 3)) (hj : lv[j]? = some (i, .int (zI x))) (hi : i < nL) (k : V G X Th (pc + 3) ((i, Value.int (zI (x + n))) :: lv.filter (fun q => !(q.1 == i) && !(q.1 + 1 == i && q.2.category == 2))) st) : V G X Th (pc) lv (st) := by
  obtain ⟨p, l, e, R, s, m, args, below, meth, c, nc, ns, Q⟩ := X
  obtain ⟨hx, hb, hml, hown, hts, hK, hR, hcc, hss, -⟩ := C
  intro H locs ls h1 h2 h3 h4 h5
  subst hml
  exact lv_iinc hx hb hd h5 hj (zI_add x n) hi rfl (fun ls hl => k H locs ls h1 h2 h3 h4 hl)

theorem v_iadd {G : GT} {X : CX} {Th : TH} {pc : Nat} {lv : List (Nat × Value)} {st : List Value} {cc : ByteArray} {nL : Nat} {own : String} {rm : Room} {l0 : Launch} (C : CT G l0 X cc nL own rm) {a b : Int} (hd : decode cc pc = .ok (.iadd, 1)) (k : V G X Th (pc + 1) lv (.int (zI (a + b)) :: st)) : V G X Th (pc) lv (.int (zI b) :: .int (zI a) :: st) := by
  obtain ⟨p, l, e, R, s, m, args, below, meth, c, nc, ns, Q⟩ := X
  obtain ⟨hx, hb, hml, hown, hts, hK, hR, hcc, hss, -⟩ := C
  intro H locs ls h1 h2 h3 h4 h5
  have k := (k H locs ls h1 h2 h3 h4 h5)
  rw [← zI_add a b] at k
  exact lv_iadd hx hb hd k

theorem v_isub {G : GT} {X : CX} {Th : TH} {pc : Nat} {lv : List (Nat × Value)} {st : List Value} {cc : ByteArray} {nL : Nat} {own : String} {rm : Room} {l0 : Launch} (C : CT G l0 X cc nL own rm) {a b : Int} (hd : decode cc pc = .ok (.isub, 1)) (k : V G X Th (pc + 1) lv (.int (zI (a - b)) :: st)) : V G X Th (pc) lv (.int (zI b) :: .int (zI a) :: st) := by
  obtain ⟨p, l, e, R, s, m, args, below, meth, c, nc, ns, Q⟩ := X
  obtain ⟨hx, hb, hml, hown, hts, hK, hR, hcc, hss, -⟩ := C
  intro H locs ls h1 h2 h3 h4 h5
  have k := (k H locs ls h1 h2 h3 h4 h5)
  rw [← zI_sub a b] at k
  exact lv_isub hx hb hd k

theorem v_imul {G : GT} {X : CX} {Th : TH} {pc : Nat} {lv : List (Nat × Value)} {st : List Value} {cc : ByteArray} {nL : Nat} {own : String} {rm : Room} {l0 : Launch} (C : CT G l0 X cc nL own rm) {a b : Int} (hd : decode cc pc = .ok (.imul, 1)) (k : V G X Th (pc + 1) lv (.int (zI (a * b)) :: st)) : V G X Th (pc) lv (.int (zI b) :: .int (zI a) :: st) := by
  obtain ⟨p, l, e, R, s, m, args, below, meth, c, nc, ns, Q⟩ := X
  obtain ⟨hx, hb, hml, hown, hts, hK, hR, hcc, hss, -⟩ := C
  intro H locs ls h1 h2 h3 h4 h5
  have k := (k H locs ls h1 h2 h3 h4 h5)
  rw [← zI_mul a b] at k
  exact lv_imul hx hb hd k

theorem v_ineg {G : GT} {X : CX} {Th : TH} {pc : Nat} {lv : List (Nat × Value)} {st : List Value} {cc : ByteArray} {nL : Nat} {own : String} {rm : Room} {l0 : Launch} (C : CT G l0 X cc nL own rm) {a : Int} (hd : decode cc pc = .ok (.ineg, 1)) (k : V G X Th (pc + 1) lv (.int (zI (-a)) :: st)) : V G X Th (pc) lv (.int (zI a) :: st) := by
  obtain ⟨p, l, e, R, s, m, args, below, meth, c, nc, ns, Q⟩ := X
  obtain ⟨hx, hb, hml, hown, hts, hK, hR, hcc, hss, -⟩ := C
  intro H locs ls h1 h2 h3 h4 h5
  have k := (k H locs ls h1 h2 h3 h4 h5)
  rw [← zI_neg a] at k
  exact lv_ineg hx hb hd k

theorem v_iand {G : GT} {X : CX} {Th : TH} {pc : Nat} {lv : List (Nat × Value)} {st : List Value} {cc : ByteArray} {nL : Nat} {own : String} {rm : Room} {l0 : Launch} (C : CT G l0 X cc nL own rm) {a b : Int} (hd : decode cc pc = .ok (.iand, 1)) (k : V G X Th (pc + 1) lv (.int (zI (zand a b)) :: st)) : V G X Th (pc) lv (.int (zI b) :: .int (zI a) :: st) := by
  obtain ⟨p, l, e, R, s, m, args, below, meth, c, nc, ns, Q⟩ := X
  obtain ⟨hx, hb, hml, hown, hts, hK, hR, hcc, hss, -⟩ := C
  intro H locs ls h1 h2 h3 h4 h5
  have k := (k H locs ls h1 h2 h3 h4 h5)
  unfold zand at k
  rw [zI_of] at k
  exact lv_iand hx hb hd k

theorem v_ior {G : GT} {X : CX} {Th : TH} {pc : Nat} {lv : List (Nat × Value)} {st : List Value} {cc : ByteArray} {nL : Nat} {own : String} {rm : Room} {l0 : Launch} (C : CT G l0 X cc nL own rm) {a b : Int} (hd : decode cc pc = .ok (.ior, 1)) (k : V G X Th (pc + 1) lv (.int (zI (zor a b)) :: st)) : V G X Th (pc) lv (.int (zI b) :: .int (zI a) :: st) := by
  obtain ⟨p, l, e, R, s, m, args, below, meth, c, nc, ns, Q⟩ := X
  obtain ⟨hx, hb, hml, hown, hts, hK, hR, hcc, hss, -⟩ := C
  intro H locs ls h1 h2 h3 h4 h5
  have k := (k H locs ls h1 h2 h3 h4 h5)
  unfold zor at k
  rw [zI_of] at k
  exact lv_ior hx hb hd k

theorem v_ixor {G : GT} {X : CX} {Th : TH} {pc : Nat} {lv : List (Nat × Value)} {st : List Value} {cc : ByteArray} {nL : Nat} {own : String} {rm : Room} {l0 : Launch} (C : CT G l0 X cc nL own rm) {a b : Int} (hd : decode cc pc = .ok (.ixor, 1)) (k : V G X Th (pc + 1) lv (.int (zI (zxor a b)) :: st)) : V G X Th (pc) lv (.int (zI b) :: .int (zI a) :: st) := by
  obtain ⟨p, l, e, R, s, m, args, below, meth, c, nc, ns, Q⟩ := X
  obtain ⟨hx, hb, hml, hown, hts, hK, hR, hcc, hss, -⟩ := C
  intro H locs ls h1 h2 h3 h4 h5
  have k := (k H locs ls h1 h2 h3 h4 h5)
  unfold zxor at k
  rw [zI_of] at k
  exact lv_ixor hx hb hd k

theorem v_ishl {G : GT} {X : CX} {Th : TH} {pc : Nat} {lv : List (Nat × Value)} {st : List Value} {cc : ByteArray} {nL : Nat} {own : String} {rm : Room} {l0 : Launch} (C : CT G l0 X cc nL own rm) {a b : Int} (hd : decode cc pc = .ok (.ishl, 1)) (k : V G X Th (pc + 1) lv (.int (zI (zshl a b)) :: st)) : V G X Th (pc) lv (.int (zI b) :: .int (zI a) :: st) := by
  obtain ⟨p, l, e, R, s, m, args, below, meth, c, nc, ns, Q⟩ := X
  obtain ⟨hx, hb, hml, hown, hts, hK, hR, hcc, hss, -⟩ := C
  intro H locs ls h1 h2 h3 h4 h5
  have k := (k H locs ls h1 h2 h3 h4 h5)
  unfold zshl at k
  rw [zI_of] at k
  exact lv_ishl hx hb hd k

theorem v_ishr {G : GT} {X : CX} {Th : TH} {pc : Nat} {lv : List (Nat × Value)} {st : List Value} {cc : ByteArray} {nL : Nat} {own : String} {rm : Room} {l0 : Launch} (C : CT G l0 X cc nL own rm) {a b : Int} (hd : decode cc pc = .ok (.ishr, 1)) (k : V G X Th (pc + 1) lv (.int (zI (zshr a b)) :: st)) : V G X Th (pc) lv (.int (zI b) :: .int (zI a) :: st) := by
  obtain ⟨p, l, e, R, s, m, args, below, meth, c, nc, ns, Q⟩ := X
  obtain ⟨hx, hb, hml, hown, hts, hK, hR, hcc, hss, -⟩ := C
  intro H locs ls h1 h2 h3 h4 h5
  have k := (k H locs ls h1 h2 h3 h4 h5)
  unfold zshr at k
  rw [zI_of] at k
  exact lv_ishr hx hb hd k

theorem v_iushr {G : GT} {X : CX} {Th : TH} {pc : Nat} {lv : List (Nat × Value)} {st : List Value} {cc : ByteArray} {nL : Nat} {own : String} {rm : Room} {l0 : Launch} (C : CT G l0 X cc nL own rm) {a b : Int} (hd : decode cc pc = .ok (.iushr, 1)) (k : V G X Th (pc + 1) lv (.int (zI (zushr a b)) :: st)) : V G X Th (pc) lv (.int (zI b) :: .int (zI a) :: st) := by
  obtain ⟨p, l, e, R, s, m, args, below, meth, c, nc, ns, Q⟩ := X
  obtain ⟨hx, hb, hml, hown, hts, hK, hR, hcc, hss, -⟩ := C
  intro H locs ls h1 h2 h3 h4 h5
  exact lv_iushr hx hb hd (by unfold zushr; rw [zI_of]) (k H locs ls h1 h2 h3 h4 h5)

theorem v_idiv {G : GT} {X : CX} {Th : TH} {pc : Nat} {lv : List (Nat × Value)} {st : List Value} {cc : ByteArray} {nL : Nat} {own : String} {rm : Room} {l0 : Launch} (C : CT G l0 X cc nL own rm) {a b : Int} (hd : decode cc pc = .ok (.idiv, 1)) (hr : zR b) (hne : b ≠ 0) (k : V G X Th (pc + 1) lv (.int (zI (zdiv a b)) :: st)) : V G X Th (pc) lv (.int (zI b) :: .int (zI a) :: st) := by
  obtain ⟨p, l, e, R, s, m, args, below, meth, c, nc, ns, Q⟩ := X
  obtain ⟨hx, hb, hml, hown, hts, hK, hR, hcc, hss, -⟩ := C
  intro H locs ls h1 h2 h3 h4 h5
  have k := (k H locs ls h1 h2 h3 h4 h5)
  unfold zdiv at k
  rw [zI_of] at k
  exact lv_idiv hx hb hd (fun q => hne ((zI_eq hr z0).mp q)) k

theorem v_irem {G : GT} {X : CX} {Th : TH} {pc : Nat} {lv : List (Nat × Value)} {st : List Value} {cc : ByteArray} {nL : Nat} {own : String} {rm : Room} {l0 : Launch} (C : CT G l0 X cc nL own rm) {a b : Int} (hd : decode cc pc = .ok (.irem, 1)) (hr : zR b) (hne : b ≠ 0) (k : V G X Th (pc + 1) lv (.int (zI (zrem a b)) :: st)) : V G X Th (pc) lv (.int (zI b) :: .int (zI a) :: st) := by
  obtain ⟨p, l, e, R, s, m, args, below, meth, c, nc, ns, Q⟩ := X
  obtain ⟨hx, hb, hml, hown, hts, hK, hR, hcc, hss, -⟩ := C
  intro H locs ls h1 h2 h3 h4 h5
  have k := (k H locs ls h1 h2 h3 h4 h5)
  unfold zrem at k
  rw [zI_of] at k
  exact lv_irem hx hb hd (fun q => hne ((zI_eq hr z0).mp q)) k

theorem v_ladd {G : GT} {X : CX} {Th : TH} {pc : Nat} {lv : List (Nat × Value)} {st : List Value} {cc : ByteArray} {nL : Nat} {own : String} {rm : Room} {l0 : Launch} (C : CT G l0 X cc nL own rm) {a b : Int} (hd : decode cc pc = .ok (.ladd, 1)) (k : V G X Th (pc + 1) lv (.long (zJ (a + b)) :: st)) : V G X Th (pc) lv (.long (zJ b) :: .long (zJ a) :: st) := by
  obtain ⟨p, l, e, R, s, m, args, below, meth, c, nc, ns, Q⟩ := X
  obtain ⟨hx, hb, hml, hown, hts, hK, hR, hcc, hss, -⟩ := C
  intro H locs ls h1 h2 h3 h4 h5
  have k := (k H locs ls h1 h2 h3 h4 h5)
  rw [← zJ_add a b] at k
  exact lv_ladd hx hb hd k

theorem v_lsub {G : GT} {X : CX} {Th : TH} {pc : Nat} {lv : List (Nat × Value)} {st : List Value} {cc : ByteArray} {nL : Nat} {own : String} {rm : Room} {l0 : Launch} (C : CT G l0 X cc nL own rm) {a b : Int} (hd : decode cc pc = .ok (.lsub, 1)) (k : V G X Th (pc + 1) lv (.long (zJ (a - b)) :: st)) : V G X Th (pc) lv (.long (zJ b) :: .long (zJ a) :: st) := by
  obtain ⟨p, l, e, R, s, m, args, below, meth, c, nc, ns, Q⟩ := X
  obtain ⟨hx, hb, hml, hown, hts, hK, hR, hcc, hss, -⟩ := C
  intro H locs ls h1 h2 h3 h4 h5
  have k := (k H locs ls h1 h2 h3 h4 h5)
  rw [← zJ_sub a b] at k
  exact lv_lsub hx hb hd k

theorem v_lmul {G : GT} {X : CX} {Th : TH} {pc : Nat} {lv : List (Nat × Value)} {st : List Value} {cc : ByteArray} {nL : Nat} {own : String} {rm : Room} {l0 : Launch} (C : CT G l0 X cc nL own rm) {a b : Int} (hd : decode cc pc = .ok (.lmul, 1)) (k : V G X Th (pc + 1) lv (.long (zJ (a * b)) :: st)) : V G X Th (pc) lv (.long (zJ b) :: .long (zJ a) :: st) := by
  obtain ⟨p, l, e, R, s, m, args, below, meth, c, nc, ns, Q⟩ := X
  obtain ⟨hx, hb, hml, hown, hts, hK, hR, hcc, hss, -⟩ := C
  intro H locs ls h1 h2 h3 h4 h5
  have k := (k H locs ls h1 h2 h3 h4 h5)
  rw [← zJ_mul a b] at k
  exact lv_lmul hx hb hd k

theorem v_land {G : GT} {X : CX} {Th : TH} {pc : Nat} {lv : List (Nat × Value)} {st : List Value} {cc : ByteArray} {nL : Nat} {own : String} {rm : Room} {l0 : Launch} (C : CT G l0 X cc nL own rm) {a b : Int} (hd : decode cc pc = .ok (.land, 1)) (k : V G X Th (pc + 1) lv (.long (zJ (zlandL a b)) :: st)) : V G X Th (pc) lv (.long (zJ b) :: .long (zJ a) :: st) := by
  obtain ⟨p, l, e, R, s, m, args, below, meth, c, nc, ns, Q⟩ := X
  obtain ⟨hx, hb, hml, hown, hts, hK, hR, hcc, hss, -⟩ := C
  intro H locs ls h1 h2 h3 h4 h5
  have k := (k H locs ls h1 h2 h3 h4 h5)
  unfold zlandL at k
  rw [zJ_of] at k
  exact lv_land hx hb hd k

theorem v_ldiv {G : GT} {X : CX} {Th : TH} {pc : Nat} {lv : List (Nat × Value)} {st : List Value} {cc : ByteArray} {nL : Nat} {own : String} {rm : Room} {l0 : Launch} (C : CT G l0 X cc nL own rm) {a b : Int} (hd : decode cc pc = .ok (.ldiv, 1)) (hr : zRL b) (hne : b ≠ 0) (k : V G X Th (pc + 1) lv (.long (zJ (zdivL a b)) :: st)) : V G X Th (pc) lv (.long (zJ b) :: .long (zJ a) :: st) := by
  obtain ⟨p, l, e, R, s, m, args, below, meth, c, nc, ns, Q⟩ := X
  obtain ⟨hx, hb, hml, hown, hts, hK, hR, hcc, hss, -⟩ := C
  intro H locs ls h1 h2 h3 h4 h5
  have k := (k H locs ls h1 h2 h3 h4 h5)
  unfold zdivL at k
  rw [zJ_of] at k
  exact lv_ldiv hx hb hd (fun q => hne ((zJ_eq hr (by unfold zRL; omega)).mp q)) k

theorem v_lrem {G : GT} {X : CX} {Th : TH} {pc : Nat} {lv : List (Nat × Value)} {st : List Value} {cc : ByteArray} {nL : Nat} {own : String} {rm : Room} {l0 : Launch} (C : CT G l0 X cc nL own rm) {a b : Int} (hd : decode cc pc = .ok (.lrem, 1)) (hr : zRL b) (hne : b ≠ 0) (k : V G X Th (pc + 1) lv (.long (zJ (zremL a b)) :: st)) : V G X Th (pc) lv (.long (zJ b) :: .long (zJ a) :: st) := by
  obtain ⟨p, l, e, R, s, m, args, below, meth, c, nc, ns, Q⟩ := X
  obtain ⟨hx, hb, hml, hown, hts, hK, hR, hcc, hss, -⟩ := C
  intro H locs ls h1 h2 h3 h4 h5
  have k := (k H locs ls h1 h2 h3 h4 h5)
  unfold zremL at k
  rw [zJ_of] at k
  exact lv_lrem hx hb hd (fun q => hne ((zJ_eq hr (by unfold zRL; omega)).mp q)) k

theorem v_i2l {G : GT} {X : CX} {Th : TH} {pc : Nat} {lv : List (Nat × Value)} {st : List Value} {cc : ByteArray} {nL : Nat} {own : String} {rm : Room} {l0 : Launch} (C : CT G l0 X cc nL own rm) {a : Int} (hd : decode cc pc = .ok (.i2l, 1)) (hr : zR a) (k : V G X Th (pc + 1) lv (.long (zJ a) :: st)) : V G X Th (pc) lv (.int (zI a) :: st) := by
  obtain ⟨p, l, e, R, s, m, args, below, meth, c, nc, ns, Q⟩ := X
  obtain ⟨hx, hb, hml, hown, hts, hK, hR, hcc, hss, -⟩ := C
  intro H locs ls h1 h2 h3 h4 h5
  exact lv_i2l hx hb hd (zI_toInt64 hr) (k H locs ls h1 h2 h3 h4 h5)

theorem v_l2i {G : GT} {X : CX} {Th : TH} {pc : Nat} {lv : List (Nat × Value)} {st : List Value} {cc : ByteArray} {nL : Nat} {own : String} {rm : Room} {l0 : Launch} (C : CT G l0 X cc nL own rm) {a : Int} (hd : decode cc pc = .ok (.l2i, 1)) (k : V G X Th (pc + 1) lv (.int (zI a) :: st)) : V G X Th (pc) lv (.long (zJ a) :: st) := by
  obtain ⟨p, l, e, R, s, m, args, below, meth, c, nc, ns, Q⟩ := X
  obtain ⟨hx, hb, hml, hown, hts, hK, hR, hcc, hss, -⟩ := C
  intro H locs ls h1 h2 h3 h4 h5
  exact lv_l2i hx hb hd (zJ_toInt32 a) (k H locs ls h1 h2 h3 h4 h5)

theorem zcmp {a b : Int} (ha : zRL a) (hb : zRL b) : lg_cmp (zJ a) (zJ b) = zI (if b < a then 1 else if a = b then 0 else -1) := by
  unfold lg_cmp
  simp only [zJ_lt hb ha, zJ_eq ha hb]
  by_cases h1 : b < a
  · rw [if_pos h1, if_pos h1]; rfl
  · rw [if_neg h1, if_neg h1]
    by_cases h2 : a = b
    · rw [if_pos h2, if_pos h2]; rfl
    · rw [if_neg h2, if_neg h2]; rfl
def zlc (a b : Int) : Int := if b < a then 1 else if a = b then 0 else -1

theorem v_lcmp {G : GT} {X : CX} {Th : TH} {pc : Nat} {lv : List (Nat × Value)} {st : List Value} {cc : ByteArray} {nL : Nat} {own : String} {rm : Room} {l0 : Launch} (C : CT G l0 X cc nL own rm) {a b : Int} (hd : decode cc pc = .ok (.lcmp, 1)) (ha : zRL a) (hb3 : zRL b) (k : V G X Th (pc + 1) lv (.int (zI (zlc a b)) :: st)) : V G X Th (pc) lv (.long (zJ b) :: .long (zJ a) :: st) := by
  obtain ⟨p, l, e, R, s, m, args, below, meth, c, nc, ns, Q⟩ := X
  obtain ⟨hx, hb, hml, hown, hts, hK, hR, hcc, hss, -⟩ := C
  intro H locs ls h1 h2 h3 h4 h5
  have k := (k H locs ls h1 h2 h3 h4 h5)
  unfold zlc at k
  rw [← zcmp ha hb3] at k
  exact W.lcmp hx hb hd k

theorem v_dup {G : GT} {X : CX} {Th : TH} {pc : Nat} {lv : List (Nat × Value)} {st : List Value} {cc : ByteArray} {nL : Nat} {own : String} {rm : Room} {l0 : Launch} (C : CT G l0 X cc nL own rm) {v : Value} (hd : decode cc pc = .ok (.dup, 1)) (hv : v.category = 1) (k : V G X Th (pc + 1) lv (v :: v :: st)) : V G X Th (pc) lv (v :: st) := by
  obtain ⟨p, l, e, R, s, m, args, below, meth, c, nc, ns, Q⟩ := X
  obtain ⟨hx, hb, hml, hown, hts, hK, hR, hcc, hss, -⟩ := C
  intro H locs ls h1 h2 h3 h4 h5
  exact lv_dup hx hb hd hv (k H locs ls h1 h2 h3 h4 h5)

theorem v_pop {G : GT} {X : CX} {Th : TH} {pc : Nat} {lv : List (Nat × Value)} {st : List Value} {cc : ByteArray} {nL : Nat} {own : String} {rm : Room} {l0 : Launch} (C : CT G l0 X cc nL own rm) {v : Value} (hd : decode cc pc = .ok (.pop, 1)) (hv : v.category = 1) (k : V G X Th (pc + 1) lv (st)) : V G X Th (pc) lv (v :: st) := by
  obtain ⟨p, l, e, R, s, m, args, below, meth, c, nc, ns, Q⟩ := X
  obtain ⟨hx, hb, hml, hown, hts, hK, hR, hcc, hss, -⟩ := C
  intro H locs ls h1 h2 h3 h4 h5
  exact lv_pop hx hb hd hv (k H locs ls h1 h2 h3 h4 h5)

theorem v_dup2 {G : GT} {X : CX} {Th : TH} {pc : Nat} {lv : List (Nat × Value)} {st : List Value} {cc : ByteArray} {nL : Nat} {own : String} {rm : Room} {l0 : Launch} (C : CT G l0 X cc nL own rm) {v w : Value} (hd : decode cc pc = .ok (.dup2, 1)) (hv : v.category = 1) (hw : w.category = 1) (k : V G X Th (pc + 1) lv (v :: w :: v :: w :: st)) : V G X Th (pc) lv (v :: w :: st) := by
  obtain ⟨p, l, e, R, s, m, args, below, meth, c, nc, ns, Q⟩ := X
  obtain ⟨hx, hb, hml, hown, hts, hK, hR, hcc, hss, -⟩ := C
  intro H locs ls h1 h2 h3 h4 h5
  exact lv_dup2_11 hx hb hd hv hw (k H locs ls h1 h2 h3 h4 h5)

theorem v_goto {G : GT} {X : CX} {Th : TH} {pc : Nat} {lv : List (Nat × Value)} {st : List Value} {cc : ByteArray} {nL : Nat} {own : String} {rm : Room} {l0 : Launch} (C : CT G l0 X cc nL own rm) {off : Int} {tgt : Nat} (hd : decode cc pc = .ok (.goto off, 3)) (ht : (pc : Int) + off = (tgt : Int)) (k : V G X Th (tgt) lv (st)) : V G X Th (pc) lv (st) := by
  obtain ⟨p, l, e, R, s, m, args, below, meth, c, nc, ns, Q⟩ := X
  obtain ⟨hx, hb, hml, hown, hts, hK, hR, hcc, hss, -⟩ := C
  intro H locs ls h1 h2 h3 h4 h5
  exact lv_goto hx hb hd ht (k H locs ls h1 h2 h3 h4 h5)

theorem v_icmp_eq {G : GT} {X : CX} {Th : TH} {pc : Nat} {lv : List (Nat × Value)} {st : List Value} {cc : ByteArray} {nL : Nat} {own : String} {rm : Room} {l0 : Launch} (C : CT G l0 X cc nL own rm) {a b off : Int} {tgt : Nat} (hd : decode cc pc = .ok (.if_icmp .eq off, 3)) (ht : (pc : Int) + off = (tgt : Int)) (ha : zR a) (hb2 : zR b) (kt : a = b → V G X Th (tgt) lv (st)) (kf : ¬ (a = b) → V G X Th (pc + 3) lv (st)) : V G X Th (pc) lv (.int (zI b) :: .int (zI a) :: st) := by
  obtain ⟨p, l, e, R, s, m, args, below, meth, c, nc, ns, Q⟩ := X
  obtain ⟨hx, hb, hml, hown, hts, hK, hR, hcc, hss, -⟩ := C
  intro H locs ls h1 h2 h3 h4 h5
  exact lv_icmp_eq hx hb hd ht (fun q => kt ((zI_eq ha hb2).mp q) H locs ls h1 h2 h3 h4 h5) (fun q => kf (fun z => q ((zI_eq ha hb2).mpr z)) H locs ls h1 h2 h3 h4 h5)

theorem v_if_eq {G : GT} {X : CX} {Th : TH} {pc : Nat} {lv : List (Nat × Value)} {st : List Value} {cc : ByteArray} {nL : Nat} {own : String} {rm : Room} {l0 : Launch} (C : CT G l0 X cc nL own rm) {a off : Int} {tgt : Nat} (hd : decode cc pc = .ok (.ifCond .eq off, 3)) (ht : (pc : Int) + off = (tgt : Int)) (ha : zR a) (kt : a = 0 → V G X Th (tgt) lv (st)) (kf : ¬ (a = 0) → V G X Th (pc + 3) lv (st)) : V G X Th (pc) lv (.int (zI a) :: st) := by
  obtain ⟨p, l, e, R, s, m, args, below, meth, c, nc, ns, Q⟩ := X
  obtain ⟨hx, hb, hml, hown, hts, hK, hR, hcc, hss, -⟩ := C
  intro H locs ls h1 h2 h3 h4 h5
  exact lv_if_eq hx hb hd ht (fun q => kt ((zI_eq ha z0).mp q) H locs ls h1 h2 h3 h4 h5) (fun q => kf (fun z => q ((zI_eq ha z0).mpr z)) H locs ls h1 h2 h3 h4 h5)

theorem v_icmp_ne {G : GT} {X : CX} {Th : TH} {pc : Nat} {lv : List (Nat × Value)} {st : List Value} {cc : ByteArray} {nL : Nat} {own : String} {rm : Room} {l0 : Launch} (C : CT G l0 X cc nL own rm) {a b off : Int} {tgt : Nat} (hd : decode cc pc = .ok (.if_icmp .ne off, 3)) (ht : (pc : Int) + off = (tgt : Int)) (ha : zR a) (hb2 : zR b) (kt : ¬ a = b → V G X Th (tgt) lv (st)) (kf : a = b → V G X Th (pc + 3) lv (st)) : V G X Th (pc) lv (.int (zI b) :: .int (zI a) :: st) := by
  obtain ⟨p, l, e, R, s, m, args, below, meth, c, nc, ns, Q⟩ := X
  obtain ⟨hx, hb, hml, hown, hts, hK, hR, hcc, hss, -⟩ := C
  intro H locs ls h1 h2 h3 h4 h5
  exact lv_icmp_ne hx hb hd ht (fun q => kt ((not_congr (zI_eq ha hb2)).mp q) H locs ls h1 h2 h3 h4 h5) (fun q => kf ((zI_eq ha hb2).mp q) H locs ls h1 h2 h3 h4 h5)

theorem v_if_ne {G : GT} {X : CX} {Th : TH} {pc : Nat} {lv : List (Nat × Value)} {st : List Value} {cc : ByteArray} {nL : Nat} {own : String} {rm : Room} {l0 : Launch} (C : CT G l0 X cc nL own rm) {a off : Int} {tgt : Nat} (hd : decode cc pc = .ok (.ifCond .ne off, 3)) (ht : (pc : Int) + off = (tgt : Int)) (ha : zR a) (kt : ¬ a = 0 → V G X Th (tgt) lv (st)) (kf : a = 0 → V G X Th (pc + 3) lv (st)) : V G X Th (pc) lv (.int (zI a) :: st) := by
  obtain ⟨p, l, e, R, s, m, args, below, meth, c, nc, ns, Q⟩ := X
  obtain ⟨hx, hb, hml, hown, hts, hK, hR, hcc, hss, -⟩ := C
  intro H locs ls h1 h2 h3 h4 h5
  exact lv_if_ne hx hb hd ht (fun q => kt ((not_congr (zI_eq ha z0)).mp q) H locs ls h1 h2 h3 h4 h5) (fun q => kf ((zI_eq ha z0).mp q) H locs ls h1 h2 h3 h4 h5)

theorem v_icmp_lt {G : GT} {X : CX} {Th : TH} {pc : Nat} {lv : List (Nat × Value)} {st : List Value} {cc : ByteArray} {nL : Nat} {own : String} {rm : Room} {l0 : Launch} (C : CT G l0 X cc nL own rm) {a b off : Int} {tgt : Nat} (hd : decode cc pc = .ok (.if_icmp .lt off, 3)) (ht : (pc : Int) + off = (tgt : Int)) (ha : zR a) (hb2 : zR b) (kt : a < b → V G X Th (tgt) lv (st)) (kf : ¬ (a < b) → V G X Th (pc + 3) lv (st)) : V G X Th (pc) lv (.int (zI b) :: .int (zI a) :: st) := by
  obtain ⟨p, l, e, R, s, m, args, below, meth, c, nc, ns, Q⟩ := X
  obtain ⟨hx, hb, hml, hown, hts, hK, hR, hcc, hss, -⟩ := C
  intro H locs ls h1 h2 h3 h4 h5
  exact lv_icmp_lt hx hb hd ht (fun q => kt ((zI_lt ha hb2).mp q) H locs ls h1 h2 h3 h4 h5) (fun q => kf (fun z => q ((zI_lt ha hb2).mpr z)) H locs ls h1 h2 h3 h4 h5)

theorem v_if_lt {G : GT} {X : CX} {Th : TH} {pc : Nat} {lv : List (Nat × Value)} {st : List Value} {cc : ByteArray} {nL : Nat} {own : String} {rm : Room} {l0 : Launch} (C : CT G l0 X cc nL own rm) {a off : Int} {tgt : Nat} (hd : decode cc pc = .ok (.ifCond .lt off, 3)) (ht : (pc : Int) + off = (tgt : Int)) (ha : zR a) (kt : a < 0 → V G X Th (tgt) lv (st)) (kf : ¬ (a < 0) → V G X Th (pc + 3) lv (st)) : V G X Th (pc) lv (.int (zI a) :: st) := by
  obtain ⟨p, l, e, R, s, m, args, below, meth, c, nc, ns, Q⟩ := X
  obtain ⟨hx, hb, hml, hown, hts, hK, hR, hcc, hss, -⟩ := C
  intro H locs ls h1 h2 h3 h4 h5
  exact lv_if_lt hx hb hd ht (fun q => kt ((zI_lt ha z0).mp q) H locs ls h1 h2 h3 h4 h5) (fun q => kf (fun z => q ((zI_lt ha z0).mpr z)) H locs ls h1 h2 h3 h4 h5)

theorem v_icmp_ge {G : GT} {X : CX} {Th : TH} {pc : Nat} {lv : List (Nat × Value)} {st : List Value} {cc : ByteArray} {nL : Nat} {own : String} {rm : Room} {l0 : Launch} (C : CT G l0 X cc nL own rm) {a b off : Int} {tgt : Nat} (hd : decode cc pc = .ok (.if_icmp .ge off, 3)) (ht : (pc : Int) + off = (tgt : Int)) (ha : zR a) (hb2 : zR b) (kt : b ≤ a → V G X Th (tgt) lv (st)) (kf : ¬ (b ≤ a) → V G X Th (pc + 3) lv (st)) : V G X Th (pc) lv (.int (zI b) :: .int (zI a) :: st) := by
  obtain ⟨p, l, e, R, s, m, args, below, meth, c, nc, ns, Q⟩ := X
  obtain ⟨hx, hb, hml, hown, hts, hK, hR, hcc, hss, -⟩ := C
  intro H locs ls h1 h2 h3 h4 h5
  exact lv_icmp_ge hx hb hd ht (fun q => kt ((zI_le hb2 ha).mp q) H locs ls h1 h2 h3 h4 h5) (fun q => kf (fun z => q ((zI_le hb2 ha).mpr z)) H locs ls h1 h2 h3 h4 h5)

theorem v_if_ge {G : GT} {X : CX} {Th : TH} {pc : Nat} {lv : List (Nat × Value)} {st : List Value} {cc : ByteArray} {nL : Nat} {own : String} {rm : Room} {l0 : Launch} (C : CT G l0 X cc nL own rm) {a off : Int} {tgt : Nat} (hd : decode cc pc = .ok (.ifCond .ge off, 3)) (ht : (pc : Int) + off = (tgt : Int)) (ha : zR a) (kt : 0 ≤ a → V G X Th (tgt) lv (st)) (kf : ¬ (0 ≤ a) → V G X Th (pc + 3) lv (st)) : V G X Th (pc) lv (.int (zI a) :: st) := by
  obtain ⟨p, l, e, R, s, m, args, below, meth, c, nc, ns, Q⟩ := X
  obtain ⟨hx, hb, hml, hown, hts, hK, hR, hcc, hss, -⟩ := C
  intro H locs ls h1 h2 h3 h4 h5
  exact lv_if_ge hx hb hd ht (fun q => kt ((zI_le z0 ha).mp q) H locs ls h1 h2 h3 h4 h5) (fun q => kf (fun z => q ((zI_le z0 ha).mpr z)) H locs ls h1 h2 h3 h4 h5)

theorem v_icmp_gt {G : GT} {X : CX} {Th : TH} {pc : Nat} {lv : List (Nat × Value)} {st : List Value} {cc : ByteArray} {nL : Nat} {own : String} {rm : Room} {l0 : Launch} (C : CT G l0 X cc nL own rm) {a b off : Int} {tgt : Nat} (hd : decode cc pc = .ok (.if_icmp .gt off, 3)) (ht : (pc : Int) + off = (tgt : Int)) (ha : zR a) (hb2 : zR b) (kt : b < a → V G X Th (tgt) lv (st)) (kf : ¬ (b < a) → V G X Th (pc + 3) lv (st)) : V G X Th (pc) lv (.int (zI b) :: .int (zI a) :: st) := by
  obtain ⟨p, l, e, R, s, m, args, below, meth, c, nc, ns, Q⟩ := X
  obtain ⟨hx, hb, hml, hown, hts, hK, hR, hcc, hss, -⟩ := C
  intro H locs ls h1 h2 h3 h4 h5
  exact lv_icmp_gt hx hb hd ht (fun q => kt ((zI_lt hb2 ha).mp q) H locs ls h1 h2 h3 h4 h5) (fun q => kf (fun z => q ((zI_lt hb2 ha).mpr z)) H locs ls h1 h2 h3 h4 h5)

theorem v_if_gt {G : GT} {X : CX} {Th : TH} {pc : Nat} {lv : List (Nat × Value)} {st : List Value} {cc : ByteArray} {nL : Nat} {own : String} {rm : Room} {l0 : Launch} (C : CT G l0 X cc nL own rm) {a off : Int} {tgt : Nat} (hd : decode cc pc = .ok (.ifCond .gt off, 3)) (ht : (pc : Int) + off = (tgt : Int)) (ha : zR a) (kt : 0 < a → V G X Th (tgt) lv (st)) (kf : ¬ (0 < a) → V G X Th (pc + 3) lv (st)) : V G X Th (pc) lv (.int (zI a) :: st) := by
  obtain ⟨p, l, e, R, s, m, args, below, meth, c, nc, ns, Q⟩ := X
  obtain ⟨hx, hb, hml, hown, hts, hK, hR, hcc, hss, -⟩ := C
  intro H locs ls h1 h2 h3 h4 h5
  exact lv_if_gt hx hb hd ht (fun q => kt ((zI_lt z0 ha).mp q) H locs ls h1 h2 h3 h4 h5) (fun q => kf (fun z => q ((zI_lt z0 ha).mpr z)) H locs ls h1 h2 h3 h4 h5)

theorem v_icmp_le {G : GT} {X : CX} {Th : TH} {pc : Nat} {lv : List (Nat × Value)} {st : List Value} {cc : ByteArray} {nL : Nat} {own : String} {rm : Room} {l0 : Launch} (C : CT G l0 X cc nL own rm) {a b off : Int} {tgt : Nat} (hd : decode cc pc = .ok (.if_icmp .le off, 3)) (ht : (pc : Int) + off = (tgt : Int)) (ha : zR a) (hb2 : zR b) (kt : a ≤ b → V G X Th (tgt) lv (st)) (kf : ¬ (a ≤ b) → V G X Th (pc + 3) lv (st)) : V G X Th (pc) lv (.int (zI b) :: .int (zI a) :: st) := by
  obtain ⟨p, l, e, R, s, m, args, below, meth, c, nc, ns, Q⟩ := X
  obtain ⟨hx, hb, hml, hown, hts, hK, hR, hcc, hss, -⟩ := C
  intro H locs ls h1 h2 h3 h4 h5
  exact lv_icmp_le hx hb hd ht (fun q => kt ((zI_le ha hb2).mp q) H locs ls h1 h2 h3 h4 h5) (fun q => kf (fun z => q ((zI_le ha hb2).mpr z)) H locs ls h1 h2 h3 h4 h5)

theorem v_if_le {G : GT} {X : CX} {Th : TH} {pc : Nat} {lv : List (Nat × Value)} {st : List Value} {cc : ByteArray} {nL : Nat} {own : String} {rm : Room} {l0 : Launch} (C : CT G l0 X cc nL own rm) {a off : Int} {tgt : Nat} (hd : decode cc pc = .ok (.ifCond .le off, 3)) (ht : (pc : Int) + off = (tgt : Int)) (ha : zR a) (kt : a ≤ 0 → V G X Th (tgt) lv (st)) (kf : ¬ (a ≤ 0) → V G X Th (pc + 3) lv (st)) : V G X Th (pc) lv (.int (zI a) :: st) := by
  obtain ⟨p, l, e, R, s, m, args, below, meth, c, nc, ns, Q⟩ := X
  obtain ⟨hx, hb, hml, hown, hts, hK, hR, hcc, hss, -⟩ := C
  intro H locs ls h1 h2 h3 h4 h5
  exact lv_if_le hx hb hd ht (fun q => kt ((zI_le ha z0).mp q) H locs ls h1 h2 h3 h4 h5) (fun q => kf (fun z => q ((zI_le ha z0).mpr z)) H locs ls h1 h2 h3 h4 h5)

theorem zi_ne (b : Bool) : zi b = 0 ↔ b = false := by cases b <;> decide
theorem zi_R (b : Bool) : zR (zi b) := by cases b <;> (unfold zR zi; decide)

theorem v_ifz_eq {G : GT} {X : CX} {Th : TH} {pc : Nat} {lv : List (Nat × Value)} {st : List Value} {cc : ByteArray} {nL : Nat} {own : String} {rm : Room} {l0 : Launch} (C : CT G l0 X cc nL own rm) {b : Bool} {off : Int} {tgt : Nat} (hd : decode cc pc = .ok (.ifCond .eq off, 3)) (ht : (pc : Int) + off = (tgt : Int)) (kt : b = false → V G X Th (tgt) lv (st)) (kf : b = true → V G X Th (pc + 3) lv (st)) : V G X Th (pc) lv (.int (zI (zi b)) :: st) := by
  obtain ⟨p, l, e, R, s, m, args, below, meth, c, nc, ns, Q⟩ := X
  obtain ⟨hx, hb, hml, hown, hts, hK, hR, hcc, hss, -⟩ := C
  intro H locs ls h1 h2 h3 h4 h5
  refine lv_if_eq hx hb hd ht (fun q => kt ((zi_ne b).mp ((zI_eq (zi_R b) z0).mp q)) H locs ls h1 h2 h3 h4 h5) (fun q => kf ?_ H locs ls h1 h2 h3 h4 h5)
  cases b with
  | true => rfl
  | false => exact absurd rfl q

theorem v_ifz_ne {G : GT} {X : CX} {Th : TH} {pc : Nat} {lv : List (Nat × Value)} {st : List Value} {cc : ByteArray} {nL : Nat} {own : String} {rm : Room} {l0 : Launch} (C : CT G l0 X cc nL own rm) {b : Bool} {off : Int} {tgt : Nat} (hd : decode cc pc = .ok (.ifCond .ne off, 3)) (ht : (pc : Int) + off = (tgt : Int)) (kt : b = true → V G X Th (tgt) lv (st)) (kf : b = false → V G X Th (pc + 3) lv (st)) : V G X Th (pc) lv (.int (zI (zi b)) :: st) := by
  obtain ⟨p, l, e, R, s, m, args, below, meth, c, nc, ns, Q⟩ := X
  obtain ⟨hx, hb, hml, hown, hts, hK, hR, hcc, hss, -⟩ := C
  intro H locs ls h1 h2 h3 h4 h5
  refine lv_if_ne hx hb hd ht (fun q => kt ?_ H locs ls h1 h2 h3 h4 h5) (fun q => kf ?_ H locs ls h1 h2 h3 h4 h5)
  · cases b with
    | true => rfl
    | false => exact absurd rfl q
  · cases b with
    | false => rfl
    | true => exact absurd q (by decide)

theorem v_tin {G : GT} {X : CX} {Th : TH} {pc : Nat} {lv : List (Nat × Value)} {st : List Value} {cc : ByteArray} {nL : Nat} {own : String} {rm : Room} {l0 : Launch} (C : CT G l0 X cc nL own rm) {a dflt lo hi off : Int} {offs : Array Int} {len tgt : Nat} (hd : decode cc pc = .ok (.tableswitch dflt lo hi offs, len)) (hr : zR a) (v : Int) (h : a = v) (hl : lo ≤ v) (hh : v ≤ hi) (ho : offs[(v - lo).toNat]? = some off) (ht : (pc : Int) + off = (tgt : Int)) (k : V G X Th (tgt) lv (st)) : V G X Th (pc) lv (.int (zI a) :: st) := by
  obtain ⟨p, l, e, R, s, m, args, below, meth, c, nc, ns, Q⟩ := X
  obtain ⟨hx, hb, hml, hown, hts, hK, hR, hcc, hss, -⟩ := C
  intro H locs ls h1 h2 h3 h4 h5
  subst h
  exact lv_tableIn hx hb hd (by rw [zI_toInt hr]; omega) (by rw [zI_toInt hr]; omega) (by rw [zI_toInt hr]; exact ho) ht (k H locs ls h1 h2 h3 h4 h5)

theorem v_tout {G : GT} {X : CX} {Th : TH} {pc : Nat} {lv : List (Nat × Value)} {st : List Value} {cc : ByteArray} {nL : Nat} {own : String} {rm : Room} {l0 : Launch} (C : CT G l0 X cc nL own rm) {a dflt lo hi : Int} {offs : Array Int} {len tgt : Nat} (hd : decode cc pc = .ok (.tableswitch dflt lo hi offs, len)) (hr : zR a) (h : a < lo ∨ hi < a) (ht : (pc : Int) + dflt = (tgt : Int)) (k : V G X Th (tgt) lv (st)) : V G X Th (pc) lv (.int (zI a) :: st) := by
  obtain ⟨p, l, e, R, s, m, args, below, meth, c, nc, ns, Q⟩ := X
  obtain ⟨hx, hb, hml, hown, hts, hK, hR, hcc, hss, -⟩ := C
  intro H locs ls h1 h2 h3 h4 h5
  exact lv_tableOut hx hb hd (by rw [zI_toInt hr]; exact h) ht (k H locs ls h1 h2 h3 h4 h5)

theorem v_look {G : GT} {X : CX} {Th : TH} {pc : Nat} {lv : List (Nat × Value)} {st : List Value} {cc : ByteArray} {nL : Nat} {own : String} {rm : Room} {l0 : Launch} (C : CT G l0 X cc nL own rm) {a dflt off : Int} {ps : Array (Int × Int)} {len tgt : Nat} (hd : decode cc pc = .ok (.lookupswitch dflt ps, len)) (hr : zR a) (hp : (ps.toList.zip (ps.toList.drop 1)).all (fun (a, next) => a.1 < next.1) = true) (ho : Op.lookupswitch.offset ps.toList dflt a = off) (ht : (pc : Int) + off = (tgt : Int)) (k : V G X Th (tgt) lv (st)) : V G X Th (pc) lv (.int (zI a) :: st) := by
  obtain ⟨p, l, e, R, s, m, args, below, meth, c, nc, ns, Q⟩ := X
  obtain ⟨hx, hb, hml, hown, hts, hK, hR, hcc, hss, -⟩ := C
  intro H locs ls h1 h2 h3 h4 h5
  exact lv_lookup hx hb hd hp (by rw [zI_toInt hr]; exact ho) ht (k H locs ls h1 h2 h3 h4 h5)

theorem v_sub {G : GT} {X : CX} {Th : TH} {pc : Nat} {lv lv' : List (Nat × Value)} {st : List Value} (ks : List Nat) (h : lv_pick lv ks = lv') (k : V G X Th pc lv' st) : V G X Th pc lv st := by
  obtain ⟨p, l, e, R, s, m, args, below, meth, c, nc, ns, Q⟩ := X
  intro H locs ls h1 h2 h3 h4 h5
  exact k H locs ls h1 h2 h3 h4 (lv_sub h5 ks h)
theorem i_X0 : ∀ w ∈ u_ws RX0 TX0 4, w ∈ lw_g := fun w h => List.mem_filter.mpr ((by decide +kernel : ∀ w ∈ u_ws RX0 TX0 4, w ∈ lw_tbl ∧ goodWord w = true) w h)
theorem i_X1 : ∀ w ∈ u_ws RX1 TX1 3, w ∈ lw_g := fun w h => List.mem_filter.mpr ((by decide +kernel : ∀ w ∈ u_ws RX1 TX1 3, w ∈ lw_tbl ∧ goodWord w = true) w h)
theorem i_X2 : ∀ w ∈ u_ws RX2 TX2 5, w ∈ lw_g := fun w h => List.mem_filter.mpr ((by decide +kernel : ∀ w ∈ u_ws RX2 TX2 5, w ∈ lw_tbl ∧ goodWord w = true) w h)
theorem i_X3 : ∀ w ∈ u_ws RX3 TX3 16, w ∈ lw_g := fun w h => List.mem_filter.mpr ((by decide +kernel : ∀ w ∈ u_ws RX3 TX3 16, w ∈ lw_tbl ∧ goodWord w = true) w h)
theorem i_X4 : ∀ w ∈ u_ws RX4 TX4 6, w ∈ lw_g := fun w h => List.mem_filter.mpr ((by decide +kernel : ∀ w ∈ u_ws RX4 TX4 6, w ∈ lw_tbl ∧ goodWord w = true) w h)
theorem i_X5 : ∀ w ∈ u_ws RX5 TX5 2, w ∈ lw_g := fun w h => List.mem_filter.mpr ((by decide +kernel : ∀ w ∈ u_ws RX5 TX5 2, w ∈ lw_tbl ∧ goodWord w = true) w h)
theorem i_X6 : ∀ w ∈ u_ws RX6 TX6 3, w ∈ lw_g := fun w h => List.mem_filter.mpr ((by decide +kernel : ∀ w ∈ u_ws RX6 TX6 3, w ∈ lw_tbl ∧ goodWord w = true) w h)
theorem i_X7 : ∀ w ∈ u_ws RX7 TX7 3, w ∈ lw_g := fun w h => List.mem_filter.mpr ((by decide +kernel : ∀ w ∈ u_ws RX7 TX7 3, w ∈ lw_tbl ∧ goodWord w = true) w h)
theorem i_X8 : ∀ w ∈ u_ws RX8 TX8 12, w ∈ lw_g := fun w h => List.mem_filter.mpr ((by decide +kernel : ∀ w ∈ u_ws RX8 TX8 12, w ∈ lw_tbl ∧ goodWord w = true) w h)
theorem i_X9 : ∀ w ∈ u_ws RX9 TX9 38, w ∈ lw_g := fun w h => List.mem_filter.mpr ((by decide +kernel : ∀ w ∈ u_ws RX9 TX9 38, w ∈ lw_tbl ∧ goodWord w = true) w h)
/-- what a kind of object is, for the rows: its name, its slots, their types -/
def KX (ci : Nat) (R : String) (T : u_T) (N : Nat) (ty : Nat → FieldType) : Prop := vwCl[ci]? = some (R, T, N) ∧ (∀ w ∈ u_ws R T N, w ∈ lw_g) ∧ (∀ k, k < N → parseFieldDescriptor (T k).2.2.1 = some (ty k)) ∧ (∀ a, a < N → ∀ b, b < N → a ≠ b → (T a).2.1 ≠ (T b).2.1) ∧ (kdT ci).length = N ∧ ci < 10

theorem kX0 : KX 0 RX0 TX0 4 tyX0 := ⟨rfl, i_X0, tyX0_ok, nmX0, rfl, by decide⟩
theorem kX1 : KX 1 RX1 TX1 3 tyX1 := ⟨rfl, i_X1, tyX1_ok, nmX1, rfl, by decide⟩
theorem kX2 : KX 2 RX2 TX2 5 tyX2 := ⟨rfl, i_X2, tyX2_ok, nmX2, rfl, by decide⟩
theorem kX3 : KX 3 RX3 TX3 16 tyX3 := ⟨rfl, i_X3, tyX3_ok, nmX3, rfl, by decide⟩
theorem kX4 : KX 4 RX4 TX4 6 tyX4 := ⟨rfl, i_X4, tyX4_ok, nmX4, rfl, by decide⟩
theorem kX5 : KX 5 RX5 TX5 2 tyX5 := ⟨rfl, i_X5, tyX5_ok, nmX5, rfl, by decide⟩
theorem kX6 : KX 6 RX6 TX6 3 tyX6 := ⟨rfl, i_X6, tyX6_ok, nmX6, rfl, by decide⟩
theorem kX7 : KX 7 RX7 TX7 3 tyX7 := ⟨rfl, i_X7, tyX7_ok, nmX7, rfl, by decide⟩
theorem kX8 : KX 8 RX8 TX8 12 tyX8 := ⟨rfl, i_X8, tyX8_ok, nmX8, rfl, by decide⟩
theorem kX9 : KX 9 RX9 TX9 38 tyX9 := ⟨rfl, i_X9, tyX9_ok, nmX9, rfl, by decide⟩
theorem v_getI {G : GT} {X : CX} {Th : TH} {pc : Nat} {lv : List (Nat × Value)} {st : List Value} {cc : ByteArray} {nL : Nat} {own : String} {rm : Room} {l0 : Launch} (C : CT G l0 X cc nL own rm) {ci : Nat} {Rc : String} {T : u_T} {N : Nat} {ty : Nat → FieldType} (kx : KX ci Rc T N ty) {o index : Nat} (j : Nat) (ho : clsO o = ci) (hk : (kdT ci)[j]? = some 0) (hw : Cond.fieldLink own index Rc (T j).2.1 (T j).2.2.1 ∈ lw_g) (hT : (T j).1 = Rc) (hd : decode cc pc = .ok (.getfield index, 3)) (k : V G X Th (pc + 3) lv (.int (zI (Th o j 0)) :: st)) : V G X Th (pc) lv (.ref (gad G o) :: st) := by
  obtain ⟨p, l, e, R, s, m, args, below, meth, c, nc, ns, Q⟩ := X
  obtain ⟨hx, hb, hml, hown, hts, hK, hR, hcc, hss, -⟩ := C
  intro H locs ls h1 h2 h3 h4 h5
  obtain ⟨kc, ki, -, -, kn, k10⟩ := kx
  subst ho
  obtain ⟨q, hq70, hq⟩ := wsT_obj o (clsO_lt rfl k10)
  have hN : j < N := by rw [← kn]; exact (List.getElem?_eq_some_iff.mp hk).1
  exact va_get hx hb hts ki hown hK h2 q (ws_at G Th hq) kc j hN (hts _ hw) (fun x h => by rw [← hT]; exact h) (flds_get G Th o hk) hd (k H locs ls h1 h2 h3 h4 h5)

theorem v_getA {G : GT} {X : CX} {Th : TH} {pc : Nat} {lv : List (Nat × Value)} {st : List Value} {cc : ByteArray} {nL : Nat} {own : String} {rm : Room} {l0 : Launch} (C : CT G l0 X cc nL own rm) {ci : Nat} {Rc : String} {T : u_T} {N : Nat} {ty : Nat → FieldType} (kx : KX ci Rc T N ty) {o index : Nat} (j : Nat) (ho : clsO o = ci) (hk : (kdT ci)[j]? = some 1) (hw : Cond.fieldLink own index Rc (T j).2.1 (T j).2.2.1 ∈ lw_g) (hT : (T j).1 = Rc) (hd : decode cc pc = .ok (.getfield index, 3)) (k : V G X Th (pc + 3) lv (.ref (gaa G o j) :: st)) : V G X Th (pc) lv (.ref (gad G o) :: st) := by
  obtain ⟨p, l, e, R, s, m, args, below, meth, c, nc, ns, Q⟩ := X
  obtain ⟨hx, hb, hml, hown, hts, hK, hR, hcc, hss, -⟩ := C
  intro H locs ls h1 h2 h3 h4 h5
  obtain ⟨kc, ki, -, -, kn, k10⟩ := kx
  subst ho
  obtain ⟨q, hq70, hq⟩ := wsT_obj o (clsO_lt rfl k10)
  have hN : j < N := by rw [← kn]; exact (List.getElem?_eq_some_iff.mp hk).1
  exact va_get hx hb hts ki hown hK h2 q (ws_at G Th hq) kc j hN (hts _ hw) (fun x h => by rw [← hT]; exact h) (flds_get G Th o hk) hd (k H locs ls h1 h2 h3 h4 h5)

theorem v_getC {G : GT} {X : CX} {Th : TH} {pc : Nat} {lv : List (Nat × Value)} {st : List Value} {cc : ByteArray} {nL : Nat} {own : String} {rm : Room} {l0 : Launch} (C : CT G l0 X cc nL own rm) {ci : Nat} {Rc : String} {T : u_T} {N : Nat} {ty : Nat → FieldType} (kx : KX ci Rc T N ty) {o index : Nat} (j : Nat) (ho : clsO o = ci) {n : Nat} (hk : (kdT ci)[j]? = some (n + 3)) (hw : Cond.fieldLink own index Rc (T j).2.1 (T j).2.2.1 ∈ lw_g) (hT : (T j).1 = Rc) (hd : decode cc pc = .ok (.getfield index, 3)) (k : V G X Th (pc + 3) lv (.ref (gad G n) :: st)) : V G X Th (pc) lv (.ref (gad G o) :: st) := by
  obtain ⟨p, l, e, R, s, m, args, below, meth, c, nc, ns, Q⟩ := X
  obtain ⟨hx, hb, hml, hown, hts, hK, hR, hcc, hss, -⟩ := C
  intro H locs ls h1 h2 h3 h4 h5
  obtain ⟨kc, ki, -, -, kn, k10⟩ := kx
  subst ho
  obtain ⟨q, hq70, hq⟩ := wsT_obj o (clsO_lt rfl k10)
  have hN : j < N := by rw [← kn]; exact (List.getElem?_eq_some_iff.mp hk).1
  exact va_get hx hb hts ki hown hK h2 q (ws_at G Th hq) kc j hN (hts _ hw) (fun x h => by rw [← hT]; exact h) (flds_get G Th o hk) hd (k H locs ls h1 h2 h3 h4 h5)

theorem v_getL1 {G : GT} {X : CX} {Th : TH} {pc : Nat} {lv : List (Nat × Value)} {st : List Value} {cc : ByteArray} {nL : Nat} {own : String} {rm : Room} {l0 : Launch} (C : CT G l0 X cc nL own rm) {index : Nat} (hw : Cond.fieldLink own index RX8 (TX8 1).2.1 (TX8 1).2.2.1 ∈ lw_g) (hd : decode cc pc = .ok (.getfield index, 3)) (k : clsO (Th 0 1 0).toNat = 3 → V G X Th (pc + 3) lv (.ref (gad G (Th 0 1 0).toNat) :: st)) : V G X Th (pc) lv (.ref (gad G 0) :: st) := by
  obtain ⟨p, l, e, R, s, m, args, below, meth, c, nc, ns, Q⟩ := X
  obtain ⟨hx, hb, hml, hown, hts, hK, hR, hcc, hss, -⟩ := C
  intro H locs ls h1 h2 h3 h4 h5
  obtain ⟨q, hq70, hq⟩ := wsT_obj 0 (by decide)
  exact va_get hx hb hts i_X8 hown hK h2 q (ws_at G Th hq) (ci := 8) rfl 1 (by decide) (hts _ hw) (fun x h => h) (flds_get G Th 0 (j := 1) (k := 2) rfl) hd (k (lOK_cls h1).1 H locs ls h1 h2 h3 h4 h5)

theorem v_getL2 {G : GT} {X : CX} {Th : TH} {pc : Nat} {lv : List (Nat × Value)} {st : List Value} {cc : ByteArray} {nL : Nat} {own : String} {rm : Room} {l0 : Launch} (C : CT G l0 X cc nL own rm) {index : Nat} (hw : Cond.fieldLink own index RX8 (TX8 2).2.1 (TX8 2).2.2.1 ∈ lw_g) (hd : decode cc pc = .ok (.getfield index, 3)) (k : clsO (Th 0 2 0).toNat = 3 → V G X Th (pc + 3) lv (.ref (gad G (Th 0 2 0).toNat) :: st)) : V G X Th (pc) lv (.ref (gad G 0) :: st) := by
  obtain ⟨p, l, e, R, s, m, args, below, meth, c, nc, ns, Q⟩ := X
  obtain ⟨hx, hb, hml, hown, hts, hK, hR, hcc, hss, -⟩ := C
  intro H locs ls h1 h2 h3 h4 h5
  obtain ⟨q, hq70, hq⟩ := wsT_obj 0 (by decide)
  exact va_get hx hb hts i_X8 hown hK h2 q (ws_at G Th hq) (ci := 8) rfl 2 (by decide) (hts _ hw) (fun x h => h) (flds_get G Th 0 (j := 2) (k := 2) rfl) hd (k (lOK_cls h1).2 H locs ls h1 h2 h3 h4 h5)

theorem v_putI {G : GT} {X : CX} {Th : TH} {pc : Nat} {lv : List (Nat × Value)} {st : List Value} {cc : ByteArray} {nL : Nat} {own : String} {rm : Room} {l0 : Launch} (C : CT G l0 X cc nL own rm) {ci : Nat} {Rc : String} {T : u_T} {N : Nat} {ty : Nat → FieldType} (kx : KX ci Rc T N ty) {o index : Nat} (j : Nat) (ho : clsO o = ci) {v : Int} (hk : (kdT ci)[j]? = some 0) (hw : Cond.fieldLink own index Rc (T j).2.1 (T j).2.2.1 ∈ lw_g) (hT : (T j).1 = Rc) (hf : (T j).2.2.2 = false) (hty : parseFieldDescriptor (T j).2.2.1 = some .int) (hd : decode cc pc = .ok (.putfield index, 3)) (k : V G X (up Th o j 0 v) (pc + 3) lv (st)) : V G X Th (pc) lv (.int (zI v) :: .ref (gad G o) :: st) := by
  obtain ⟨p, l, e, R, s, m, args, below, meth, c, nc, ns, Q⟩ := X
  obtain ⟨hx, hb, hml, hown, hts, hK, hR, hcc, hss, -⟩ := C
  intro H locs ls h1 h2 h3 h4 h5
  obtain ⟨kc, ki, kt, km, kn, k10⟩ := kx
  subst ho
  obtain ⟨q, hq70, hq⟩ := wsT_obj o (clsO_lt rfl k10)
  have hN : j < N := by rw [← kn]; exact (List.getElem?_eq_some_iff.mp hk).1
  refine va_put hx hb hts ki ty kt km hown hK h2 h3 h4 q (ws_at G Th hq) kc j hN (hts _ hw) (fun x h => by rw [← hT]; exact h) hf (ty := .int) hty rfl rfl (by unfold flds; rw [List.length_mapIdx]; exact (List.getElem?_eq_some_iff.mp hk).1) hd (fun H1 locs1 hP hD hS => ?_)
  rw [ws_putI G Th v hq70 hq hk] at hP hD
  exact k H1 locs1 ls (lOK_up h1 hk (by decide)) hP hD hS h5

theorem ar_lt {k j : Nat} {q : Nat × Nat} (h : arT k j = some q) : q.2 ≤ 2147483647 := (arL_kd _ (arT_mem h)).2
theorem ar_at {o j : Nat} {q : Nat × Nat} (h : arT (clsO o) j = some q) : ∃ k, k < 70 ∧ wsT[k]? = some (o, j + 1) := wsT_arr _ (arT_mem h) o (arT_cls h) rfl
theorem cel_ar (G : GT) (Th : TH) {o j : Nat} {q : Nat × Nat} (h : arT (clsO o) j = some q) : cel G Th (o, j + 1) = (gaa G o j, arC G Th o j q) := by
  show (gaa G o j, arC G Th o j ((arT (clsO o) j).getD (0, 0))) = _
  rw [h]
  rfl
theorem toNat_cast {i : Int} (h : 0 ≤ i) : ((i.toNat : Nat) : Int) = i := Int.toNat_of_nonneg h

theorem v_iald {G : GT} {X : CX} {Th : TH} {pc : Nat} {lv : List (Nat × Value)} {st : List Value} {cc : ByteArray} {nL : Nat} {own : String} {rm : Room} {l0 : Launch} (C : CT G l0 X cc nL own rm) {o j : Nat} {n : Nat} {i : Int} (ha : arT (clsO o) j = some (0, n)) (hd : decode cc pc = .ok (.iaload, 1)) (h0 : 0 ≤ i) (hn : i < n) (k : V G X Th (pc + 1) lv (Value.int (zI (Th o j i)) :: st)) : V G X Th (pc) lv (.int (zI i) :: .ref (gaa G o j) :: st) := by
  obtain ⟨p, l, e, R, s, m, args, below, meth, c, nc, ns, Q⟩ := X
  obtain ⟨hx, hb, hml, hown, hts, hK, hR, hcc, hss, -⟩ := C
  intro H locs ls h1 h2 h3 h4 h5
  obtain ⟨q, hq70, hq⟩ := ar_at ha
  have hc := ws_at G Th hq
  rw [cel_ar G Th ha] at hc
  obtain ⟨z1, z2⟩ := zI_in h0 hn (ar_lt ha)
  refine va_iald hx hb hK h2 q 0 hc rfl z1 hd ?_
  have k := (k H locs ls h1 h2 h3 h4 h5)
  rw [z2]
  show W p l e R s m args below meth c H locs nc ns Q (F0 m (pc + 1) ls (Value.int (zI (Th o j ((i.toNat : Nat) : Int))) :: st))
  rw [toNat_cast h0]
  exact k

theorem v_lald {G : GT} {X : CX} {Th : TH} {pc : Nat} {lv : List (Nat × Value)} {st : List Value} {cc : ByteArray} {nL : Nat} {own : String} {rm : Room} {l0 : Launch} (C : CT G l0 X cc nL own rm) {o j : Nat} {n : Nat} {i : Int} (ha : arT (clsO o) j = some (1, n)) (hd : decode cc pc = .ok (.laload, 1)) (h0 : 0 ≤ i) (hn : i < n) (k : V G X Th (pc + 1) lv (Value.long (zJ (Th o j i)) :: st)) : V G X Th (pc) lv (.int (zI i) :: .ref (gaa G o j) :: st) := by
  obtain ⟨p, l, e, R, s, m, args, below, meth, c, nc, ns, Q⟩ := X
  obtain ⟨hx, hb, hml, hown, hts, hK, hR, hcc, hss, -⟩ := C
  intro H locs ls h1 h2 h3 h4 h5
  obtain ⟨q, hq70, hq⟩ := ar_at ha
  have hc := ws_at G Th hq
  rw [cel_ar G Th ha] at hc
  obtain ⟨z1, z2⟩ := zI_in h0 hn (ar_lt ha)
  refine va_lald hx hb hK h2 q 1 hc rfl z1 hd ?_
  have k := (k H locs ls h1 h2 h3 h4 h5)
  rw [z2]
  show W p l e R s m args below meth c H locs nc ns Q (F0 m (pc + 1) ls (Value.long (zJ (Th o j ((i.toNat : Nat) : Int))) :: st))
  rw [toNat_cast h0]
  exact k

theorem v_zald {G : GT} {X : CX} {Th : TH} {pc : Nat} {lv : List (Nat × Value)} {st : List Value} {cc : ByteArray} {nL : Nat} {own : String} {rm : Room} {l0 : Launch} (C : CT G l0 X cc nL own rm) {o j : Nat} {n : Nat} {i : Int} (ha : arT (clsO o) j = some (2, n)) (hd : decode cc pc = .ok (.baload, 1)) (h0 : 0 ≤ i) (hn : i < n) (k : V G X Th (pc + 1) lv (Value.int (zI (Th o j i)) :: st)) : V G X Th (pc) lv (.int (zI i) :: .ref (gaa G o j) :: st) := by
  obtain ⟨p, l, e, R, s, m, args, below, meth, c, nc, ns, Q⟩ := X
  obtain ⟨hx, hb, hml, hown, hts, hK, hR, hcc, hss, -⟩ := C
  intro H locs ls h1 h2 h3 h4 h5
  obtain ⟨q, hq70, hq⟩ := ar_at ha
  have hc := ws_at G Th hq
  rw [cel_ar G Th ha] at hc
  obtain ⟨z1, z2⟩ := zI_in h0 hn (ar_lt ha)
  refine va_zald hx hb hK h2 q 2 hc rfl z1 hd ?_
  have k := (k H locs ls h1 h2 h3 h4 h5)
  rw [z2]
  show W p l e R s m args below meth c H locs nc ns Q (F0 m (pc + 1) ls (Value.int (zI (Th o j ((i.toNat : Nat) : Int))) :: st))
  rw [toNat_cast h0]
  exact k

theorem v_aald {G : GT} {X : CX} {Th : TH} {pc : Nat} {lv : List (Nat × Value)} {st : List Value} {cc : ByteArray} {nL : Nat} {own : String} {rm : Room} {l0 : Launch} (C : CT G l0 X cc nL own rm) {i : Int} (hd : decode cc pc = .ok (.aaload, 1)) (h0 : 0 ≤ i) (hn : i < 2) (k : clsO (6 + i.toNat) = 2 → V G X Th (pc + 1) lv (.ref (gad G (6 + i.toNat)) :: st)) : V G X Th (pc) lv (.int (zI i) :: .ref (gaa G 0 5) :: st) := by
  obtain ⟨p, l, e, R, s, m, args, below, meth, c, nc, ns, Q⟩ := X
  obtain ⟨hx, hb, hml, hown, hts, hK, hR, hcc, hss, -⟩ := C
  intro H locs ls h1 h2 h3 h4 h5
  have ha : arT (clsO 0) 5 = some (3, 2) := rfl
  obtain ⟨q, hq70, hq⟩ := ar_at ha
  have hc := ws_at G Th hq
  rw [cel_ar G Th ha] at hc
  obtain ⟨z1, z2⟩ := zI_in (n := 2) h0 hn (by decide)
  refine va_aldq hx hb hK h2 q 3 hc rfl z1 hd ?_
  have hcl : clsO (6 + i.toNat) = 2 := by
    rcases (show i = 0 ∨ i = 1 by omega) with rfl | rfl <;> rfl
  have k := k hcl H locs ls h1 h2 h3 h4 h5
  rw [z2]
  exact k

theorem v_iast {G : GT} {X : CX} {Th : TH} {pc : Nat} {lv : List (Nat × Value)} {st : List Value} {cc : ByteArray} {nL : Nat} {own : String} {rm : Room} {l0 : Launch} (C : CT G l0 X cc nL own rm) {o j : Nat} {n : Nat} {i v : Int} (ha : arT (clsO o) j = some (0, n)) (hd : decode cc pc = .ok (.iastore, 1)) (h0 : 0 ≤ i) (hn : i < n) (k : V G X (up Th o j i v) (pc + 1) lv (st)) : V G X Th (pc) lv (.int (zI v) :: .int (zI i) :: .ref (gaa G o j) :: st) := by
  obtain ⟨p, l, e, R, s, m, args, below, meth, c, nc, ns, Q⟩ := X
  obtain ⟨hx, hb, hml, hown, hts, hK, hR, hcc, hss, -⟩ := C
  intro H locs ls h1 h2 h3 h4 h5
  obtain ⟨q, hq70, hq⟩ := ar_at ha
  have hc := ws_at G Th hq
  rw [cel_ar G Th ha] at hc
  obtain ⟨z1, z2⟩ := zI_in h0 hn (ar_lt ha)
  refine va_iast hx hb hK h2 h3 h4 q 0 hc rfl z1 hd (fun H1 locs1 hP hD hS => ?_)
  rw [z2] at hP hD
  have he : (Sum.inl (gcA G 0, n, .inl (upd (fun x => zI (Th o j x)) i.toNat (zI v)))) = arC G (up Th o j i v) o j (0, n) := by
    show _ = Sum.inl _
    refine congrArg (fun f => (Sum.inl (gcA G 0, n, .inl f) : va_E)) (funext fun x => ?_)
    unfold upd
    by_cases hx9 : x = i.toNat
    · subst hx9
      rw [if_pos rfl, toNat_cast h0, up_eq]
    · rw [if_neg hx9, up_ne (fun z => hx9 (by have := z.2.2; omega))]
  rw [he] at hP hD
  rw [ws_putA G Th (up Th o j i v) hq70 hq ha (fun o' j' i' hn' => up_ne (fun z => hn' ⟨z.1, z.2.1⟩))] at hP hD
  exact k H1 locs1 ls (lOK_up h1 (arL_kd _ (arT_mem ha)).1 (by decide)) hP hD hS h5

theorem v_last {G : GT} {X : CX} {Th : TH} {pc : Nat} {lv : List (Nat × Value)} {st : List Value} {cc : ByteArray} {nL : Nat} {own : String} {rm : Room} {l0 : Launch} (C : CT G l0 X cc nL own rm) {o j : Nat} {n : Nat} {i v : Int} (ha : arT (clsO o) j = some (1, n)) (hd : decode cc pc = .ok (.lastore, 1)) (h0 : 0 ≤ i) (hn : i < n) (k : V G X (up Th o j i v) (pc + 1) lv (st)) : V G X Th (pc) lv (.long (zJ v) :: .int (zI i) :: .ref (gaa G o j) :: st) := by
  obtain ⟨p, l, e, R, s, m, args, below, meth, c, nc, ns, Q⟩ := X
  obtain ⟨hx, hb, hml, hown, hts, hK, hR, hcc, hss, -⟩ := C
  intro H locs ls h1 h2 h3 h4 h5
  obtain ⟨q, hq70, hq⟩ := ar_at ha
  have hc := ws_at G Th hq
  rw [cel_ar G Th ha] at hc
  obtain ⟨z1, z2⟩ := zI_in h0 hn (ar_lt ha)
  refine va_last hx hb hK h2 h3 h4 q 1 hc rfl z1 hd (fun H1 locs1 hP hD hS => ?_)
  rw [z2] at hP hD
  have he : (Sum.inl (gcA G 1, n, .inr (.inl (vp_updL (fun x => zJ (Th o j x)) i.toNat (zJ v))))) = arC G (up Th o j i v) o j (1, n) := by
    show _ = Sum.inl _
    refine congrArg (fun f => (Sum.inl (gcA G 1, n, .inr (.inl f)) : va_E)) (funext fun x => ?_)
    unfold vp_updL
    by_cases hx9 : x = i.toNat
    · subst hx9
      rw [if_pos rfl, toNat_cast h0, up_eq]
    · rw [if_neg hx9, up_ne (fun z => hx9 (by have := z.2.2; omega))]
  rw [he] at hP hD
  rw [ws_putA G Th (up Th o j i v) hq70 hq ha (fun o' j' i' hn' => up_ne (fun z => hn' ⟨z.1, z.2.1⟩))] at hP hD
  exact k H1 locs1 ls (lOK_up h1 (arL_kd _ (arT_mem ha)).1 (by decide)) hP hD hS h5

theorem v_zast {G : GT} {X : CX} {Th : TH} {pc : Nat} {lv : List (Nat × Value)} {st : List Value} {cc : ByteArray} {nL : Nat} {own : String} {rm : Room} {l0 : Launch} (C : CT G l0 X cc nL own rm) {o j : Nat} {n : Nat} {i v : Int} (ha : arT (clsO o) j = some (2, n)) (hz : vp_nar .boolean (zI v) = zI v) (hd : decode cc pc = .ok (.bastore, 1)) (h0 : 0 ≤ i) (hn : i < n) (k : V G X (up Th o j i v) (pc + 1) lv (st)) : V G X Th (pc) lv (.int (zI v) :: .int (zI i) :: .ref (gaa G o j) :: st) := by
  obtain ⟨p, l, e, R, s, m, args, below, meth, c, nc, ns, Q⟩ := X
  obtain ⟨hx, hb, hml, hown, hts, hK, hR, hcc, hss, -⟩ := C
  intro H locs ls h1 h2 h3 h4 h5
  obtain ⟨q, hq70, hq⟩ := ar_at ha
  have hc := ws_at G Th hq
  rw [cel_ar G Th ha] at hc
  obtain ⟨z1, z2⟩ := zI_in h0 hn (ar_lt ha)
  refine va_zast hx hb hK h2 h3 h4 q 2 hc rfl z1 hd (fun H1 locs1 hP hD hS => ?_)
  rw [z2] at hP hD
  have he : (Sum.inl (gcA G 2, n, .inl (upd (fun x => zI (Th o j x)) i.toNat (vp_nar .boolean (zI v))))) = arC G (up Th o j i v) o j (2, n) := by
    show _ = Sum.inl _
    refine congrArg (fun f => (Sum.inl (gcA G 2, n, .inl f) : va_E)) (funext fun x => ?_)
    unfold upd
    by_cases hx9 : x = i.toNat
    · subst hx9
      rw [if_pos rfl, toNat_cast h0, up_eq]
      exact hz
    · rw [if_neg hx9, up_ne (fun z => hx9 (by have := z.2.2; omega))]
  rw [he] at hP hD
  rw [ws_putA G Th (up Th o j i v) hq70 hq ha (fun o' j' i' hn' => up_ne (fun z => hn' ⟨z.1, z.2.1⟩))] at hP hD
  exact k H1 locs1 ls (lOK_up h1 (arL_kd _ (arT_mem ha)).1 (by decide)) hP hD hS h5

theorem v_alen {G : GT} {X : CX} {Th : TH} {pc : Nat} {lv : List (Nat × Value)} {st : List Value} {cc : ByteArray} {nL : Nat} {own : String} {rm : Room} {l0 : Launch} (C : CT G l0 X cc nL own rm) {o j t n : Nat} (ha : arT (clsO o) j = some (t, n)) (ht : t < 3) (hd : decode cc pc = .ok (.arraylength, 1)) (k : V G X Th (pc + 1) lv (.int (zI n) :: st)) : V G X Th (pc) lv (.ref (gaa G o j) :: st) := by
  obtain ⟨p, l, e, R, s, m, args, below, meth, c, nc, ns, Q⟩ := X
  obtain ⟨hx, hb, hml, hown, hts, hK, hR, hcc, hss, -⟩ := C
  intro H locs ls h1 h2 h3 h4 h5
  obtain ⟨q, hq70, hq⟩ := ar_at ha
  have hc := ws_at G Th hq
  rw [cel_ar G Th ha] at hc
  rcases (show t = 0 ∨ t = 1 ∨ t = 2 by omega) with rfl | rfl | rfl
  · exact va_alen hx hb hK h2 q 0 hc (ty := .int) rfl rfl hd (k H locs ls h1 h2 h3 h4 h5)
  · exact va_alen hx hb hK h2 q 1 hc (ty := .long) rfl rfl hd (k H locs ls h1 h2 h3 h4 h5)
  · exact va_alen hx hb hK h2 q 2 hc (ty := .boolean) rfl rfl hd (k H locs ls h1 h2 h3 h4 h5)
end
section
/-! what a method's contract says over the world; its entry, its ends, its calls -/
def Wd (G : GT) (T : TH) (U : State) : Prop := lOK T ∧ va_P (gD G) vwCl (wsG G T) U.heap ∧ va_K (gD G) vwCl (tysG G) U ∧ va_D (gA G) (wsG G T)
def QI (G : GT) (q : Int → TH → Prop) : Array Value → State → Outcome → State → Prop := va_Qi (S := TH) (fun r T => ∃ z, r = zI z ∧ q z T) (Wd G) (gA G)
def QZ (G : GT) (q : Bool → TH → Prop) : Array Value → State → Outcome → State → Prop := va_Qi (S := TH) (fun r T => ∃ z, r = zI (zi z) ∧ q z T) (Wd G) (gA G)
def QL (G : GT) (q : Int → TH → Prop) : Array Value → State → Outcome → State → Prop := va_Ql (S := TH) (fun r T => ∃ z, r = zJ z ∧ q z T) (Wd G) (gA G)
def QV (G : GT) (q : TH → Prop) : Array Value → State → Outcome → State → Prop := va_Qv (S := TH) q (Wd G) (gA G)
def wM (y : MethodName) (bytes : ByteArray) (maxL : Nat) (ret : Option FieldType) : List Cond := Cond.code y bytes maxL ret :: lw_g
def rM (f n : Nat) : Room := { frames := f, cells := 0, slots := 0, locals := n }
def MT (G : GT) (l : Launch) (y : MethodName) (bytes : ByteArray) (maxL : Nat) (ret : Option FieldType) (f n : Nat) (av : List Value) (T : TH) (Qc : Array Value → State → Outcome → State → Prop) : Prop := Met l y (wM y bytes maxL ret) (rM f n) (va_Pc av (Wd G T)) Qc 0 0 (gA G)
def EN (G : GT) (X : CX) (ret : Option FieldType) (Qc : Array Value → State → Outcome → State → Prop) : Prop := match X with
  | (_, _, _, _, s, _, args, below, meth, _, nc, ns, Q) => meth.sig.returnType = ret ∧ meth.locks = false ∧ nc = 0 ∧ ns = 0 ∧ Q = MQ below Qc args s 0 0 (gA G)
theorem mt_of (G : GT) (l : Launch) {y : MethodName} {bytes : ByteArray} {maxL : Nat} {ret : Option FieldType} {f n : Nat} {av : List Value} {T : TH} {Qc : Array Value → State → Outcome → State → Prop} (hy : plainName y.cls = true) (hav : (lg_sl av).length ≤ maxL)
    (body : ∀ X : CX, CT G l X bytes maxL y.cls (rM f n) → EN G X ret Qc → V G X T 0 (lv_args 0 av) []) : MT G l y bytes maxL ret f n av T Qc := by
  refine Met.ofW (cc := bytes) (maxL := maxL) (ret := ret) hy rfl ?_
  intro p e s m args below meth c s₁ B hml hv
  obtain ⟨rfl, w1, w2, w3, w4⟩ := hv
  have hts := atoms_spec (ws := wM y bytes maxL ret) B.pre
  have hown : s.vm.findClass y.cls = some m.cls := findClass_of_methodNamed B.named
  have hl := lv_entry av (n := maxL) hav
  rw [lg_entry_eq]
  refine body (p, l, e, (headSpec (wM y bytes maxL ret) (rM f n)).room, s, m, av.toArray, below, meth, c, 0, 0, MQ below Qc av.toArray s 0 0 (gA G)) ⟨B.exec, B.bytes, hml, hown, fun w hw => hts w (List.mem_cons_of_mem _ hw), w3, rfl, Nat.zero_le _, Nat.zero_le _, rfl⟩ ⟨B.returns, B.notSynchronized, rfl, rfl, rfl⟩ s.heap [] _ w1 w2 w4 va_S.rf ?_
  rw [hml]
  exact hl
theorem v_iret {G : GT} {X : CX} {Th : TH} {pc : Nat} {lv : List (Nat × Value)} {cc : ByteArray} {nL : Nat} {own : String} {rm : Room} {l0 : Launch} (C : CT G l0 X cc nL own rm) {q : Int → TH → Prop} (E : EN G X (some .int) (QI G q)) {z : Int} (hd : decode cc pc = .ok (.ireturn, 1)) (hq : q z Th) : V G X Th pc lv [.int (zI z)] := by
  obtain ⟨p, l, e, R, s, m, args, below, meth, c, nc, ns, Q⟩ := X
  obtain ⟨hx, hb, hml, hown, hts, hK, hR, hcc, hss, -⟩ := C
  obtain ⟨hr, hlk, rfl, rfl, rfl⟩ := E
  intro H locs ls h1 h2 h3 h4 h5
  exact W.iret (v := zI z) hx hb hr (fun t ht hW => ⟨⟨zI z, Th, rfl, ⟨z, rfl, hq⟩, h1, by rw [ht]; exact h2, va_K.moved hW.alike hK, h3⟩, h4.F ht⟩) h4.2.2 hd hlk
theorem v_zret {G : GT} {X : CX} {Th : TH} {pc : Nat} {lv : List (Nat × Value)} {cc : ByteArray} {nL : Nat} {own : String} {rm : Room} {l0 : Launch} (C : CT G l0 X cc nL own rm) {q : Bool → TH → Prop} (E : EN G X (some .boolean) (QZ G q)) {z : Bool} (hd : decode cc pc = .ok (.ireturn, 1)) (hq : q z Th) : V G X Th pc lv [.int (zI (zi z))] := by
  obtain ⟨p, l, e, R, s, m, args, below, meth, c, nc, ns, Q⟩ := X
  obtain ⟨hx, hb, hml, hown, hts, hK, hR, hcc, hss, -⟩ := C
  obtain ⟨hr, hlk, rfl, rfl, rfl⟩ := E
  intro H locs ls h1 h2 h3 h4 h5
  exact W.zret (v := zI (zi z)) (ty := .boolean) hx hb hr (by cases z <;> rfl) (fun t ht hW => ⟨⟨zI (zi z), Th, rfl, ⟨z, rfl, hq⟩, h1, by rw [ht]; exact h2, va_K.moved hW.alike hK, h3⟩, h4.F ht⟩) h4.2.2 hd hlk
theorem v_lret {G : GT} {X : CX} {Th : TH} {pc : Nat} {lv : List (Nat × Value)} {cc : ByteArray} {nL : Nat} {own : String} {rm : Room} {l0 : Launch} (C : CT G l0 X cc nL own rm) {q : Int → TH → Prop} (E : EN G X (some .long) (QL G q)) {z : Int} (hd : decode cc pc = .ok (.lreturn, 1)) (hq : q z Th) : V G X Th pc lv [.long (zJ z)] := by
  obtain ⟨p, l, e, R, s, m, args, below, meth, c, nc, ns, Q⟩ := X
  obtain ⟨hx, hb, hml, hown, hts, hK, hR, hcc, hss, -⟩ := C
  obtain ⟨hr, hlk, rfl, rfl, rfl⟩ := E
  intro H locs ls h1 h2 h3 h4 h5
  exact W.lret (v := zJ z) hx hb hr (fun t ht hW => ⟨⟨zJ z, Th, rfl, ⟨z, rfl, hq⟩, h1, by rw [ht]; exact h2, va_K.moved hW.alike hK, h3⟩, h4.F ht⟩) h4.2.2 hd hlk
theorem v_vret {G : GT} {X : CX} {Th : TH} {pc : Nat} {lv : List (Nat × Value)} {cc : ByteArray} {nL : Nat} {own : String} {rm : Room} {l0 : Launch} (C : CT G l0 X cc nL own rm) {q : TH → Prop} (E : EN G X none (QV G q)) (hd : decode cc pc = .ok (.return_, 1)) (hq : q Th) : V G X Th pc lv [] := by
  obtain ⟨p, l, e, R, s, m, args, below, meth, c, nc, ns, Q⟩ := X
  obtain ⟨hx, hb, hml, hown, hts, hK, hR, hcc, hss, -⟩ := C
  obtain ⟨hr, hlk, rfl, rfl, rfl⟩ := E
  intro H locs ls h1 h2 h3 h4 h5
  exact W.vret hx hb hr (fun t ht hW => ⟨⟨Th, rfl, hq, h1, by rw [ht]; exact h2, va_K.moved hW.alike hK, h3⟩, h4.F ht⟩) h4.2.2 hd hlk
/-- what the tables say of a method that is called on an object; of a static one -/
def MV (y : MethodName) (bytes : ByteArray) (maxL : Nat) (ret : Option FieldType) (n : Nat) : Prop := Cond.instanceMethod y ∈ lw_g ∧ Cond.selects y.cls y y ∈ lw_g ∧ Cond.initialized y.cls ∈ lw_g ∧ Cond.code y bytes maxL ret ∈ lw_g ∧ (y.cls ≠ "java/lang/invoke/MethodHandle" ∧ y.cls ≠ "java/lang/invoke/VarHandle" ∧ (parseMethodDescriptor y.desc).map (fun d => d.parameters.length) = some n)
def MS (y : MethodName) (bytes : ByteArray) (maxL : Nat) (ret : Option FieldType) (n : Nat) : Prop := Cond.static y ∈ lw_g ∧ Cond.initialized y.cls ∈ lw_g ∧ Cond.code y bytes maxL ret ∈ lw_g ∧ (y.cls ≠ "java/lang/invoke/MethodHandle" ∧ y.cls ≠ "java/lang/invoke/VarHandle" ∧ (parseMethodDescriptor y.desc).map (fun d => d.parameters.length) = some n)
theorem Wd_blind (G : GT) (T : TH) (av : List Value) : FrameBlind (va_Pc av (Wd G T)) := fun a U g mk q => by
  obtain ⟨q0, q1, qP, qK, qD⟩ := q
  exact ⟨q0, q1, qP, va_K.moved (u := U) (U := U.calling g mk a) (Vm.Alike.refl U.vm) qK, qD⟩
theorem v_runV {G : GT} {X : CX} {Th : TH} {pc : Nat} {lv : List (Nat × Value)} {st st0 : List Value} {cc : ByteArray} {nL : Nat} {own : String} {f0 n0 : Nat} {rm : Room} {l0 : Launch} (C : CT G l0 X cc nL own rm) {y : MethodName} {bytes : ByteArray} {maxL : Nat} {ret : Option FieldType} {n index : Nat} {As : List Value} {Qc : Array Value → State → Outcome → State → Prop} {o ci : Nat} {Tb : u_T} {N : Nat} {ty : Nat → FieldType} (kx : KX ci y.cls Tb N ty) (ho : clsO o = ci)
    (hM : MT G l0 y bytes maxL ret f0 n0 (.ref (gad G o) :: As) Th Qc) (mv : MV y bytes maxL ret n) (hw : Cond.methodLink own index y ∈ lw_g) (hr : f0 + 1 ≤ rm.frames ∧ 8 + (maxL + 11) + n0 ≤ rm.locals) (hn : As.length = n) (hst : st0 = As.reverse ++ .ref (gad G o) :: st) (hW : (st.map fun v => v.category).sum ≤ 8) (hd : decode cc pc = .ok (.invokevirtual index, 3)) :
    match X with | (p, l, e, R, s, m, args, below, meth, c, nc, ns, Q) => ∀ (H : Heap) (locs : List Loc) (ls : Array Slot), lOK Th → va_P (gD G) vwCl (wsG G Th) H → va_D (gA G) (wsG G Th) → lv_has ls c.maxLocals lv → va_Run p l e R s m args below meth c H locs nc ns 0 0 (F0 m pc ls st0) st (Qc (Value.ref (gad G o) :: As).toArray) (gA G) := by
  obtain ⟨p, l, e, R, s, m, args, below, meth, c, nc, ns, Q⟩ := X
  obtain ⟨hx, hb, hml, hown, hts, hK, hR, hcc, hss, hl0⟩ := C
  intro H locs ls h1 h2 h3 h5
  subst hl0 hR
  obtain ⟨m1, m2, m3, m4, m5⟩ := mv
  obtain ⟨kc, ki, -, -, kn, k10⟩ := kx
  subst ho
  obtain ⟨q, hq70, hq⟩ := wsT_obj o (clsO_lt rfl k10)
  refine va_runV (C := y.cls) (As := As) ⟨hx, hb, rfl, hown, hts⟩ hM (cwV n hts ?_ rfl rfl rfl ⟨rfl, m5⟩ hr) ⟨Wd_blind G Th _, va_recv hK h2 kc (ws_at G Th hq), fun U hU hW => ⟨rfl, h1, by rw [hU]; exact h2, va_K.moved hW.alike hK, h3⟩⟩ rfl hn h5.1 hst (lv_room hW) hd ⟨hcc, hss⟩
  refine tbl_goodIn (ws := [.methodLink own index y, .instanceMethod y, .selects y.cls y y, .initialized y.cls]) m4 (fun x hx9 => ?_)
  simp only [List.mem_cons, List.not_mem_nil, or_false] at hx9
  rcases hx9 with rfl | rfl | rfl | rfl
  · exact hw
  · exact m1
  · exact m2
  · exact m3
theorem v_runS {G : GT} {X : CX} {Th : TH} {pc : Nat} {lv : List (Nat × Value)} {st st0 : List Value} {cc : ByteArray} {nL : Nat} {own : String} {f0 n0 : Nat} {rm : Room} {l0 : Launch} (C : CT G l0 X cc nL own rm) {y : MethodName} {bytes : ByteArray} {maxL : Nat} {ret : Option FieldType} {n index : Nat} {As : List Value} {Qc : Array Value → State → Outcome → State → Prop}
    (hM : MT G l0 y bytes maxL ret f0 n0 As Th Qc) (mv : MS y bytes maxL ret n) (hw : Cond.methodLink own index y ∈ lw_g) (hr : f0 + 1 ≤ rm.frames ∧ 8 + (maxL + 11) + n0 ≤ rm.locals) (hn : As.length = n) (hst : st0 = As.reverse ++ st) (hW : (st.map fun v => v.category).sum ≤ 8) (hd : decode cc pc = .ok (.invokestatic index, 3)) :
    match X with | (p, l, e, R, s, m, args, below, meth, c, nc, ns, Q) => ∀ (H : Heap) (locs : List Loc) (ls : Array Slot), lOK Th → va_P (gD G) vwCl (wsG G Th) H → va_D (gA G) (wsG G Th) → lv_has ls c.maxLocals lv → va_Run p l e R s m args below meth c H locs nc ns 0 0 (F0 m pc ls st0) st (Qc As.toArray) (gA G) := by
  obtain ⟨p, l, e, R, s, m, args, below, meth, c, nc, ns, Q⟩ := X
  obtain ⟨hx, hb, hml, hown, hts, hK, hR, hcc, hss, hl0⟩ := C
  intro H locs ls h1 h2 h3 h5
  subst hl0 hR
  obtain ⟨m1, m3, m4, m5⟩ := mv
  refine va_runS (As := As) ⟨hx, hb, rfl, hown, hts⟩ hM (va_cwS n hts ?_ rfl rfl rfl m5 hr) ⟨Wd_blind G Th _, fun U hU hW => ⟨rfl, h1, by rw [hU]; exact h2, va_K.moved hW.alike hK, h3⟩⟩ rfl hn h5.1 hst (lv_room hW) hd ⟨hcc, hss⟩
  refine tbl_goodIn (ws := [.methodLink own index y, .static y, .initialized y.cls]) m4 (fun x hx9 => ?_)
  simp only [List.mem_cons, List.not_mem_nil, or_false] at hx9
  rcases hx9 with rfl | rfl | rfl
  · exact hw
  · exact m1
  · exact m3

theorem v_cVI {G : GT} {X : CX} {Th : TH} {pc : Nat} {lv : List (Nat × Value)} {st st0 : List Value} {cc : ByteArray} {nL : Nat} {own : String} {f0 n0 : Nat} {rm : Room} {l0 : Launch} (C : CT G l0 X cc nL own rm) {y : MethodName} {bytes : ByteArray} {maxL : Nat} {n index : Nat} {As : List Value} {q : Int → TH → Prop} {o ci : Nat} {Tb : u_T} {N : Nat} {ty : Nat → FieldType} (kx : KX ci y.cls Tb N ty) (ho : clsO o = ci) (hM : MT G l0 y bytes maxL (some .int) f0 n0 (.ref (gad G o) :: As) Th (QI G q)) (mv : MV y bytes maxL (some .int) n) (hw : Cond.methodLink own index y ∈ lw_g) (hr : f0 + 1 ≤ rm.frames ∧ 8 + (maxL + 11) + n0 ≤ rm.locals) (hn : As.length = n) (hst : st0 = As.reverse ++ .ref (gad G o) :: st) (hW : (st.map fun v => v.category).sum ≤ 8) (hd : decode cc pc = .ok (.invokevirtual index, 3)) (k : ∀ z T, q z T → V G X T (pc + 3) lv (.int (zI z) :: st)) : V G X Th pc lv st0 := by
  have run := v_runV (lv := lv) C kx ho hM mv hw hr hn hst hW hd
  obtain ⟨p, l, e, R, s, m, args, below, meth, c, nc, ns, Q⟩ := X
  intro H locs ls h1 h2 h3 h4 h5
  refine va_calli (run H locs ls h1 h2 h3 h5) h4 (fun _ _ h => h) (fun _ h => h) (fun r T t H1 locs1 ht hvm hp hB hz hk hS => ?_)
  obtain ⟨b1, b2, b3, b4⟩ := hB
  rw [ht] at b2
  obtain ⟨z, rfl, hq⟩ := hp
  exact k z T hq H1 locs1 ls b1 b2 b4 hS h5

theorem v_cVZ {G : GT} {X : CX} {Th : TH} {pc : Nat} {lv : List (Nat × Value)} {st st0 : List Value} {cc : ByteArray} {nL : Nat} {own : String} {f0 n0 : Nat} {rm : Room} {l0 : Launch} (C : CT G l0 X cc nL own rm) {y : MethodName} {bytes : ByteArray} {maxL : Nat} {n index : Nat} {As : List Value} {q : Bool → TH → Prop} {o ci : Nat} {Tb : u_T} {N : Nat} {ty : Nat → FieldType} (kx : KX ci y.cls Tb N ty) (ho : clsO o = ci) (hM : MT G l0 y bytes maxL (some .boolean) f0 n0 (.ref (gad G o) :: As) Th (QZ G q)) (mv : MV y bytes maxL (some .boolean) n) (hw : Cond.methodLink own index y ∈ lw_g) (hr : f0 + 1 ≤ rm.frames ∧ 8 + (maxL + 11) + n0 ≤ rm.locals) (hn : As.length = n) (hst : st0 = As.reverse ++ .ref (gad G o) :: st) (hW : (st.map fun v => v.category).sum ≤ 8) (hd : decode cc pc = .ok (.invokevirtual index, 3)) (k : ∀ z T, q z T → V G X T (pc + 3) lv (.int (zI (zi z)) :: st)) : V G X Th pc lv st0 := by
  have run := v_runV (lv := lv) C kx ho hM mv hw hr hn hst hW hd
  obtain ⟨p, l, e, R, s, m, args, below, meth, c, nc, ns, Q⟩ := X
  intro H locs ls h1 h2 h3 h4 h5
  refine va_calli (run H locs ls h1 h2 h3 h5) h4 (fun _ _ h => h) (fun _ h => h) (fun r T t H1 locs1 ht hvm hp hB hz hk hS => ?_)
  obtain ⟨b1, b2, b3, b4⟩ := hB
  rw [ht] at b2
  obtain ⟨z, rfl, hq⟩ := hp
  exact k z T hq H1 locs1 ls b1 b2 b4 hS h5

theorem v_cVL {G : GT} {X : CX} {Th : TH} {pc : Nat} {lv : List (Nat × Value)} {st st0 : List Value} {cc : ByteArray} {nL : Nat} {own : String} {f0 n0 : Nat} {rm : Room} {l0 : Launch} (C : CT G l0 X cc nL own rm) {y : MethodName} {bytes : ByteArray} {maxL : Nat} {n index : Nat} {As : List Value} {q : Int → TH → Prop} {o ci : Nat} {Tb : u_T} {N : Nat} {ty : Nat → FieldType} (kx : KX ci y.cls Tb N ty) (ho : clsO o = ci) (hM : MT G l0 y bytes maxL (some .long) f0 n0 (.ref (gad G o) :: As) Th (QL G q)) (mv : MV y bytes maxL (some .long) n) (hw : Cond.methodLink own index y ∈ lw_g) (hr : f0 + 1 ≤ rm.frames ∧ 8 + (maxL + 11) + n0 ≤ rm.locals) (hn : As.length = n) (hst : st0 = As.reverse ++ .ref (gad G o) :: st) (hW : (st.map fun v => v.category).sum ≤ 8) (hd : decode cc pc = .ok (.invokevirtual index, 3)) (k : ∀ z T, q z T → V G X T (pc + 3) lv (.long (zJ z) :: st)) : V G X Th pc lv st0 := by
  have run := v_runV (lv := lv) C kx ho hM mv hw hr hn hst hW hd
  obtain ⟨p, l, e, R, s, m, args, below, meth, c, nc, ns, Q⟩ := X
  intro H locs ls h1 h2 h3 h4 h5
  refine va_calll (run H locs ls h1 h2 h3 h5) h4 (fun _ _ h => h) (fun _ h => h) (fun r T t H1 locs1 ht hvm hp hB hz hk hS => ?_)
  obtain ⟨b1, b2, b3, b4⟩ := hB
  rw [ht] at b2
  obtain ⟨z, rfl, hq⟩ := hp
  exact k z T hq H1 locs1 ls b1 b2 b4 hS h5

theorem v_cVN {G : GT} {X : CX} {Th : TH} {pc : Nat} {lv : List (Nat × Value)} {st st0 : List Value} {cc : ByteArray} {nL : Nat} {own : String} {f0 n0 : Nat} {rm : Room} {l0 : Launch} (C : CT G l0 X cc nL own rm) {y : MethodName} {bytes : ByteArray} {maxL : Nat} {n index : Nat} {As : List Value} {q : TH → Prop} {o ci : Nat} {Tb : u_T} {N : Nat} {ty : Nat → FieldType} (kx : KX ci y.cls Tb N ty) (ho : clsO o = ci) (hM : MT G l0 y bytes maxL none f0 n0 (.ref (gad G o) :: As) Th (QV G q)) (mv : MV y bytes maxL none n) (hw : Cond.methodLink own index y ∈ lw_g) (hr : f0 + 1 ≤ rm.frames ∧ 8 + (maxL + 11) + n0 ≤ rm.locals) (hn : As.length = n) (hst : st0 = As.reverse ++ .ref (gad G o) :: st) (hW : (st.map fun v => v.category).sum ≤ 8) (hd : decode cc pc = .ok (.invokevirtual index, 3)) (k : ∀ T, q T → V G X T (pc + 3) lv (st)) : V G X Th pc lv st0 := by
  have run := v_runV (lv := lv) C kx ho hM mv hw hr hn hst hW hd
  obtain ⟨p, l, e, R, s, m, args, below, meth, c, nc, ns, Q⟩ := X
  intro H locs ls h1 h2 h3 h4 h5
  refine va_callv (run H locs ls h1 h2 h3 h5) h4 (fun _ _ h => h) (fun _ h => h) (fun T t H1 locs1 ht hvm hp hB hz hk hS => ?_)
  obtain ⟨b1, b2, b3, b4⟩ := hB
  rw [ht] at b2
  exact k T hp H1 locs1 ls b1 b2 b4 hS h5

theorem v_cSI {G : GT} {X : CX} {Th : TH} {pc : Nat} {lv : List (Nat × Value)} {st st0 : List Value} {cc : ByteArray} {nL : Nat} {own : String} {f0 n0 : Nat} {rm : Room} {l0 : Launch} (C : CT G l0 X cc nL own rm) {y : MethodName} {bytes : ByteArray} {maxL : Nat} {n index : Nat} {As : List Value} {q : Int → TH → Prop}  (hM : MT G l0 y bytes maxL (some .int) f0 n0 (As) Th (QI G q)) (mv : MS y bytes maxL (some .int) n) (hw : Cond.methodLink own index y ∈ lw_g) (hr : f0 + 1 ≤ rm.frames ∧ 8 + (maxL + 11) + n0 ≤ rm.locals) (hn : As.length = n) (hst : st0 = As.reverse ++ st) (hW : (st.map fun v => v.category).sum ≤ 8) (hd : decode cc pc = .ok (.invokestatic index, 3)) (k : ∀ z T, q z T → V G X T (pc + 3) lv (.int (zI z) :: st)) : V G X Th pc lv st0 := by
  have run := v_runS (lv := lv) C hM mv hw hr hn hst hW hd
  obtain ⟨p, l, e, R, s, m, args, below, meth, c, nc, ns, Q⟩ := X
  intro H locs ls h1 h2 h3 h4 h5
  refine va_calli (run H locs ls h1 h2 h3 h5) h4 (fun _ _ h => h) (fun _ h => h) (fun r T t H1 locs1 ht hvm hp hB hz hk hS => ?_)
  obtain ⟨b1, b2, b3, b4⟩ := hB
  rw [ht] at b2
  obtain ⟨z, rfl, hq⟩ := hp
  exact k z T hq H1 locs1 ls b1 b2 b4 hS h5

theorem v_cSZ {G : GT} {X : CX} {Th : TH} {pc : Nat} {lv : List (Nat × Value)} {st st0 : List Value} {cc : ByteArray} {nL : Nat} {own : String} {f0 n0 : Nat} {rm : Room} {l0 : Launch} (C : CT G l0 X cc nL own rm) {y : MethodName} {bytes : ByteArray} {maxL : Nat} {n index : Nat} {As : List Value} {q : Bool → TH → Prop}  (hM : MT G l0 y bytes maxL (some .boolean) f0 n0 (As) Th (QZ G q)) (mv : MS y bytes maxL (some .boolean) n) (hw : Cond.methodLink own index y ∈ lw_g) (hr : f0 + 1 ≤ rm.frames ∧ 8 + (maxL + 11) + n0 ≤ rm.locals) (hn : As.length = n) (hst : st0 = As.reverse ++ st) (hW : (st.map fun v => v.category).sum ≤ 8) (hd : decode cc pc = .ok (.invokestatic index, 3)) (k : ∀ z T, q z T → V G X T (pc + 3) lv (.int (zI (zi z)) :: st)) : V G X Th pc lv st0 := by
  have run := v_runS (lv := lv) C hM mv hw hr hn hst hW hd
  obtain ⟨p, l, e, R, s, m, args, below, meth, c, nc, ns, Q⟩ := X
  intro H locs ls h1 h2 h3 h4 h5
  refine va_calli (run H locs ls h1 h2 h3 h5) h4 (fun _ _ h => h) (fun _ h => h) (fun r T t H1 locs1 ht hvm hp hB hz hk hS => ?_)
  obtain ⟨b1, b2, b3, b4⟩ := hB
  rw [ht] at b2
  obtain ⟨z, rfl, hq⟩ := hp
  exact k z T hq H1 locs1 ls b1 b2 b4 hS h5

theorem v_cSL {G : GT} {X : CX} {Th : TH} {pc : Nat} {lv : List (Nat × Value)} {st st0 : List Value} {cc : ByteArray} {nL : Nat} {own : String} {f0 n0 : Nat} {rm : Room} {l0 : Launch} (C : CT G l0 X cc nL own rm) {y : MethodName} {bytes : ByteArray} {maxL : Nat} {n index : Nat} {As : List Value} {q : Int → TH → Prop}  (hM : MT G l0 y bytes maxL (some .long) f0 n0 (As) Th (QL G q)) (mv : MS y bytes maxL (some .long) n) (hw : Cond.methodLink own index y ∈ lw_g) (hr : f0 + 1 ≤ rm.frames ∧ 8 + (maxL + 11) + n0 ≤ rm.locals) (hn : As.length = n) (hst : st0 = As.reverse ++ st) (hW : (st.map fun v => v.category).sum ≤ 8) (hd : decode cc pc = .ok (.invokestatic index, 3)) (k : ∀ z T, q z T → V G X T (pc + 3) lv (.long (zJ z) :: st)) : V G X Th pc lv st0 := by
  have run := v_runS (lv := lv) C hM mv hw hr hn hst hW hd
  obtain ⟨p, l, e, R, s, m, args, below, meth, c, nc, ns, Q⟩ := X
  intro H locs ls h1 h2 h3 h4 h5
  refine va_calll (run H locs ls h1 h2 h3 h5) h4 (fun _ _ h => h) (fun _ h => h) (fun r T t H1 locs1 ht hvm hp hB hz hk hS => ?_)
  obtain ⟨b1, b2, b3, b4⟩ := hB
  rw [ht] at b2
  obtain ⟨z, rfl, hq⟩ := hp
  exact k z T hq H1 locs1 ls b1 b2 b4 hS h5

theorem v_cSN {G : GT} {X : CX} {Th : TH} {pc : Nat} {lv : List (Nat × Value)} {st st0 : List Value} {cc : ByteArray} {nL : Nat} {own : String} {f0 n0 : Nat} {rm : Room} {l0 : Launch} (C : CT G l0 X cc nL own rm) {y : MethodName} {bytes : ByteArray} {maxL : Nat} {n index : Nat} {As : List Value} {q : TH → Prop}  (hM : MT G l0 y bytes maxL none f0 n0 (As) Th (QV G q)) (mv : MS y bytes maxL none n) (hw : Cond.methodLink own index y ∈ lw_g) (hr : f0 + 1 ≤ rm.frames ∧ 8 + (maxL + 11) + n0 ≤ rm.locals) (hn : As.length = n) (hst : st0 = As.reverse ++ st) (hW : (st.map fun v => v.category).sum ≤ 8) (hd : decode cc pc = .ok (.invokestatic index, 3)) (k : ∀ T, q T → V G X T (pc + 3) lv (st)) : V G X Th pc lv st0 := by
  have run := v_runS (lv := lv) C hM mv hw hr hn hst hW hd
  obtain ⟨p, l, e, R, s, m, args, below, meth, c, nc, ns, Q⟩ := X
  intro H locs ls h1 h2 h3 h4 h5
  refine va_callv (run H locs ls h1 h2 h3 h5) h4 (fun _ _ h => h) (fun _ h => h) (fun T t H1 locs1 ht hvm hp hB hz hk hS => ?_)
  obtain ⟨b1, b2, b3, b4⟩ := hB
  rw [ht] at b2
  exact k T hp H1 locs1 ls b1 b2 b4 hS h5

def cpy (T : TH) (o1 j1 : Nat) (sp : Int) (o2 j2 : Nat) (dp n : Int) : TH := fun o j i => if o = o2 ∧ j = j2 ∧ dp ≤ i ∧ i < dp + n then T o1 j1 (sp + (i - dp)) else T o j i
theorem v_acopy {G : GT} {X : CX} {Th : TH} {pc : Nat} {lv : List (Nat × Value)} {st : List Value} {cc : ByteArray} {nL : Nat} {own : String} {rm : Room} {l0 : Launch} (C : CT G l0 X cc nL own rm) {o1 j1 n1 o2 j2 n2 index : Nat} {sp dp n : Int} (ha1 : arT (clsO o1) j1 = some (0, n1)) (ha2 : arT (clsO o2) j2 = some (0, n2)) (hw : Cond.methodLink own index arraycopyName ∈ lw_g) (w1 : Cond.native arraycopyName ∈ lw_g) (w2 : Cond.static arraycopyName ∈ lw_g) (w3 : Cond.initialized "java/lang/System" ∈ lw_g) (hfr : 1 ≤ rm.frames) (hlo : (st.map fun v => v.category).sum + (nativeFrameWords "java/lang/System" "arraycopy" 5 + 11) ≤ rm.locals) (hd : decode cc pc = .ok (.invokestatic index, 3))
    (h : 0 ≤ sp ∧ 0 ≤ dp ∧ 0 ≤ n ∧ sp + n ≤ n1 ∧ dp + n ≤ n2) (k : V G X (cpy Th o1 j1 sp o2 j2 dp n) (pc + 3) lv st) : V G X Th pc lv (.int (zI n) :: .int (zI dp) :: .ref (gaa G o2 j2) :: .int (zI sp) :: .ref (gaa G o1 j1) :: st) := by
  obtain ⟨p, l, e, R, s, m, args, below, meth, c, nc, ns, Q⟩ := X
  obtain ⟨hx, hb, hml, hown, hts, hK, hR, hcc, hss, -⟩ := C
  intro H locs ls h1 h2 h3 h4 h5
  subst hR
  obtain ⟨e1, e2, e3, e4, e5⟩ := h
  have l1 := ar_lt ha1
  have l2 := ar_lt ha2
  obtain ⟨q1, hq1, hc1'⟩ := ar_at ha1
  obtain ⟨q2, hq2, hc2'⟩ := ar_at ha2
  have hc1 := ws_at G Th hc1'
  have hc2 := ws_at G Th hc2'
  rw [cel_ar G Th ha1] at hc1
  rw [cel_ar G Th ha2] at hc2
  dsimp only at l1 l2
  have cl : ∀ z : Int, 0 ≤ z → z ≤ 2147483647 → ¬ zI z < 0 ∧ (zI z).toNatClampNeg = z.toNat := fun z a b => by
    have hr : (zI z).toInt = z := zI_toInt ⟨by omega, by omega⟩
    refine ⟨fun q => ?_, ?_⟩
    · have := Int32.lt_iff_toInt_lt.mp q
      rw [hr] at this
      have : z < 0 := this
      omega
    · show (zI z).toInt.toNat = z.toNat
      rw [hr]
  obtain ⟨c1, d1⟩ := cl sp e1 (by omega)
  obtain ⟨c2, d2⟩ := cl dp e2 (by omega)
  obtain ⟨c3, d3⟩ := cl n e3 (by omega)
  refine va_copyi hx hb h5.1.symm hown (hts _ hw) (hts _ w1) (hts _ w2) (hts _ w3) hK h2 h3 h4 q1 q2 0 0 hc1 hc2 (ty := .int) rfl rfl rfl c1 c2 c3 (by rw [d1, d3]; show _ ≤ n1; omega) (by rw [d2, d3]; show _ ≤ n2; omega) (fun _ _ => rfl) hfr hlo hd (fun H1 locs1 hP hD hS => ?_)
  rw [d1, d2, d3] at hP hD
  have he : (Sum.inl (gcA G 0, n2, .inl (va_cpy (fun x => zI (Th o1 j1 x)) (fun x => zI (Th o2 j2 x)) sp.toNat dp.toNat n.toNat)) : va_E) = arC G (cpy Th o1 j1 sp o2 j2 dp n) o2 j2 (0, n2) := by
    show _ = Sum.inl _
    refine congrArg (fun f => (Sum.inl (gcA G 0, n2, .inl f) : va_E)) (funext fun x => ?_)
    unfold va_cpy cpy
    by_cases hx9 : dp.toNat ≤ x ∧ x < dp.toNat + n.toNat
    · rw [if_pos hx9, if_pos ⟨rfl, rfl, by omega, by omega⟩]
      have : ((sp.toNat + (x - dp.toNat) : Nat) : Int) = sp + ((x : Int) - dp) := by omega
      rw [← this]
    · rw [if_neg hx9, if_neg (fun z => hx9 (by omega))]
  rw [he] at hP hD
  rw [ws_putA G Th (cpy Th o1 j1 sp o2 j2 dp n) hq2 hc2' ha2 (fun o' j' i' hn' => if_neg (fun z => hn' ⟨z.1, z.2.1⟩))] at hP hD
  refine k H1 locs1 ls ?_ hP hD hS h5
  have hkd : (kdT (clsO o2))[j2]? = some 1 := (arL_kd _ (arT_mem ha2)).1
  have nn : ∀ j, (j = 1 ∨ j = 2) → ¬ (0 = o2 ∧ j = j2) := fun j hj z => by
    obtain ⟨rfl, rfl⟩ := z
    rcases hj with rfl | rfl
    · exact absurd hkd (by decide)
    · exact absurd hkd (by decide)
  show ((cpy Th o1 j1 sp o2 j2 dp n) 0 1 0 = 2 ∨ (cpy Th o1 j1 sp o2 j2 dp n) 0 1 0 = 3) ∧ ((cpy Th o1 j1 sp o2 j2 dp n) 0 2 0 = 2 ∨ (cpy Th o1 j1 sp o2 j2 dp n) 0 2 0 = 3)
  have f1 : (cpy Th o1 j1 sp o2 j2 dp n) 0 1 0 = Th 0 1 0 := if_neg (fun z => nn 1 (Or.inl rfl) ⟨z.1, z.2.1⟩)
  have f2 : (cpy Th o1 j1 sp o2 j2 dp n) 0 2 0 = Th 0 2 0 := if_neg (fun z => nn 2 (Or.inr rfl) ⟨z.1, z.2.1⟩)
  rw [f1, f2]
  exact h1

theorem ws_putL1 (G : GT) (Th : TH) {k o : Nat} (hk : k < 70) (h : wsT[k]? = some (0, 0)) : (wsG G Th).set k (gad G 0, .inr (8, (flds G Th 0).set 1 (.ref (gad G o)))) = wsG G (up Th 0 1 0 (o : Int)) := by
  refine ws_set G Th _ hk h ?_ ?_
  · show (gad G 0, Sum.inr (8, flds G (up Th 0 1 0 (o : Int)) 0)) = _
    have he : flds G (up Th 0 1 0 (o : Int)) 0 = (flds G Th 0).set 1 (.ref (gad G o)) := by
      simp [flds, kdT, clsO, fldV, up, List.mapIdx_cons]
    rw [he]
  · intro q' hq' hne
    obtain ⟨o', x⟩ := q'
    cases x with
    | zero =>
      show (gad G o', Sum.inr (clsO o', flds G _ o')) = (gad G o', Sum.inr (clsO o', flds G _ o'))
      rw [flds_same G (fun j' k' _ _ => up_ne (fun z => hne (by rw [z.1])))]
    | succ j' =>
      have h1 := (wsT_kd _ hq').resolve_left (by simp)
      show (gaa G o' j', arC G _ o' j' _) = (gaa G o' j', arC G _ o' j' _)
      rw [arC_same G _ (fun i => up_ne (fun z => by
        obtain ⟨rfl, rfl, -⟩ := z
        exact absurd h1 (by decide)))]
theorem v_putL1 {G : GT} {X : CX} {Th : TH} {pc : Nat} {lv : List (Nat × Value)} {st : List Value} {cc : ByteArray} {nL : Nat} {own : String} {rm : Room} {l0 : Launch} (C : CT G l0 X cc nL own rm) {o index : Nat} (ho : clsO o = 3) (hw : Cond.fieldLink own index RX8 (TX8 1).2.1 (TX8 1).2.2.1 ∈ lw_g) (hd : decode cc pc = .ok (.putfield index, 3)) (k : V G X (up Th 0 1 0 (o : Int)) (pc + 3) lv st) : V G X Th pc lv (.ref (gad G o) :: .ref (gad G 0) :: st) := by
  obtain ⟨p, l, e, R, s, m, args, below, meth, c, nc, ns, Q⟩ := X
  obtain ⟨hx, hb, hml, hown, hts, hK, hR, hcc, hss, -⟩ := C
  intro H locs ls h1 h2 h3 h4 h5
  obtain ⟨q, hq70, hq⟩ := wsT_obj 0 (by decide)
  have ho2 : o = 2 ∨ o = 3 := (by decide : ∀ o, o < 14 → clsO o = 3 → o = 2 ∨ o = 3) o (clsO_lt ho (by decide)) ho
  refine va_put hx hb hts i_X8 tyX8 tyX8_ok nmX8 hown hK h2 h3 h4 q (ws_at G Th hq) (ci := 8) rfl 1 (by decide) (hts _ hw) (fun x h => h) rfl (ty := .object "KnownWeight$Land") (tyX8_ok 1 (by decide)) rfl rfl (by unfold flds; rw [List.length_mapIdx]; decide) hd (fun H1 locs1 hP hD hS => ?_)
  have e9 := ws_putL1 G Th (o := o) hq70 hq
  have hP : va_P (gD G) vwCl ((wsG G Th).set q (gad G 0, .inr (8, (flds G Th 0).set 1 (.ref (gad G o))))) H1 := hP
  have hD : va_D (gA G) ((wsG G Th).set q (gad G 0, .inr (8, (flds G Th 0).set 1 (.ref (gad G o))))) := hD
  rw [e9] at hP hD
  refine k H1 locs1 ls ?_ hP hD hS h5
  unfold lOK
  rw [up_eq, up_ne (by decide)]
  exact ⟨by omega, h1.2⟩

theorem ws_putL2 (G : GT) (Th : TH) {k o : Nat} (hk : k < 70) (h : wsT[k]? = some (0, 0)) : (wsG G Th).set k (gad G 0, .inr (8, (flds G Th 0).set 2 (.ref (gad G o)))) = wsG G (up Th 0 2 0 (o : Int)) := by
  refine ws_set G Th _ hk h ?_ ?_
  · show (gad G 0, Sum.inr (8, flds G (up Th 0 2 0 (o : Int)) 0)) = _
    have he : flds G (up Th 0 2 0 (o : Int)) 0 = (flds G Th 0).set 2 (.ref (gad G o)) := by
      simp [flds, kdT, clsO, fldV, up, List.mapIdx_cons]
    rw [he]
  · intro q' hq' hne
    obtain ⟨o', x⟩ := q'
    cases x with
    | zero =>
      show (gad G o', Sum.inr (clsO o', flds G _ o')) = (gad G o', Sum.inr (clsO o', flds G _ o'))
      rw [flds_same G (fun j' k' _ _ => up_ne (fun z => hne (by rw [z.1])))]
    | succ j' =>
      have h1 := (wsT_kd _ hq').resolve_left (by simp)
      show (gaa G o' j', arC G _ o' j' _) = (gaa G o' j', arC G _ o' j' _)
      rw [arC_same G _ (fun i => up_ne (fun z => by
        obtain ⟨rfl, rfl, -⟩ := z
        exact absurd h1 (by decide)))]
theorem v_putL2 {G : GT} {X : CX} {Th : TH} {pc : Nat} {lv : List (Nat × Value)} {st : List Value} {cc : ByteArray} {nL : Nat} {own : String} {rm : Room} {l0 : Launch} (C : CT G l0 X cc nL own rm) {o index : Nat} (ho : clsO o = 3) (hw : Cond.fieldLink own index RX8 (TX8 2).2.1 (TX8 2).2.2.1 ∈ lw_g) (hd : decode cc pc = .ok (.putfield index, 3)) (k : V G X (up Th 0 2 0 (o : Int)) (pc + 3) lv st) : V G X Th pc lv (.ref (gad G o) :: .ref (gad G 0) :: st) := by
  obtain ⟨p, l, e, R, s, m, args, below, meth, c, nc, ns, Q⟩ := X
  obtain ⟨hx, hb, hml, hown, hts, hK, hR, hcc, hss, -⟩ := C
  intro H locs ls h1 h2 h3 h4 h5
  obtain ⟨q, hq70, hq⟩ := wsT_obj 0 (by decide)
  have ho2 : o = 2 ∨ o = 3 := (by decide : ∀ o, o < 14 → clsO o = 3 → o = 2 ∨ o = 3) o (clsO_lt ho (by decide)) ho
  refine va_put hx hb hts i_X8 tyX8 tyX8_ok nmX8 hown hK h2 h3 h4 q (ws_at G Th hq) (ci := 8) rfl 2 (by decide) (hts _ hw) (fun x h => h) rfl (ty := .object "KnownWeight$Land") (tyX8_ok 2 (by decide)) rfl rfl (by unfold flds; rw [List.length_mapIdx]; decide) hd (fun H1 locs1 hP hD hS => ?_)
  have e9 := ws_putL2 G Th (o := o) hq70 hq
  have hP : va_P (gD G) vwCl ((wsG G Th).set q (gad G 0, .inr (8, (flds G Th 0).set 2 (.ref (gad G o))))) H1 := hP
  have hD : va_D (gA G) ((wsG G Th).set q (gad G 0, .inr (8, (flds G Th 0).set 2 (.ref (gad G o))))) := hD
  rw [e9] at hP hD
  refine k H1 locs1 ls ?_ hP hD hS h5
  unfold lOK
  rw [up_ne (by decide), up_eq]
  exact ⟨h1.1, by omega⟩
end
section
theorem wd_0 : (.selects RX4 yX4_skipBlanks yX4_skipBlanks : Cond) ∈ lw_g := mg (List.mem_of_getElem? (i := 0) (by decide +kernel)) rfl
theorem wd_1 : (.selects RX4 yX4_letterHere yX4_letterHere : Cond) ∈ lw_g := mg (List.mem_of_getElem? (i := 1) (by decide +kernel)) rfl
theorem wd_2 : (.selects RX4 yX4_readClause yX4_readClause : Cond) ∈ lw_g := mg (List.mem_of_getElem? (i := 2) (by decide +kernel)) rfl
theorem wd_3 : (.selects RX4 yX4_faultOfWord yX4_faultOfWord : Cond) ∈ lw_g := mg (List.mem_of_getElem? (i := 3) (by decide +kernel)) rfl
theorem wd_4 : (.selects RX4 yX4_blame yX4_blame : Cond) ∈ lw_g := mg (List.mem_of_getElem? (i := 4) (by decide +kernel)) rfl
theorem wd_5 : (.selects RX4 yX4_readPeople yX4_readPeople : Cond) ∈ lw_g := mg (List.mem_of_getElem? (i := 5) (by decide +kernel)) rfl
theorem wd_6 : (.selects RX4 yX4_readNumber yX4_readNumber : Cond) ∈ lw_g := mg (List.mem_of_getElem? (i := 6) (by decide +kernel)) rfl
theorem wd_7 : (.selects RX4 yX4_isFigureHere yX4_isFigureHere : Cond) ∈ lw_g := mg (List.mem_of_getElem? (i := 7) (by decide +kernel)) rfl
theorem wd_8 : (.selects RX4 yX4_readFact yX4_readFact : Cond) ∈ lw_g := mg (List.mem_of_getElem? (i := 8) (by decide +kernel)) rfl
theorem wd_9 : (.selects RX4 yX4_readPerson yX4_readPerson : Cond) ∈ lw_g := mg (List.mem_of_getElem? (i := 9) (by decide +kernel)) rfl
theorem wd_10 : (.selects RX4 yX4_readKnowers yX4_readKnowers : Cond) ∈ lw_g := mg (List.mem_of_getElem? (i := 10) (by decide +kernel)) rfl
theorem wd_11 : (.selects RX4 yX4_readFriendship yX4_readFriendship : Cond) ∈ lw_g := mg (List.mem_of_getElem? (i := 11) (by decide +kernel)) rfl
theorem wd_12 : (.selects RX4 yX4_readQuiet yX4_readQuiet : Cond) ∈ lw_g := mg (List.mem_of_getElem? (i := 12) (by decide +kernel)) rfl
theorem wd_13 : (.selects RX4 yX4_readBridge yX4_readBridge : Cond) ∈ lw_g := mg (List.mem_of_getElem? (i := 13) (by decide +kernel)) rfl
theorem wd_14 : (.selects RX4 yX4_readMemory yX4_readMemory : Cond) ∈ lw_g := mg (List.mem_of_getElem? (i := 14) (by decide +kernel)) rfl
theorem wd_15 : (.selects RX4 yX4_readEnd yX4_readEnd : Cond) ∈ lw_g := mg (List.mem_of_getElem? (i := 15) (by decide +kernel)) rfl
theorem wd_16 : (.selects RX8 yX8_refusalOfHours yX8_refusalOfHours : Cond) ∈ lw_g := mg (List.mem_of_getElem? (i := 16) (by decide +kernel)) rfl
theorem wd_17 : (.selects RX2 yX2_forgetOld yX2_forgetOld : Cond) ∈ lw_g := mg (List.mem_of_getElem? (i := 17) (by decide +kernel)) rfl
theorem wd_18 : (.selects RX2 yX2_tellOn yX2_tellOn : Cond) ∈ lw_g := mg (List.mem_of_getElem? (i := 18) (by decide +kernel)) rfl
theorem wd_19 : (.selects RX2 yX2_chat yX2_chat : Cond) ∈ lw_g := mg (List.mem_of_getElem? (i := 19) (by decide +kernel)) rfl
theorem wd_20 : (.selects RX2 yX2_drawOf yX2_drawOf : Cond) ∈ lw_g := mg (List.mem_of_getElem? (i := 20) (by decide +kernel)) rfl
theorem wd_21 : (.selects RX1 yX1_fewestOf yX1_fewestOf : Cond) ∈ lw_g := mg (List.mem_of_getElem? (i := 21) (by decide +kernel)) rfl
theorem wd_22 : (.selects RX1 yX1_firstGroup yX1_firstGroup : Cond) ∈ lw_g := mg (List.mem_of_getElem? (i := 22) (by decide +kernel)) rfl
theorem wd_23 : (.selects RX7 yX7_addFact yX7_addFact : Cond) ∈ lw_g := mg (List.mem_of_getElem? (i := 23) (by decide +kernel)) rfl
theorem wd_24 : (.selects RX8 yX8_fewestToBreak yX8_fewestToBreak : Cond) ∈ lw_g := mg (List.mem_of_getElem? (i := 24) (by decide +kernel)) rfl
theorem wd_25 : (.selects RX8 yX8_factsToForget yX8_factsToForget : Cond) ∈ lw_g := mg (List.mem_of_getElem? (i := 25) (by decide +kernel)) rfl
theorem wd_26 : (.selects RX0 yX0_headForgets yX0_headForgets : Cond) ∈ lw_g := mg (List.mem_of_getElem? (i := 26) (by decide +kernel)) rfl
theorem wd_27 : (.selects RX0 yX0_move yX0_move : Cond) ∈ lw_g := mg (List.mem_of_getElem? (i := 27) (by decide +kernel)) rfl
theorem wd_28 : (.selects RX9 yX9_begin yX9_begin : Cond) ∈ lw_g := mg (List.mem_of_getElem? (i := 28) (by decide +kernel)) rfl
theorem wd_29 : (.selects RX9 yX9_isRead yX9_isRead : Cond) ∈ lw_g := mg (List.mem_of_getElem? (i := 29) (by decide +kernel)) rfl
theorem wd_30 : (.selects RX9 yX9_nextToken yX9_nextToken : Cond) ∈ lw_g := mg (List.mem_of_getElem? (i := 30) (by decide +kernel)) rfl
theorem wd_31 : (.selects RX9 yX9_isPeopleLine yX9_isPeopleLine : Cond) ∈ lw_g := mg (List.mem_of_getElem? (i := 31) (by decide +kernel)) rfl
theorem wd_32 : (.selects RX9 yX9_fails yX9_fails : Cond) ∈ lw_g := mg (List.mem_of_getElem? (i := 32) (by decide +kernel)) rfl
theorem wd_33 : (.selects RX9 yX9_isNumber yX9_isNumber : Cond) ∈ lw_g := mg (List.mem_of_getElem? (i := 33) (by decide +kernel)) rfl
theorem wd_34 : (.selects RX9 yX9_isEnd yX9_isEnd : Cond) ∈ lw_g := mg (List.mem_of_getElem? (i := 34) (by decide +kernel)) rfl
theorem wd_35 : (.selects RX9 yX9_isFactLine yX9_isFactLine : Cond) ∈ lw_g := mg (List.mem_of_getElem? (i := 35) (by decide +kernel)) rfl
theorem wd_36 : (.selects RX9 yX9_isKnownLine yX9_isKnownLine : Cond) ∈ lw_g := mg (List.mem_of_getElem? (i := 36) (by decide +kernel)) rfl
theorem wd_37 : (.selects RX9 yX9_isPairLine yX9_isPairLine : Cond) ∈ lw_g := mg (List.mem_of_getElem? (i := 37) (by decide +kernel)) rfl
theorem wd_38 : (.selects RX9 yX9_isQuietLine yX9_isQuietLine : Cond) ∈ lw_g := mg (List.mem_of_getElem? (i := 38) (by decide +kernel)) rfl
theorem wd_39 : (.selects RX9 yX9_isBridgeLine yX9_isBridgeLine : Cond) ∈ lw_g := mg (List.mem_of_getElem? (i := 39) (by decide +kernel)) rfl
theorem wd_40 : (.selects RX9 yX9_isHoursLine yX9_isHoursLine : Cond) ∈ lw_g := mg (List.mem_of_getElem? (i := 40) (by decide +kernel)) rfl
theorem wd_41 : (.selects RX9 yX9_headsOf yX9_headsOf : Cond) ∈ lw_g := mg (List.mem_of_getElem? (i := 41) (by decide +kernel)) rfl
theorem wd_42 : (.selects RX9 yX9_personOf yX9_personOf : Cond) ∈ lw_g := mg (List.mem_of_getElem? (i := 42) (by decide +kernel)) rfl
theorem wd_43 : (.selects RX9 yX9_isFact yX9_isFact : Cond) ∈ lw_g := mg (List.mem_of_getElem? (i := 43) (by decide +kernel)) rfl
theorem wd_44 : (.selects RX9 yX9_knowersOf yX9_knowersOf : Cond) ∈ lw_g := mg (List.mem_of_getElem? (i := 44) (by decide +kernel)) rfl
theorem wd_45 : (.selects RX9 yX9_isOne yX9_isOne : Cond) ∈ lw_g := mg (List.mem_of_getElem? (i := 45) (by decide +kernel)) rfl
theorem wd_46 : (.selects RX9 yX9_friendsOf yX9_friendsOf : Cond) ∈ lw_g := mg (List.mem_of_getElem? (i := 46) (by decide +kernel)) rfl
theorem wd_47 : (.selects RX9 yX9_weightOf yX9_weightOf : Cond) ∈ lw_g := mg (List.mem_of_getElem? (i := 47) (by decide +kernel)) rfl
theorem wd_48 : (.selects RX9 yX9_gramsOf yX9_gramsOf : Cond) ∈ lw_g := mg (List.mem_of_getElem? (i := 48) (by decide +kernel)) rfl
theorem wd_49 : (.selects RX9 yX9_isLie yX9_isLie : Cond) ∈ lw_g := mg (List.mem_of_getElem? (i := 49) (by decide +kernel)) rfl
theorem wd_50 : (.selects RX9 yX9_isBridge yX9_isBridge : Cond) ∈ lw_g := mg (List.mem_of_getElem? (i := 50) (by decide +kernel)) rfl
theorem wd_51 : (.selects RX9 yX9_barred yX9_barred : Cond) ∈ lw_g := mg (List.mem_of_getElem? (i := 51) (by decide +kernel)) rfl
theorem wd_52 : (.selects RX9 yX9_pass yX9_pass : Cond) ∈ lw_g := mg (List.mem_of_getElem? (i := 52) (by decide +kernel)) rfl
theorem wd_53 : (.selects RX9 yX9_tells yX9_tells : Cond) ∈ lw_g := mg (List.mem_of_getElem? (i := 53) (by decide +kernel)) rfl
theorem wd_54 : (.selects RX9 yX9_draw yX9_draw : Cond) ∈ lw_g := mg (List.mem_of_getElem? (i := 54) (by decide +kernel)) rfl
theorem wd_55 : (.selects RX9 yX9_isSet yX9_isSet : Cond) ∈ lw_g := mg (List.mem_of_getElem? (i := 55) (by decide +kernel)) rfl
theorem wd_56 : (.selects RX9 yX9_togetherOf yX9_togetherOf : Cond) ∈ lw_g := mg (List.mem_of_getElem? (i := 56) (by decide +kernel)) rfl
theorem wd_57 : (.selects RX9 yX9_layWays yX9_layWays : Cond) ∈ lw_g := mg (List.mem_of_getElem? (i := 57) (by decide +kernel)) rfl
theorem wd_58 : (.selects RX9 yX9_waysTo yX9_waysTo : Cond) ∈ lw_g := mg (List.mem_of_getElem? (i := 58) (by decide +kernel)) rfl
theorem wd_59 : (.selects RX9 yX9_canCome yX9_canCome : Cond) ∈ lw_g := mg (List.mem_of_getElem? (i := 59) (by decide +kernel)) rfl
theorem wd_60 : (.selects RX9 yX9_forgotten yX9_forgotten : Cond) ∈ lw_g := mg (List.mem_of_getElem? (i := 60) (by decide +kernel)) rfl
theorem wd_62 : (.initialized RX8 : Cond) ∈ lw_g := mg (List.mem_of_getElem? (i := 62) (by decide +kernel)) rfl
theorem wd_63 : (.initialized RX4 : Cond) ∈ lw_g := mg (List.mem_of_getElem? (i := 63) (by decide +kernel)) rfl
theorem wd_64 : (.initialized RX3 : Cond) ∈ lw_g := mg (List.mem_of_getElem? (i := 64) (by decide +kernel)) rfl
theorem wd_65 : (.initialized RX2 : Cond) ∈ lw_g := mg (List.mem_of_getElem? (i := 65) (by decide +kernel)) rfl
theorem wd_66 : (.initialized RX6 : Cond) ∈ lw_g := mg (List.mem_of_getElem? (i := 66) (by decide +kernel)) rfl
theorem wd_67 : (.initialized RX1 : Cond) ∈ lw_g := mg (List.mem_of_getElem? (i := 67) (by decide +kernel)) rfl
theorem wd_68 : (.initialized RX7 : Cond) ∈ lw_g := mg (List.mem_of_getElem? (i := 68) (by decide +kernel)) rfl
theorem wd_69 : (.initialized RX0 : Cond) ∈ lw_g := mg (List.mem_of_getElem? (i := 69) (by decide +kernel)) rfl
theorem wd_70 : (.initialized RX5 : Cond) ∈ lw_g := mg (List.mem_of_getElem? (i := 70) (by decide +kernel)) rfl
theorem wd_71 : (.initialized RX9 : Cond) ∈ lw_g := mg (List.mem_of_getElem? (i := 71) (by decide +kernel)) rfl
theorem wd_72 : (.initialized RJ7 : Cond) ∈ lw_g := mg (List.mem_of_getElem? (i := 72) (by decide +kernel)) rfl
theorem wd_73 : (.initialized RJ6 : Cond) ∈ lw_g := mg (List.mem_of_getElem? (i := 73) (by decide +kernel)) rfl
theorem wd_74 : (.initialized RJ10 : Cond) ∈ lw_g := mg (List.mem_of_getElem? (i := 74) (by decide +kernel)) rfl
theorem wd_75 : (.initialized RJ9 : Cond) ∈ lw_g := mg (List.mem_of_getElem? (i := 75) (by decide +kernel)) rfl
theorem wd_90 : (.fieldLink RX4 9 RX4 "letters" "[I" : Cond) ∈ lw_g := mg (List.mem_of_getElem? (i := 90) (by decide +kernel)) rfl
theorem wd_91 : (.fieldLink RX4 19 RX4 "length" "I" : Cond) ∈ lw_g := mg (List.mem_of_getElem? (i := 91) (by decide +kernel)) rfl
theorem wd_92 : (.fieldLink RX8 84 RX4 "length" "I" : Cond) ∈ lw_g := mg (List.mem_of_getElem? (i := 92) (by decide +kernel)) rfl
theorem wd_93 : (.fieldLink RX4 15 RX4 "faultPlace" "I" : Cond) ∈ lw_g := mg (List.mem_of_getElem? (i := 93) (by decide +kernel)) rfl
theorem wd_94 : (.fieldLink RX8 101 RX4 "faultPlace" "I" : Cond) ∈ lw_g := mg (List.mem_of_getElem? (i := 94) (by decide +kernel)) rfl
theorem wd_95 : (.fieldLink RX4 31 RX4 "faultKind" "I" : Cond) ∈ lw_g := mg (List.mem_of_getElem? (i := 95) (by decide +kernel)) rfl
theorem wd_96 : (.fieldLink RX4 28 RX4 "place" "I" : Cond) ∈ lw_g := mg (List.mem_of_getElem? (i := 96) (by decide +kernel)) rfl
theorem wd_97 : (.fieldLink RX4 92 RX4 "numberPlace" "I" : Cond) ∈ lw_g := mg (List.mem_of_getElem? (i := 97) (by decide +kernel)) rfl
theorem wd_118 : (.fieldLink RX3 36 RX3 "people" "I" : Cond) ∈ lw_g := mg (List.mem_of_getElem? (i := 118) (by decide +kernel)) rfl
theorem wd_119 : (.fieldLink RX1 22 RX3 "people" "I" : Cond) ∈ lw_g := mg (List.mem_of_getElem? (i := 119) (by decide +kernel)) rfl
theorem wd_120 : (.fieldLink RX7 28 RX3 "people" "I" : Cond) ∈ lw_g := mg (List.mem_of_getElem? (i := 120) (by decide +kernel)) rfl
theorem wd_121 : (.fieldLink RX8 98 RX3 "people" "I" : Cond) ∈ lw_g := mg (List.mem_of_getElem? (i := 121) (by decide +kernel)) rfl
theorem wd_122 : (.fieldLink RX4 77 RX3 "people" "I" : Cond) ∈ lw_g := mg (List.mem_of_getElem? (i := 122) (by decide +kernel)) rfl
theorem wd_123 : (.fieldLink RX2 73 RX3 "people" "I" : Cond) ∈ lw_g := mg (List.mem_of_getElem? (i := 123) (by decide +kernel)) rfl
theorem wd_124 : (.fieldLink RX3 40 RX3 "facts" "I" : Cond) ∈ lw_g := mg (List.mem_of_getElem? (i := 124) (by decide +kernel)) rfl
theorem wd_125 : (.fieldLink RX2 31 RX3 "facts" "I" : Cond) ∈ lw_g := mg (List.mem_of_getElem? (i := 125) (by decide +kernel)) rfl
theorem wd_126 : (.fieldLink RX7 33 RX3 "facts" "I" : Cond) ∈ lw_g := mg (List.mem_of_getElem? (i := 126) (by decide +kernel)) rfl
theorem wd_127 : (.fieldLink RX0 46 RX3 "facts" "I" : Cond) ∈ lw_g := mg (List.mem_of_getElem? (i := 127) (by decide +kernel)) rfl
theorem wd_128 : (.fieldLink RX5 32 RX3 "facts" "I" : Cond) ∈ lw_g := mg (List.mem_of_getElem? (i := 128) (by decide +kernel)) rfl
theorem wd_129 : (.fieldLink RX8 104 RX3 "facts" "I" : Cond) ∈ lw_g := mg (List.mem_of_getElem? (i := 129) (by decide +kernel)) rfl
theorem wd_130 : (.fieldLink RX4 80 RX3 "facts" "I" : Cond) ∈ lw_g := mg (List.mem_of_getElem? (i := 130) (by decide +kernel)) rfl
theorem wd_131 : (.fieldLink RX3 43 RX3 "friendships" "I" : Cond) ∈ lw_g := mg (List.mem_of_getElem? (i := 131) (by decide +kernel)) rfl
theorem wd_132 : (.fieldLink RX8 107 RX3 "friendships" "I" : Cond) ∈ lw_g := mg (List.mem_of_getElem? (i := 132) (by decide +kernel)) rfl
theorem wd_133 : (.fieldLink RX4 83 RX3 "friendships" "I" : Cond) ∈ lw_g := mg (List.mem_of_getElem? (i := 133) (by decide +kernel)) rfl
theorem wd_134 : (.fieldLink RX3 46 RX3 "bridges" "I" : Cond) ∈ lw_g := mg (List.mem_of_getElem? (i := 134) (by decide +kernel)) rfl
theorem wd_135 : (.fieldLink RX8 110 RX3 "bridges" "I" : Cond) ∈ lw_g := mg (List.mem_of_getElem? (i := 135) (by decide +kernel)) rfl
theorem wd_136 : (.fieldLink RX4 86 RX3 "bridges" "I" : Cond) ∈ lw_g := mg (List.mem_of_getElem? (i := 136) (by decide +kernel)) rfl
theorem wd_137 : (.fieldLink RX3 49 RX3 "memory" "I" : Cond) ∈ lw_g := mg (List.mem_of_getElem? (i := 137) (by decide +kernel)) rfl
theorem wd_138 : (.fieldLink RX8 113 RX3 "memory" "I" : Cond) ∈ lw_g := mg (List.mem_of_getElem? (i := 138) (by decide +kernel)) rfl
theorem wd_139 : (.fieldLink RX4 89 RX3 "memory" "I" : Cond) ∈ lw_g := mg (List.mem_of_getElem? (i := 139) (by decide +kernel)) rfl
theorem wd_140 : (.fieldLink RX2 86 RX3 "memory" "I" : Cond) ∈ lw_g := mg (List.mem_of_getElem? (i := 140) (by decide +kernel)) rfl
theorem wd_141 : (.fieldLink RX3 52 RX3 "quiet" "I" : Cond) ∈ lw_g := mg (List.mem_of_getElem? (i := 141) (by decide +kernel)) rfl
theorem wd_142 : (.fieldLink RX8 119 RX3 "quiet" "I" : Cond) ∈ lw_g := mg (List.mem_of_getElem? (i := 142) (by decide +kernel)) rfl
theorem wd_143 : (.fieldLink RX4 130 RX3 "quiet" "I" : Cond) ∈ lw_g := mg (List.mem_of_getElem? (i := 143) (by decide +kernel)) rfl
theorem wd_144 : (.fieldLink RX0 20 RX3 "lieFacts" "I" : Cond) ∈ lw_g := mg (List.mem_of_getElem? (i := 144) (by decide +kernel)) rfl
theorem wd_145 : (.fieldLink RX3 55 RX3 "lieFacts" "I" : Cond) ∈ lw_g := mg (List.mem_of_getElem? (i := 145) (by decide +kernel)) rfl
theorem wd_146 : (.fieldLink RX2 67 RX3 "lieFacts" "I" : Cond) ∈ lw_g := mg (List.mem_of_getElem? (i := 146) (by decide +kernel)) rfl
theorem wd_147 : (.fieldLink RX8 268 RX3 "lieFacts" "I" : Cond) ∈ lw_g := mg (List.mem_of_getElem? (i := 147) (by decide +kernel)) rfl
theorem wd_148 : (.fieldLink RX3 58 RX3 "factsWithKnowers" "I" : Cond) ∈ lw_g := mg (List.mem_of_getElem? (i := 148) (by decide +kernel)) rfl
theorem wd_149 : (.fieldLink RX4 111 RX3 "factsWithKnowers" "I" : Cond) ∈ lw_g := mg (List.mem_of_getElem? (i := 149) (by decide +kernel)) rfl
theorem wd_150 : (.fieldLink RX3 9 RX3 "owner" "[I" : Cond) ∈ lw_g := mg (List.mem_of_getElem? (i := 150) (by decide +kernel)) rfl
theorem wd_151 : (.fieldLink RX0 49 RX3 "owner" "[I" : Cond) ∈ lw_g := mg (List.mem_of_getElem? (i := 151) (by decide +kernel)) rfl
theorem wd_152 : (.fieldLink RX8 130 RX3 "owner" "[I" : Cond) ∈ lw_g := mg (List.mem_of_getElem? (i := 152) (by decide +kernel)) rfl
theorem wd_153 : (.fieldLink RX2 48 RX3 "owner" "[I" : Cond) ∈ lw_g := mg (List.mem_of_getElem? (i := 153) (by decide +kernel)) rfl
theorem wd_154 : (.fieldLink RX3 15 RX3 "grams" "[I" : Cond) ∈ lw_g := mg (List.mem_of_getElem? (i := 154) (by decide +kernel)) rfl
theorem wd_155 : (.fieldLink RX7 40 RX3 "grams" "[I" : Cond) ∈ lw_g := mg (List.mem_of_getElem? (i := 155) (by decide +kernel)) rfl
theorem wd_156 : (.fieldLink RX5 38 RX3 "grams" "[I" : Cond) ∈ lw_g := mg (List.mem_of_getElem? (i := 156) (by decide +kernel)) rfl
theorem wd_157 : (.fieldLink RX8 134 RX3 "grams" "[I" : Cond) ∈ lw_g := mg (List.mem_of_getElem? (i := 157) (by decide +kernel)) rfl
theorem wd_158 : (.fieldLink RX2 61 RX3 "grams" "[I" : Cond) ∈ lw_g := mg (List.mem_of_getElem? (i := 158) (by decide +kernel)) rfl
theorem wd_159 : (.fieldLink RX3 18 RX3 "firstKnowers" "[I" : Cond) ∈ lw_g := mg (List.mem_of_getElem? (i := 159) (by decide +kernel)) rfl
theorem wd_160 : (.fieldLink RX2 36 RX3 "firstKnowers" "[I" : Cond) ∈ lw_g := mg (List.mem_of_getElem? (i := 160) (by decide +kernel)) rfl
theorem wd_161 : (.fieldLink RX4 117 RX3 "firstKnowers" "[I" : Cond) ∈ lw_g := mg (List.mem_of_getElem? (i := 161) (by decide +kernel)) rfl
theorem wd_162 : (.fieldLink RX3 21 RX3 "factsOf" "[I" : Cond) ∈ lw_g := mg (List.mem_of_getElem? (i := 162) (by decide +kernel)) rfl
theorem wd_163 : (.fieldLink RX0 15 RX3 "factsOf" "[I" : Cond) ∈ lw_g := mg (List.mem_of_getElem? (i := 163) (by decide +kernel)) rfl
theorem wd_164 : (.fieldLink RX8 153 RX3 "factsOf" "[I" : Cond) ∈ lw_g := mg (List.mem_of_getElem? (i := 164) (by decide +kernel)) rfl
theorem wd_165 : (.fieldLink RX2 64 RX3 "factsOf" "[I" : Cond) ∈ lw_g := mg (List.mem_of_getElem? (i := 165) (by decide +kernel)) rfl
theorem wd_166 : (.fieldLink RX3 24 RX3 "friends" "[I" : Cond) ∈ lw_g := mg (List.mem_of_getElem? (i := 166) (by decide +kernel)) rfl
theorem wd_167 : (.fieldLink RX8 150 RX3 "friends" "[I" : Cond) ∈ lw_g := mg (List.mem_of_getElem? (i := 167) (by decide +kernel)) rfl
theorem wd_168 : (.fieldLink RX4 120 RX3 "friends" "[I" : Cond) ∈ lw_g := mg (List.mem_of_getElem? (i := 168) (by decide +kernel)) rfl
theorem wd_169 : (.fieldLink RX2 112 RX3 "friends" "[I" : Cond) ∈ lw_g := mg (List.mem_of_getElem? (i := 169) (by decide +kernel)) rfl
theorem wd_170 : (.fieldLink RX3 27 RX3 "oneFriend" "[I" : Cond) ∈ lw_g := mg (List.mem_of_getElem? (i := 170) (by decide +kernel)) rfl
theorem wd_171 : (.fieldLink RX3 30 RX3 "otherFriend" "[I" : Cond) ∈ lw_g := mg (List.mem_of_getElem? (i := 171) (by decide +kernel)) rfl
theorem wd_173 : (.fieldLink RX8 176 RX3 "bears" "[I" : Cond) ∈ lw_g := mg (List.mem_of_getElem? (i := 173) (by decide +kernel)) rfl
theorem wd_174 : (.fieldLink RX4 133 RX3 "bears" "[I" : Cond) ∈ lw_g := mg (List.mem_of_getElem? (i := 174) (by decide +kernel)) rfl
theorem wd_214 : (.fieldLink RX2 21 RX2 "hours" "I" : Cond) ∈ lw_g := mg (List.mem_of_getElem? (i := 214) (by decide +kernel)) rfl
theorem wd_215 : (.fieldLink RX8 116 RX2 "hours" "I" : Cond) ∈ lw_g := mg (List.mem_of_getElem? (i := 215) (by decide +kernel)) rfl
theorem wd_216 : (.fieldLink RX2 39 RX2 "drawn" "I" : Cond) ∈ lw_g := mg (List.mem_of_getElem? (i := 216) (by decide +kernel)) rfl
theorem wd_217 : (.fieldLink RX8 282 RX2 "drawn" "I" : Cond) ∈ lw_g := mg (List.mem_of_getElem? (i := 217) (by decide +kernel)) rfl
theorem wd_218 : (.fieldLink RX2 9 RX2 "knowers" "[I" : Cond) ∈ lw_g := mg (List.mem_of_getElem? (i := 218) (by decide +kernel)) rfl
theorem wd_219 : (.fieldLink RX8 140 RX2 "knowers" "[I" : Cond) ∈ lw_g := mg (List.mem_of_getElem? (i := 219) (by decide +kernel)) rfl
theorem wd_220 : (.fieldLink RX2 15 RX2 "hearers" "[I" : Cond) ∈ lw_g := mg (List.mem_of_getElem? (i := 220) (by decide +kernel)) rfl
theorem wd_221 : (.fieldLink RX2 18 RX2 "heard" "[I" : Cond) ∈ lw_g := mg (List.mem_of_getElem? (i := 221) (by decide +kernel)) rfl
theorem wd_240 : (.fieldLink RX6 18 RX6 "count" "I" : Cond) ∈ lw_g := mg (List.mem_of_getElem? (i := 240) (by decide +kernel)) rfl
theorem wd_241 : (.fieldLink RX8 92 RX6 "count" "I" : Cond) ∈ lw_g := mg (List.mem_of_getElem? (i := 241) (by decide +kernel)) rfl
theorem wd_242 : (.fieldLink RX6 9 RX6 "whom" "[I" : Cond) ∈ lw_g := mg (List.mem_of_getElem? (i := 242) (by decide +kernel)) rfl
theorem wd_243 : (.fieldLink RX6 15 RX6 "grams" "[I" : Cond) ∈ lw_g := mg (List.mem_of_getElem? (i := 243) (by decide +kernel)) rfl
theorem wd_257 : (.fieldLink RX1 9 RX1 "fewest" "[I" : Cond) ∈ lw_g := mg (List.mem_of_getElem? (i := 257) (by decide +kernel)) rfl
theorem wd_258 : (.fieldLink RX8 219 RX1 "fewest" "[I" : Cond) ∈ lw_g := mg (List.mem_of_getElem? (i := 258) (by decide +kernel)) rfl
theorem wd_259 : (.fieldLink RX1 15 RX1 "loads" "[I" : Cond) ∈ lw_g := mg (List.mem_of_getElem? (i := 259) (by decide +kernel)) rfl
theorem wd_260 : (.fieldLink RX1 18 RX1 "bears" "I" : Cond) ∈ lw_g := mg (List.mem_of_getElem? (i := 260) (by decide +kernel)) rfl
theorem wd_274 : (.fieldLink RX7 9 RX7 "row" "[I" : Cond) ∈ lw_g := mg (List.mem_of_getElem? (i := 274) (by decide +kernel)) rfl
theorem wd_275 : (.fieldLink RX7 21 RX7 "lowest" "I" : Cond) ∈ lw_g := mg (List.mem_of_getElem? (i := 275) (by decide +kernel)) rfl
theorem wd_276 : (.fieldLink RX7 25 RX7 "top" "I" : Cond) ∈ lw_g := mg (List.mem_of_getElem? (i := 276) (by decide +kernel)) rfl
theorem wd_290 : (.fieldLink RX0 9 RX0 "row" "[I" : Cond) ∈ lw_g := mg (List.mem_of_getElem? (i := 290) (by decide +kernel)) rfl
theorem wd_291 : (.fieldLink RX0 30 RX0 "lowest" "I" : Cond) ∈ lw_g := mg (List.mem_of_getElem? (i := 291) (by decide +kernel)) rfl
theorem wd_292 : (.fieldLink RX0 33 RX0 "from" "I" : Cond) ∈ lw_g := mg (List.mem_of_getElem? (i := 292) (by decide +kernel)) rfl
theorem wd_293 : (.fieldLink RX0 36 RX0 "to" "I" : Cond) ∈ lw_g := mg (List.mem_of_getElem? (i := 293) (by decide +kernel)) rfl
theorem wd_309 : (.fieldLink RX5 9 RX5 "leastOfOne" "[I" : Cond) ∈ lw_g := mg (List.mem_of_getElem? (i := 309) (by decide +kernel)) rfl
theorem wd_310 : (.fieldLink RX8 262 RX5 "leastOfOne" "[I" : Cond) ∈ lw_g := mg (List.mem_of_getElem? (i := 310) (by decide +kernel)) rfl
theorem wd_311 : (.fieldLink RX5 15 RX5 "leastOfOther" "[I" : Cond) ∈ lw_g := mg (List.mem_of_getElem? (i := 311) (by decide +kernel)) rfl
theorem wd_312 : (.fieldLink RX8 265 RX5 "leastOfOther" "[I" : Cond) ∈ lw_g := mg (List.mem_of_getElem? (i := 312) (by decide +kernel)) rfl
theorem wd_318 : (.fieldLink RX8 12 RX8 "text" "LKnownWeight$LandText;" : Cond) ∈ lw_g := mg (List.mem_of_getElem? (i := 318) (by decide +kernel)) rfl
theorem wd_319 : (.fieldLink RX8 19 RX8 "here" "LKnownWeight$Land;" : Cond) ∈ lw_g := mg (List.mem_of_getElem? (i := 319) (by decide +kernel)) rfl
theorem wd_320 : (.fieldLink RX8 23 RX8 "draft" "LKnownWeight$Land;" : Cond) ∈ lw_g := mg (List.mem_of_getElem? (i := 320) (by decide +kernel)) rfl
theorem wd_321 : (.fieldLink RX8 29 RX8 "now" "LKnownWeight$Heads;" : Cond) ∈ lw_g := mg (List.mem_of_getElem? (i := 321) (by decide +kernel)) rfl
theorem wd_322 : (.fieldLink RX8 33 RX8 "tried" "LKnownWeight$Heads;" : Cond) ∈ lw_g := mg (List.mem_of_getElem? (i := 322) (by decide +kernel)) rfl
theorem wd_323 : (.fieldLink RX8 36 RX8 "images" "[LKnownWeight$Heads;" : Cond) ∈ lw_g := mg (List.mem_of_getElem? (i := 323) (by decide +kernel)) rfl
theorem wd_324 : (.fieldLink RX8 95 RX8 "kept" "I" : Cond) ∈ lw_g := mg (List.mem_of_getElem? (i := 324) (by decide +kernel)) rfl
theorem wd_325 : (.fieldLink RX8 43 RX8 "scales" "LKnownWeight$Scales;" : Cond) ∈ lw_g := mg (List.mem_of_getElem? (i := 325) (by decide +kernel)) rfl
theorem wd_326 : (.fieldLink RX8 50 RX8 "ferry" "LKnownWeight$Ferry;" : Cond) ∈ lw_g := mg (List.mem_of_getElem? (i := 326) (by decide +kernel)) rfl
theorem wd_327 : (.fieldLink RX8 57 RX8 "ways" "LKnownWeight$Ways;" : Cond) ∈ lw_g := mg (List.mem_of_getElem? (i := 327) (by decide +kernel)) rfl
theorem wd_328 : (.fieldLink RX8 64 RX8 "chances" "LKnownWeight$Chances;" : Cond) ∈ lw_g := mg (List.mem_of_getElem? (i := 328) (by decide +kernel)) rfl
theorem wd_329 : (.fieldLink RX8 71 RX8 "pact" "LKnownWeight$Pact;" : Cond) ∈ lw_g := mg (List.mem_of_getElem? (i := 329) (by decide +kernel)) rfl
theorem wd_356 : (.instanceMethod yX8_feed : Cond) ∈ lw_g := mg (List.mem_of_getElem? (i := 356) (by decide +kernel)) rfl
theorem wd_357 : (.selects RX8 yX8_feed yX8_feed : Cond) ∈ lw_g := mg (List.mem_of_getElem? (i := 357) (by decide +kernel)) rfl
theorem wd_358 : (.code yX8_feed cX8_feed 2 (some .int) : Cond) ∈ lw_g := mg (List.mem_of_getElem? (i := 358) (by decide +kernel)) rfl
theorem wd_359 : (.constant RX8 75 (-1000000002) : Cond) ∈ lw_g := mg (List.mem_of_getElem? (i := 359) (by decide +kernel)) rfl
theorem wd_360 : (.methodLink RX8 76 yX4_add : Cond) ∈ lw_g := mg (List.mem_of_getElem? (i := 360) (by decide +kernel)) rfl
theorem wd_361 : (.instanceMethod yX4_add : Cond) ∈ lw_g := mg (List.mem_of_getElem? (i := 361) (by decide +kernel)) rfl
theorem wd_362 : (.selects RX4 yX4_add yX4_add : Cond) ∈ lw_g := mg (List.mem_of_getElem? (i := 362) (by decide +kernel)) rfl
theorem wd_363 : (.code yX4_add cX4_add 2 (some .int) : Cond) ∈ lw_g := mg (List.mem_of_getElem? (i := 363) (by decide +kernel)) rfl
theorem wd_364 : (.constant RX4 22 (-1000000004) : Cond) ∈ lw_g := mg (List.mem_of_getElem? (i := 364) (by decide +kernel)) rfl
theorem wd_366 : (.instanceMethod yX8_land : Cond) ∈ lw_g := mg (List.mem_of_getElem? (i := 366) (by decide +kernel)) rfl
theorem wd_367 : (.selects RX8 yX8_land yX8_land : Cond) ∈ lw_g := mg (List.mem_of_getElem? (i := 367) (by decide +kernel)) rfl
theorem wd_368 : (.code yX8_land cX8_land 3 (some .int) : Cond) ∈ lw_g := mg (List.mem_of_getElem? (i := 368) (by decide +kernel)) rfl
theorem wd_369 : (.methodLink RX8 80 yX4_readInto : Cond) ∈ lw_g := mg (List.mem_of_getElem? (i := 369) (by decide +kernel)) rfl
theorem wd_370 : (.instanceMethod yX4_readInto : Cond) ∈ lw_g := mg (List.mem_of_getElem? (i := 370) (by decide +kernel)) rfl
theorem wd_371 : (.selects RX4 yX4_readInto yX4_readInto : Cond) ∈ lw_g := mg (List.mem_of_getElem? (i := 371) (by decide +kernel)) rfl
theorem wd_372 : (.code yX4_readInto cX4_readInto 3 (some .int) : Cond) ∈ lw_g := mg (List.mem_of_getElem? (i := 372) (by decide +kernel)) rfl
theorem wd_373 : (.methodLink RX4 23 yX3_clear : Cond) ∈ lw_g := mg (List.mem_of_getElem? (i := 373) (by decide +kernel)) rfl
theorem wd_374 : (.instanceMethod yX3_clear : Cond) ∈ lw_g := mg (List.mem_of_getElem? (i := 374) (by decide +kernel)) rfl
theorem wd_375 : (.selects RX3 yX3_clear yX3_clear : Cond) ∈ lw_g := mg (List.mem_of_getElem? (i := 375) (by decide +kernel)) rfl
theorem wd_376 : (.code yX3_clear cX3_clear 1 none : Cond) ∈ lw_g := mg (List.mem_of_getElem? (i := 376) (by decide +kernel)) rfl
theorem wd_377 : (.methodLink RX3 61 yJ7_fill_53178 : Cond) ∈ lw_g := mg (List.mem_of_getElem? (i := 377) (by decide +kernel)) rfl
theorem wd_378 : (.static yJ7_fill_53178 : Cond) ∈ lw_g := mg (List.mem_of_getElem? (i := 378) (by decide +kernel)) rfl
theorem wd_379 : (.code yJ7_fill_53178 cJ7_fill_53178 4 none : Cond) ∈ lw_g := mg (List.mem_of_getElem? (i := 379) (by decide +kernel)) rfl
theorem wd_380 : (.methodLink RX4 34 yX4_skipBlanks : Cond) ∈ lw_g := mg (List.mem_of_getElem? (i := 380) (by decide +kernel)) rfl
theorem wd_382 : (.instanceMethod yX4_skipBlanks : Cond) ∈ lw_g := mg (List.mem_of_getElem? (i := 382) (by decide +kernel)) rfl
theorem wd_383 : (.code yX4_skipBlanks cX4_skipBlanks 1 none : Cond) ∈ lw_g := mg (List.mem_of_getElem? (i := 383) (by decide +kernel)) rfl
theorem wd_384 : (.methodLink RX4 41 yX4_letterHere : Cond) ∈ lw_g := mg (List.mem_of_getElem? (i := 384) (by decide +kernel)) rfl
theorem wd_386 : (.instanceMethod yX4_letterHere : Cond) ∈ lw_g := mg (List.mem_of_getElem? (i := 386) (by decide +kernel)) rfl
theorem wd_387 : (.code yX4_letterHere cX4_letterHere 1 (some .int) : Cond) ∈ lw_g := mg (List.mem_of_getElem? (i := 387) (by decide +kernel)) rfl
theorem wd_388 : (.methodLink RX4 37 yX4_readClause : Cond) ∈ lw_g := mg (List.mem_of_getElem? (i := 388) (by decide +kernel)) rfl
theorem wd_390 : (.instanceMethod yX4_readClause : Cond) ∈ lw_g := mg (List.mem_of_getElem? (i := 390) (by decide +kernel)) rfl
theorem wd_391 : (.code yX4_readClause cX4_readClause 4 none : Cond) ∈ lw_g := mg (List.mem_of_getElem? (i := 391) (by decide +kernel)) rfl
theorem wd_392 : (.methodLink RX4 45 yX4_faultOfWord : Cond) ∈ lw_g := mg (List.mem_of_getElem? (i := 392) (by decide +kernel)) rfl
theorem wd_394 : (.instanceMethod yX4_faultOfWord : Cond) ∈ lw_g := mg (List.mem_of_getElem? (i := 394) (by decide +kernel)) rfl
theorem wd_395 : (.code yX4_faultOfWord cX4_faultOfWord 3 (some .int) : Cond) ∈ lw_g := mg (List.mem_of_getElem? (i := 395) (by decide +kernel)) rfl
theorem wd_396 : (.methodLink RX4 49 yX4_blame : Cond) ∈ lw_g := mg (List.mem_of_getElem? (i := 396) (by decide +kernel)) rfl
theorem wd_398 : (.instanceMethod yX4_blame : Cond) ∈ lw_g := mg (List.mem_of_getElem? (i := 398) (by decide +kernel)) rfl
theorem wd_399 : (.code yX4_blame cX4_blame 3 none : Cond) ∈ lw_g := mg (List.mem_of_getElem? (i := 399) (by decide +kernel)) rfl
theorem wd_400 : (.methodLink RX4 53 yX4_readPeople : Cond) ∈ lw_g := mg (List.mem_of_getElem? (i := 400) (by decide +kernel)) rfl
theorem wd_402 : (.instanceMethod yX4_readPeople : Cond) ∈ lw_g := mg (List.mem_of_getElem? (i := 402) (by decide +kernel)) rfl
theorem wd_403 : (.code yX4_readPeople cX4_readPeople 3 none : Cond) ∈ lw_g := mg (List.mem_of_getElem? (i := 403) (by decide +kernel)) rfl
theorem wd_404 : (.methodLink RX4 99 yX4_readNumber : Cond) ∈ lw_g := mg (List.mem_of_getElem? (i := 404) (by decide +kernel)) rfl
theorem wd_406 : (.instanceMethod yX4_readNumber : Cond) ∈ lw_g := mg (List.mem_of_getElem? (i := 406) (by decide +kernel)) rfl
theorem wd_407 : (.code yX4_readNumber cX4_readNumber 4 (some .int) : Cond) ∈ lw_g := mg (List.mem_of_getElem? (i := 407) (by decide +kernel)) rfl
theorem wd_408 : (.methodLink RX4 95 yX4_isFigureHere : Cond) ∈ lw_g := mg (List.mem_of_getElem? (i := 408) (by decide +kernel)) rfl
theorem wd_410 : (.instanceMethod yX4_isFigureHere : Cond) ∈ lw_g := mg (List.mem_of_getElem? (i := 410) (by decide +kernel)) rfl
theorem wd_411 : (.code yX4_isFigureHere cX4_isFigureHere 1 (some .boolean) : Cond) ∈ lw_g := mg (List.mem_of_getElem? (i := 411) (by decide +kernel)) rfl
theorem wd_412 : (.methodLink RX4 56 yX4_readFact : Cond) ∈ lw_g := mg (List.mem_of_getElem? (i := 412) (by decide +kernel)) rfl
theorem wd_414 : (.instanceMethod yX4_readFact : Cond) ∈ lw_g := mg (List.mem_of_getElem? (i := 414) (by decide +kernel)) rfl
theorem wd_415 : (.code yX4_readFact cX4_readFact 5 none : Cond) ∈ lw_g := mg (List.mem_of_getElem? (i := 415) (by decide +kernel)) rfl
theorem wd_416 : (.methodLink RX4 103 yX4_readPerson : Cond) ∈ lw_g := mg (List.mem_of_getElem? (i := 416) (by decide +kernel)) rfl
theorem wd_418 : (.instanceMethod yX4_readPerson : Cond) ∈ lw_g := mg (List.mem_of_getElem? (i := 418) (by decide +kernel)) rfl
theorem wd_419 : (.code yX4_readPerson cX4_readPerson 2 (some .int) : Cond) ∈ lw_g := mg (List.mem_of_getElem? (i := 419) (by decide +kernel)) rfl
theorem wd_420 : (.methodLink RX4 107 yX3_addFact : Cond) ∈ lw_g := mg (List.mem_of_getElem? (i := 420) (by decide +kernel)) rfl
theorem wd_421 : (.instanceMethod yX3_addFact : Cond) ∈ lw_g := mg (List.mem_of_getElem? (i := 421) (by decide +kernel)) rfl
theorem wd_422 : (.selects RX3 yX3_addFact yX3_addFact : Cond) ∈ lw_g := mg (List.mem_of_getElem? (i := 422) (by decide +kernel)) rfl
theorem wd_423 : (.code yX3_addFact cX3_addFact 4 none : Cond) ∈ lw_g := mg (List.mem_of_getElem? (i := 423) (by decide +kernel)) rfl
theorem wd_424 : (.methodLink RX4 59 yX4_readKnowers : Cond) ∈ lw_g := mg (List.mem_of_getElem? (i := 424) (by decide +kernel)) rfl
theorem wd_426 : (.instanceMethod yX4_readKnowers : Cond) ∈ lw_g := mg (List.mem_of_getElem? (i := 426) (by decide +kernel)) rfl
theorem wd_427 : (.code yX4_readKnowers cX4_readKnowers 4 none : Cond) ∈ lw_g := mg (List.mem_of_getElem? (i := 427) (by decide +kernel)) rfl
theorem wd_428 : (.methodLink RX4 114 yX3_everybody : Cond) ∈ lw_g := mg (List.mem_of_getElem? (i := 428) (by decide +kernel)) rfl
theorem wd_429 : (.instanceMethod yX3_everybody : Cond) ∈ lw_g := mg (List.mem_of_getElem? (i := 429) (by decide +kernel)) rfl
theorem wd_430 : (.selects RX3 yX3_everybody yX3_everybody : Cond) ∈ lw_g := mg (List.mem_of_getElem? (i := 430) (by decide +kernel)) rfl
theorem wd_431 : (.code yX3_everybody cX3_everybody 1 (some .int) : Cond) ∈ lw_g := mg (List.mem_of_getElem? (i := 431) (by decide +kernel)) rfl
theorem wd_432 : (.methodLink RX4 62 yX4_readFriendship : Cond) ∈ lw_g := mg (List.mem_of_getElem? (i := 432) (by decide +kernel)) rfl
theorem wd_434 : (.instanceMethod yX4_readFriendship : Cond) ∈ lw_g := mg (List.mem_of_getElem? (i := 434) (by decide +kernel)) rfl
theorem wd_435 : (.code yX4_readFriendship cX4_readFriendship 4 none : Cond) ∈ lw_g := mg (List.mem_of_getElem? (i := 435) (by decide +kernel)) rfl
theorem wd_436 : (.methodLink RX4 123 yX3_addFriendship : Cond) ∈ lw_g := mg (List.mem_of_getElem? (i := 436) (by decide +kernel)) rfl
theorem wd_437 : (.instanceMethod yX3_addFriendship : Cond) ∈ lw_g := mg (List.mem_of_getElem? (i := 437) (by decide +kernel)) rfl
theorem wd_438 : (.selects RX3 yX3_addFriendship yX3_addFriendship : Cond) ∈ lw_g := mg (List.mem_of_getElem? (i := 438) (by decide +kernel)) rfl
theorem wd_439 : (.code yX3_addFriendship cX3_addFriendship 3 none : Cond) ∈ lw_g := mg (List.mem_of_getElem? (i := 439) (by decide +kernel)) rfl
theorem wd_440 : (.methodLink RX4 65 yX4_readQuiet : Cond) ∈ lw_g := mg (List.mem_of_getElem? (i := 440) (by decide +kernel)) rfl
theorem wd_442 : (.instanceMethod yX4_readQuiet : Cond) ∈ lw_g := mg (List.mem_of_getElem? (i := 442) (by decide +kernel)) rfl
theorem wd_443 : (.code yX4_readQuiet cX4_readQuiet 3 none : Cond) ∈ lw_g := mg (List.mem_of_getElem? (i := 443) (by decide +kernel)) rfl
theorem wd_444 : (.methodLink RX4 126 yX3_isQuiet : Cond) ∈ lw_g := mg (List.mem_of_getElem? (i := 444) (by decide +kernel)) rfl
theorem wd_445 : (.instanceMethod yX3_isQuiet : Cond) ∈ lw_g := mg (List.mem_of_getElem? (i := 445) (by decide +kernel)) rfl
theorem wd_446 : (.selects RX3 yX3_isQuiet yX3_isQuiet : Cond) ∈ lw_g := mg (List.mem_of_getElem? (i := 446) (by decide +kernel)) rfl
theorem wd_447 : (.code yX3_isQuiet cX3_isQuiet 2 (some .boolean) : Cond) ∈ lw_g := mg (List.mem_of_getElem? (i := 447) (by decide +kernel)) rfl
theorem wd_448 : (.methodLink RX4 68 yX4_readBridge : Cond) ∈ lw_g := mg (List.mem_of_getElem? (i := 448) (by decide +kernel)) rfl
theorem wd_450 : (.instanceMethod yX4_readBridge : Cond) ∈ lw_g := mg (List.mem_of_getElem? (i := 450) (by decide +kernel)) rfl
theorem wd_451 : (.code yX4_readBridge cX4_readBridge 3 none : Cond) ∈ lw_g := mg (List.mem_of_getElem? (i := 451) (by decide +kernel)) rfl
theorem wd_452 : (.methodLink RX4 71 yX4_readMemory : Cond) ∈ lw_g := mg (List.mem_of_getElem? (i := 452) (by decide +kernel)) rfl
theorem wd_454 : (.instanceMethod yX4_readMemory : Cond) ∈ lw_g := mg (List.mem_of_getElem? (i := 454) (by decide +kernel)) rfl
theorem wd_455 : (.code yX4_readMemory cX4_readMemory 3 none : Cond) ∈ lw_g := mg (List.mem_of_getElem? (i := 455) (by decide +kernel)) rfl
theorem wd_456 : (.methodLink RX4 74 yX4_readEnd : Cond) ∈ lw_g := mg (List.mem_of_getElem? (i := 456) (by decide +kernel)) rfl
theorem wd_458 : (.instanceMethod yX4_readEnd : Cond) ∈ lw_g := mg (List.mem_of_getElem? (i := 458) (by decide +kernel)) rfl
theorem wd_459 : (.code yX4_readEnd cX4_readEnd 1 none : Cond) ∈ lw_g := mg (List.mem_of_getElem? (i := 459) (by decide +kernel)) rfl
theorem wd_460 : (.methodLink RX8 88 yX2_begin : Cond) ∈ lw_g := mg (List.mem_of_getElem? (i := 460) (by decide +kernel)) rfl
theorem wd_461 : (.instanceMethod yX2_begin : Cond) ∈ lw_g := mg (List.mem_of_getElem? (i := 461) (by decide +kernel)) rfl
theorem wd_462 : (.selects RX2 yX2_begin yX2_begin : Cond) ∈ lw_g := mg (List.mem_of_getElem? (i := 462) (by decide +kernel)) rfl
theorem wd_463 : (.code yX2_begin cX2_begin 3 none : Cond) ∈ lw_g := mg (List.mem_of_getElem? (i := 463) (by decide +kernel)) rfl
theorem wd_464 : (.methodLink RX2 25 yJ7_fill_53178 : Cond) ∈ lw_g := mg (List.mem_of_getElem? (i := 464) (by decide +kernel)) rfl
theorem wd_466 : (.instanceMethod yX8_fault : Cond) ∈ lw_g := mg (List.mem_of_getElem? (i := 466) (by decide +kernel)) rfl
theorem wd_467 : (.selects RX8 yX8_fault yX8_fault : Cond) ∈ lw_g := mg (List.mem_of_getElem? (i := 467) (by decide +kernel)) rfl
theorem wd_468 : (.code yX8_fault cX8_fault 1 (some .int) : Cond) ∈ lw_g := mg (List.mem_of_getElem? (i := 468) (by decide +kernel)) rfl
theorem wd_470 : (.instanceMethod yX8_told : Cond) ∈ lw_g := mg (List.mem_of_getElem? (i := 470) (by decide +kernel)) rfl
theorem wd_471 : (.selects RX8 yX8_told yX8_told : Cond) ∈ lw_g := mg (List.mem_of_getElem? (i := 471) (by decide +kernel)) rfl
theorem wd_472 : (.code yX8_told cX8_told 2 (some .int) : Cond) ∈ lw_g := mg (List.mem_of_getElem? (i := 472) (by decide +kernel)) rfl
theorem wd_473 : (.methodLink RX8 122 yX2_allHeads : Cond) ∈ lw_g := mg (List.mem_of_getElem? (i := 473) (by decide +kernel)) rfl
theorem wd_474 : (.instanceMethod yX2_allHeads : Cond) ∈ lw_g := mg (List.mem_of_getElem? (i := 474) (by decide +kernel)) rfl
theorem wd_475 : (.selects RX2 yX2_allHeads yX2_allHeads : Cond) ∈ lw_g := mg (List.mem_of_getElem? (i := 475) (by decide +kernel)) rfl
theorem wd_476 : (.code yX2_allHeads cX2_allHeads 4 (some .int) : Cond) ∈ lw_g := mg (List.mem_of_getElem? (i := 476) (by decide +kernel)) rfl
theorem wd_477 : (.methodLink RX2 57 yX2_headsOf : Cond) ∈ lw_g := mg (List.mem_of_getElem? (i := 477) (by decide +kernel)) rfl
theorem wd_478 : (.instanceMethod yX2_headsOf : Cond) ∈ lw_g := mg (List.mem_of_getElem? (i := 478) (by decide +kernel)) rfl
theorem wd_479 : (.selects RX2 yX2_headsOf yX2_headsOf : Cond) ∈ lw_g := mg (List.mem_of_getElem? (i := 479) (by decide +kernel)) rfl
theorem wd_480 : (.code yX2_headsOf cX2_headsOf 3 (some .int) : Cond) ∈ lw_g := mg (List.mem_of_getElem? (i := 480) (by decide +kernel)) rfl
theorem wd_481 : (.methodLink RX2 51 yJ6_bitCount_0f7a4 : Cond) ∈ lw_g := mg (List.mem_of_getElem? (i := 481) (by decide +kernel)) rfl
theorem wd_482 : (.static yJ6_bitCount_0f7a4 : Cond) ∈ lw_g := mg (List.mem_of_getElem? (i := 482) (by decide +kernel)) rfl
theorem wd_483 : (.code yJ6_bitCount_0f7a4 cJ6_bitCount_0f7a4 1 (some .int) : Cond) ∈ lw_g := mg (List.mem_of_getElem? (i := 483) (by decide +kernel)) rfl
theorem wd_484 : (.constant RJ6 265 (1431655765) : Cond) ∈ lw_g := mg (List.mem_of_getElem? (i := 484) (by decide +kernel)) rfl
theorem wd_485 : (.constant RJ6 266 (858993459) : Cond) ∈ lw_g := mg (List.mem_of_getElem? (i := 485) (by decide +kernel)) rfl
theorem wd_486 : (.constant RJ6 267 (252645135) : Cond) ∈ lw_g := mg (List.mem_of_getElem? (i := 486) (by decide +kernel)) rfl
theorem wd_488 : (.instanceMethod yX8_fact : Cond) ∈ lw_g := mg (List.mem_of_getElem? (i := 488) (by decide +kernel)) rfl
theorem wd_489 : (.selects RX8 yX8_fact yX8_fact : Cond) ∈ lw_g := mg (List.mem_of_getElem? (i := 489) (by decide +kernel)) rfl
theorem wd_490 : (.code yX8_fact cX8_fact 3 (some .int) : Cond) ∈ lw_g := mg (List.mem_of_getElem? (i := 490) (by decide +kernel)) rfl
theorem wd_491 : (.methodLink RX8 125 yX3_hasFact : Cond) ∈ lw_g := mg (List.mem_of_getElem? (i := 491) (by decide +kernel)) rfl
theorem wd_492 : (.instanceMethod yX3_hasFact : Cond) ∈ lw_g := mg (List.mem_of_getElem? (i := 492) (by decide +kernel)) rfl
theorem wd_493 : (.selects RX3 yX3_hasFact yX3_hasFact : Cond) ∈ lw_g := mg (List.mem_of_getElem? (i := 493) (by decide +kernel)) rfl
theorem wd_494 : (.code yX3_hasFact cX3_hasFact 2 (some .boolean) : Cond) ∈ lw_g := mg (List.mem_of_getElem? (i := 494) (by decide +kernel)) rfl
theorem wd_495 : (.constant RX8 129 (-1000000001) : Cond) ∈ lw_g := mg (List.mem_of_getElem? (i := 495) (by decide +kernel)) rfl
theorem wd_496 : (.methodLink RX8 137 yX3_isLie : Cond) ∈ lw_g := mg (List.mem_of_getElem? (i := 496) (by decide +kernel)) rfl
theorem wd_497 : (.instanceMethod yX3_isLie : Cond) ∈ lw_g := mg (List.mem_of_getElem? (i := 497) (by decide +kernel)) rfl
theorem wd_498 : (.selects RX3 yX3_isLie yX3_isLie : Cond) ∈ lw_g := mg (List.mem_of_getElem? (i := 498) (by decide +kernel)) rfl
theorem wd_499 : (.code yX3_isLie cX3_isLie 2 (some .boolean) : Cond) ∈ lw_g := mg (List.mem_of_getElem? (i := 499) (by decide +kernel)) rfl
theorem wd_500 : (.methodLink RX8 143 yX2_headsOf : Cond) ∈ lw_g := mg (List.mem_of_getElem? (i := 500) (by decide +kernel)) rfl
theorem wd_502 : (.instanceMethod yX8_person : Cond) ∈ lw_g := mg (List.mem_of_getElem? (i := 502) (by decide +kernel)) rfl
theorem wd_503 : (.selects RX8 yX8_person yX8_person : Cond) ∈ lw_g := mg (List.mem_of_getElem? (i := 503) (by decide +kernel)) rfl
theorem wd_504 : (.code yX8_person cX8_person 3 (some .int) : Cond) ∈ lw_g := mg (List.mem_of_getElem? (i := 504) (by decide +kernel)) rfl
theorem wd_505 : (.methodLink RX8 147 yX3_hasPerson : Cond) ∈ lw_g := mg (List.mem_of_getElem? (i := 505) (by decide +kernel)) rfl
theorem wd_506 : (.instanceMethod yX3_hasPerson : Cond) ∈ lw_g := mg (List.mem_of_getElem? (i := 506) (by decide +kernel)) rfl
theorem wd_507 : (.selects RX3 yX3_hasPerson yX3_hasPerson : Cond) ∈ lw_g := mg (List.mem_of_getElem? (i := 507) (by decide +kernel)) rfl
theorem wd_508 : (.code yX3_hasPerson cX3_hasPerson 2 (some .boolean) : Cond) ∈ lw_g := mg (List.mem_of_getElem? (i := 508) (by decide +kernel)) rfl
theorem wd_509 : (.methodLink RX8 156 yX2_factsIn : Cond) ∈ lw_g := mg (List.mem_of_getElem? (i := 509) (by decide +kernel)) rfl
theorem wd_510 : (.instanceMethod yX2_factsIn : Cond) ∈ lw_g := mg (List.mem_of_getElem? (i := 510) (by decide +kernel)) rfl
theorem wd_511 : (.selects RX2 yX2_factsIn yX2_factsIn : Cond) ∈ lw_g := mg (List.mem_of_getElem? (i := 511) (by decide +kernel)) rfl
theorem wd_512 : (.code yX2_factsIn cX2_factsIn 4 (some .int) : Cond) ∈ lw_g := mg (List.mem_of_getElem? (i := 512) (by decide +kernel)) rfl
theorem wd_513 : (.methodLink RX8 159 yX3_isQuiet : Cond) ∈ lw_g := mg (List.mem_of_getElem? (i := 513) (by decide +kernel)) rfl
theorem wd_515 : (.instanceMethod yX8_since : Cond) ∈ lw_g := mg (List.mem_of_getElem? (i := 515) (by decide +kernel)) rfl
theorem wd_516 : (.selects RX8 yX8_since yX8_since : Cond) ∈ lw_g := mg (List.mem_of_getElem? (i := 516) (by decide +kernel)) rfl
theorem wd_517 : (.code yX8_since cX8_since 3 (some .int) : Cond) ∈ lw_g := mg (List.mem_of_getElem? (i := 517) (by decide +kernel)) rfl
theorem wd_518 : (.methodLink RX8 162 yX2_knows : Cond) ∈ lw_g := mg (List.mem_of_getElem? (i := 518) (by decide +kernel)) rfl
theorem wd_519 : (.instanceMethod yX2_knows : Cond) ∈ lw_g := mg (List.mem_of_getElem? (i := 519) (by decide +kernel)) rfl
theorem wd_520 : (.selects RX2 yX2_knows yX2_knows : Cond) ∈ lw_g := mg (List.mem_of_getElem? (i := 520) (by decide +kernel)) rfl
theorem wd_521 : (.code yX2_knows cX2_knows 3 (some .boolean) : Cond) ∈ lw_g := mg (List.mem_of_getElem? (i := 521) (by decide +kernel)) rfl
theorem wd_522 : (.methodLink RX8 166 yX2_heardAt : Cond) ∈ lw_g := mg (List.mem_of_getElem? (i := 522) (by decide +kernel)) rfl
theorem wd_523 : (.instanceMethod yX2_heardAt : Cond) ∈ lw_g := mg (List.mem_of_getElem? (i := 523) (by decide +kernel)) rfl
theorem wd_524 : (.selects RX2 yX2_heardAt yX2_heardAt : Cond) ∈ lw_g := mg (List.mem_of_getElem? (i := 524) (by decide +kernel)) rfl
theorem wd_525 : (.code yX2_heardAt cX2_heardAt 3 (some .int) : Cond) ∈ lw_g := mg (List.mem_of_getElem? (i := 525) (by decide +kernel)) rfl
theorem wd_527 : (.instanceMethod yX8_weight : Cond) ∈ lw_g := mg (List.mem_of_getElem? (i := 527) (by decide +kernel)) rfl
theorem wd_528 : (.selects RX8 yX8_weight yX8_weight : Cond) ∈ lw_g := mg (List.mem_of_getElem? (i := 528) (by decide +kernel)) rfl
theorem wd_529 : (.code yX8_weight cX8_weight 2 (some .int) : Cond) ∈ lw_g := mg (List.mem_of_getElem? (i := 529) (by decide +kernel)) rfl
theorem wd_530 : (.methodLink RX8 170 yX2_load : Cond) ∈ lw_g := mg (List.mem_of_getElem? (i := 530) (by decide +kernel)) rfl
theorem wd_531 : (.instanceMethod yX2_load : Cond) ∈ lw_g := mg (List.mem_of_getElem? (i := 531) (by decide +kernel)) rfl
theorem wd_532 : (.selects RX2 yX2_load yX2_load : Cond) ∈ lw_g := mg (List.mem_of_getElem? (i := 532) (by decide +kernel)) rfl
theorem wd_533 : (.code yX2_load cX2_load 4 (some .int) : Cond) ∈ lw_g := mg (List.mem_of_getElem? (i := 533) (by decide +kernel)) rfl
theorem wd_534 : (.methodLink RX2 70 yX2_gramsOf : Cond) ∈ lw_g := mg (List.mem_of_getElem? (i := 534) (by decide +kernel)) rfl
theorem wd_535 : (.instanceMethod yX2_gramsOf : Cond) ∈ lw_g := mg (List.mem_of_getElem? (i := 535) (by decide +kernel)) rfl
theorem wd_536 : (.selects RX2 yX2_gramsOf yX2_gramsOf : Cond) ∈ lw_g := mg (List.mem_of_getElem? (i := 536) (by decide +kernel)) rfl
theorem wd_537 : (.code yX2_gramsOf cX2_gramsOf 5 (some .int) : Cond) ∈ lw_g := mg (List.mem_of_getElem? (i := 537) (by decide +kernel)) rfl
theorem wd_539 : (.instanceMethod yX8_bridge : Cond) ∈ lw_g := mg (List.mem_of_getElem? (i := 539) (by decide +kernel)) rfl
theorem wd_540 : (.selects RX8 yX8_bridge yX8_bridge : Cond) ∈ lw_g := mg (List.mem_of_getElem? (i := 540) (by decide +kernel)) rfl
theorem wd_541 : (.code yX8_bridge cX8_bridge 2 (some .int) : Cond) ∈ lw_g := mg (List.mem_of_getElem? (i := 541) (by decide +kernel)) rfl
theorem wd_542 : (.methodLink RX8 173 yX3_hasBridge : Cond) ∈ lw_g := mg (List.mem_of_getElem? (i := 542) (by decide +kernel)) rfl
theorem wd_543 : (.instanceMethod yX3_hasBridge : Cond) ∈ lw_g := mg (List.mem_of_getElem? (i := 543) (by decide +kernel)) rfl
theorem wd_544 : (.selects RX3 yX3_hasBridge yX3_hasBridge : Cond) ∈ lw_g := mg (List.mem_of_getElem? (i := 544) (by decide +kernel)) rfl
theorem wd_545 : (.code yX3_hasBridge cX3_hasBridge 2 (some .boolean) : Cond) ∈ lw_g := mg (List.mem_of_getElem? (i := 545) (by decide +kernel)) rfl
theorem wd_547 : (.instanceMethod yX8_tell : Cond) ∈ lw_g := mg (List.mem_of_getElem? (i := 547) (by decide +kernel)) rfl
theorem wd_548 : (.selects RX8 yX8_tell yX8_tell : Cond) ∈ lw_g := mg (List.mem_of_getElem? (i := 548) (by decide +kernel)) rfl
theorem wd_549 : (.code yX8_tell cX8_tell 3 (some .int) : Cond) ∈ lw_g := mg (List.mem_of_getElem? (i := 549) (by decide +kernel)) rfl
theorem wd_550 : (.constant RX8 179 (-1000000003) : Cond) ∈ lw_g := mg (List.mem_of_getElem? (i := 550) (by decide +kernel)) rfl
theorem wd_551 : (.methodLink RX8 180 yX2_learn : Cond) ∈ lw_g := mg (List.mem_of_getElem? (i := 551) (by decide +kernel)) rfl
theorem wd_552 : (.instanceMethod yX2_learn : Cond) ∈ lw_g := mg (List.mem_of_getElem? (i := 552) (by decide +kernel)) rfl
theorem wd_553 : (.selects RX2 yX2_learn yX2_learn : Cond) ∈ lw_g := mg (List.mem_of_getElem? (i := 553) (by decide +kernel)) rfl
theorem wd_554 : (.code yX2_learn cX2_learn 3 none : Cond) ∈ lw_g := mg (List.mem_of_getElem? (i := 554) (by decide +kernel)) rfl
theorem wd_556 : (.instanceMethod yX8_forget : Cond) ∈ lw_g := mg (List.mem_of_getElem? (i := 556) (by decide +kernel)) rfl
theorem wd_557 : (.selects RX8 yX8_forget yX8_forget : Cond) ∈ lw_g := mg (List.mem_of_getElem? (i := 557) (by decide +kernel)) rfl
theorem wd_558 : (.code yX8_forget cX8_forget 3 (some .int) : Cond) ∈ lw_g := mg (List.mem_of_getElem? (i := 558) (by decide +kernel)) rfl
theorem wd_559 : (.methodLink RX8 184 yX2_lose : Cond) ∈ lw_g := mg (List.mem_of_getElem? (i := 559) (by decide +kernel)) rfl
theorem wd_560 : (.instanceMethod yX2_lose : Cond) ∈ lw_g := mg (List.mem_of_getElem? (i := 560) (by decide +kernel)) rfl
theorem wd_561 : (.selects RX2 yX2_lose yX2_lose : Cond) ∈ lw_g := mg (List.mem_of_getElem? (i := 561) (by decide +kernel)) rfl
theorem wd_562 : (.code yX2_lose cX2_lose 3 none : Cond) ∈ lw_g := mg (List.mem_of_getElem? (i := 562) (by decide +kernel)) rfl
theorem wd_564 : (.instanceMethod yX8_hour : Cond) ∈ lw_g := mg (List.mem_of_getElem? (i := 564) (by decide +kernel)) rfl
theorem wd_565 : (.selects RX8 yX8_hour yX8_hour : Cond) ∈ lw_g := mg (List.mem_of_getElem? (i := 565) (by decide +kernel)) rfl
theorem wd_566 : (.code yX8_hour cX8_hour 4 (some .int) : Cond) ∈ lw_g := mg (List.mem_of_getElem? (i := 566) (by decide +kernel)) rfl
theorem wd_567 : (.methodLink RX8 187 yX8_refusalOfHours : Cond) ∈ lw_g := mg (List.mem_of_getElem? (i := 567) (by decide +kernel)) rfl
theorem wd_569 : (.instanceMethod yX8_refusalOfHours : Cond) ∈ lw_g := mg (List.mem_of_getElem? (i := 569) (by decide +kernel)) rfl
theorem wd_570 : (.code yX8_refusalOfHours cX8_refusalOfHours 2 (some .int) : Cond) ∈ lw_g := mg (List.mem_of_getElem? (i := 570) (by decide +kernel)) rfl
theorem wd_571 : (.constant RX8 196 (90000) : Cond) ∈ lw_g := mg (List.mem_of_getElem? (i := 571) (by decide +kernel)) rfl
theorem wd_572 : (.constant RX8 197 (-1000000004) : Cond) ∈ lw_g := mg (List.mem_of_getElem? (i := 572) (by decide +kernel)) rfl
theorem wd_573 : (.methodLink RX8 190 yX2_passHour : Cond) ∈ lw_g := mg (List.mem_of_getElem? (i := 573) (by decide +kernel)) rfl
theorem wd_574 : (.instanceMethod yX2_passHour : Cond) ∈ lw_g := mg (List.mem_of_getElem? (i := 574) (by decide +kernel)) rfl
theorem wd_575 : (.selects RX2 yX2_passHour yX2_passHour : Cond) ∈ lw_g := mg (List.mem_of_getElem? (i := 575) (by decide +kernel)) rfl
theorem wd_576 : (.code yX2_passHour cX2_passHour 2 none : Cond) ∈ lw_g := mg (List.mem_of_getElem? (i := 576) (by decide +kernel)) rfl
theorem wd_577 : (.methodLink RX2 79 yX2_forgetOld : Cond) ∈ lw_g := mg (List.mem_of_getElem? (i := 577) (by decide +kernel)) rfl
theorem wd_579 : (.instanceMethod yX2_forgetOld : Cond) ∈ lw_g := mg (List.mem_of_getElem? (i := 579) (by decide +kernel)) rfl
theorem wd_580 : (.code yX2_forgetOld cX2_forgetOld 4 none : Cond) ∈ lw_g := mg (List.mem_of_getElem? (i := 580) (by decide +kernel)) rfl
theorem wd_581 : (.methodLink RX2 89 yX2_knows : Cond) ∈ lw_g := mg (List.mem_of_getElem? (i := 581) (by decide +kernel)) rfl
theorem wd_582 : (.methodLink RX2 93 yX2_heardAt : Cond) ∈ lw_g := mg (List.mem_of_getElem? (i := 582) (by decide +kernel)) rfl
theorem wd_583 : (.methodLink RX2 97 yX2_lose : Cond) ∈ lw_g := mg (List.mem_of_getElem? (i := 583) (by decide +kernel)) rfl
theorem wd_584 : (.methodLink RX2 83 yX2_tellOn : Cond) ∈ lw_g := mg (List.mem_of_getElem? (i := 584) (by decide +kernel)) rfl
theorem wd_586 : (.instanceMethod yX2_tellOn : Cond) ∈ lw_g := mg (List.mem_of_getElem? (i := 586) (by decide +kernel)) rfl
theorem wd_587 : (.code yX2_tellOn cX2_tellOn 4 none : Cond) ∈ lw_g := mg (List.mem_of_getElem? (i := 587) (by decide +kernel)) rfl
theorem wd_588 : (.methodLink RX2 101 yX3_isQuiet : Cond) ∈ lw_g := mg (List.mem_of_getElem? (i := 588) (by decide +kernel)) rfl
theorem wd_589 : (.methodLink RX2 105 yX2_chat : Cond) ∈ lw_g := mg (List.mem_of_getElem? (i := 589) (by decide +kernel)) rfl
theorem wd_591 : (.instanceMethod yX2_chat : Cond) ∈ lw_g := mg (List.mem_of_getElem? (i := 591) (by decide +kernel)) rfl
theorem wd_592 : (.code yX2_chat cX2_chat 5 none : Cond) ∈ lw_g := mg (List.mem_of_getElem? (i := 592) (by decide +kernel)) rfl
theorem wd_593 : (.methodLink RX2 109 yX2_learn : Cond) ∈ lw_g := mg (List.mem_of_getElem? (i := 593) (by decide +kernel)) rfl
theorem wd_595 : (.instanceMethod yX8_drift : Cond) ∈ lw_g := mg (List.mem_of_getElem? (i := 595) (by decide +kernel)) rfl
theorem wd_596 : (.selects RX8 yX8_drift yX8_drift : Cond) ∈ lw_g := mg (List.mem_of_getElem? (i := 596) (by decide +kernel)) rfl
theorem wd_597 : (.code yX8_drift cX8_drift 4 (some .int) : Cond) ∈ lw_g := mg (List.mem_of_getElem? (i := 597) (by decide +kernel)) rfl
theorem wd_598 : (.methodLink RX8 193 yX2_changeByDraws : Cond) ∈ lw_g := mg (List.mem_of_getElem? (i := 598) (by decide +kernel)) rfl
theorem wd_599 : (.instanceMethod yX2_changeByDraws : Cond) ∈ lw_g := mg (List.mem_of_getElem? (i := 599) (by decide +kernel)) rfl
theorem wd_600 : (.selects RX2 yX2_changeByDraws yX2_changeByDraws : Cond) ∈ lw_g := mg (List.mem_of_getElem? (i := 600) (by decide +kernel)) rfl
theorem wd_601 : (.code yX2_changeByDraws cX2_changeByDraws 4 none : Cond) ∈ lw_g := mg (List.mem_of_getElem? (i := 601) (by decide +kernel)) rfl
theorem wd_602 : (.methodLink RX2 115 yX2_drawOf : Cond) ∈ lw_g := mg (List.mem_of_getElem? (i := 602) (by decide +kernel)) rfl
theorem wd_604 : (.instanceMethod yX2_drawOf : Cond) ∈ lw_g := mg (List.mem_of_getElem? (i := 604) (by decide +kernel)) rfl
theorem wd_605 : (.code yX2_drawOf cX2_drawOf 2 (some .int) : Cond) ∈ lw_g := mg (List.mem_of_getElem? (i := 605) (by decide +kernel)) rfl
theorem wd_606 : (.constantLong RX2 118 (1103515245) : Cond) ∈ lw_g := mg (List.mem_of_getElem? (i := 606) (by decide +kernel)) rfl
theorem wd_607 : (.constantLong RX2 120 (12345) : Cond) ∈ lw_g := mg (List.mem_of_getElem? (i := 607) (by decide +kernel)) rfl
theorem wd_608 : (.constantLong RX2 122 (2147483647) : Cond) ∈ lw_g := mg (List.mem_of_getElem? (i := 608) (by decide +kernel)) rfl
theorem wd_609 : (.constant RX2 124 (65536) : Cond) ∈ lw_g := mg (List.mem_of_getElem? (i := 609) (by decide +kernel)) rfl
theorem wd_611 : (.instanceMethod yX8_heavy : Cond) ∈ lw_g := mg (List.mem_of_getElem? (i := 611) (by decide +kernel)) rfl
theorem wd_612 : (.selects RX8 yX8_heavy yX8_heavy : Cond) ∈ lw_g := mg (List.mem_of_getElem? (i := 612) (by decide +kernel)) rfl
theorem wd_613 : (.code yX8_heavy cX8_heavy 4 (some .int) : Cond) ∈ lw_g := mg (List.mem_of_getElem? (i := 613) (by decide +kernel)) rfl
theorem wd_614 : (.methodLink RX8 198 yX2_copyFrom : Cond) ∈ lw_g := mg (List.mem_of_getElem? (i := 614) (by decide +kernel)) rfl
theorem wd_615 : (.instanceMethod yX2_copyFrom : Cond) ∈ lw_g := mg (List.mem_of_getElem? (i := 615) (by decide +kernel)) rfl
theorem wd_616 : (.selects RX2 yX2_copyFrom yX2_copyFrom : Cond) ∈ lw_g := mg (List.mem_of_getElem? (i := 616) (by decide +kernel)) rfl
theorem wd_617 : (.code yX2_copyFrom cX2_copyFrom 2 none : Cond) ∈ lw_g := mg (List.mem_of_getElem? (i := 617) (by decide +kernel)) rfl
theorem wd_618 : (.methodLink RX2 42 arraycopyName : Cond) ∈ lw_g := mg (List.mem_of_getElem? (i := 618) (by decide +kernel)) rfl
theorem wd_619 : (.static arraycopyName : Cond) ∈ lw_g := mg (List.mem_of_getElem? (i := 619) (by decide +kernel)) rfl
theorem wd_620 : (.native arraycopyName : Cond) ∈ lw_g := mg (List.mem_of_getElem? (i := 620) (by decide +kernel)) rfl
theorem wd_622 : (.instanceMethod yX8_when : Cond) ∈ lw_g := mg (List.mem_of_getElem? (i := 622) (by decide +kernel)) rfl
theorem wd_623 : (.selects RX8 yX8_when yX8_when : Cond) ∈ lw_g := mg (List.mem_of_getElem? (i := 623) (by decide +kernel)) rfl
theorem wd_624 : (.code yX8_when cX8_when 4 (some .int) : Cond) ∈ lw_g := mg (List.mem_of_getElem? (i := 624) (by decide +kernel)) rfl
theorem wd_626 : (.instanceMethod yX8_least : Cond) ∈ lw_g := mg (List.mem_of_getElem? (i := 626) (by decide +kernel)) rfl
theorem wd_627 : (.selects RX8 yX8_least yX8_least : Cond) ∈ lw_g := mg (List.mem_of_getElem? (i := 627) (by decide +kernel)) rfl
theorem wd_628 : (.code yX8_least cX8_least 10 (some .int) : Cond) ∈ lw_g := mg (List.mem_of_getElem? (i := 628) (by decide +kernel)) rfl
theorem wd_629 : (.methodLink RX8 202 yX3_hasPeople : Cond) ∈ lw_g := mg (List.mem_of_getElem? (i := 629) (by decide +kernel)) rfl
theorem wd_630 : (.instanceMethod yX3_hasPeople : Cond) ∈ lw_g := mg (List.mem_of_getElem? (i := 630) (by decide +kernel)) rfl
theorem wd_631 : (.selects RX3 yX3_hasPeople yX3_hasPeople : Cond) ∈ lw_g := mg (List.mem_of_getElem? (i := 631) (by decide +kernel)) rfl
theorem wd_632 : (.code yX3_hasPeople cX3_hasPeople 2 (some .boolean) : Cond) ∈ lw_g := mg (List.mem_of_getElem? (i := 632) (by decide +kernel)) rfl
theorem wd_633 : (.methodLink RX3 67 yX3_everybody : Cond) ∈ lw_g := mg (List.mem_of_getElem? (i := 633) (by decide +kernel)) rfl
theorem wd_634 : (.methodLink RX8 205 yX3_hasFactOrNone : Cond) ∈ lw_g := mg (List.mem_of_getElem? (i := 634) (by decide +kernel)) rfl
theorem wd_635 : (.instanceMethod yX3_hasFactOrNone : Cond) ∈ lw_g := mg (List.mem_of_getElem? (i := 635) (by decide +kernel)) rfl
theorem wd_636 : (.selects RX3 yX3_hasFactOrNone yX3_hasFactOrNone : Cond) ∈ lw_g := mg (List.mem_of_getElem? (i := 636) (by decide +kernel)) rfl
theorem wd_637 : (.code yX3_hasFactOrNone cX3_hasFactOrNone 2 (some .boolean) : Cond) ∈ lw_g := mg (List.mem_of_getElem? (i := 637) (by decide +kernel)) rfl
theorem wd_638 : (.methodLink RX3 71 yX3_hasFact : Cond) ∈ lw_g := mg (List.mem_of_getElem? (i := 638) (by decide +kernel)) rfl
theorem wd_639 : (.methodLink RX8 208 yX2_loadOfAll : Cond) ∈ lw_g := mg (List.mem_of_getElem? (i := 639) (by decide +kernel)) rfl
theorem wd_640 : (.instanceMethod yX2_loadOfAll : Cond) ∈ lw_g := mg (List.mem_of_getElem? (i := 640) (by decide +kernel)) rfl
theorem wd_641 : (.selects RX2 yX2_loadOfAll yX2_loadOfAll : Cond) ∈ lw_g := mg (List.mem_of_getElem? (i := 641) (by decide +kernel)) rfl
theorem wd_642 : (.code yX2_loadOfAll cX2_loadOfAll 5 (some .int) : Cond) ∈ lw_g := mg (List.mem_of_getElem? (i := 642) (by decide +kernel)) rfl
theorem wd_643 : (.methodLink RX2 76 yX2_load : Cond) ∈ lw_g := mg (List.mem_of_getElem? (i := 643) (by decide +kernel)) rfl
theorem wd_644 : (.methodLink RX8 211 yX8_timesToForget : Cond) ∈ lw_g := mg (List.mem_of_getElem? (i := 644) (by decide +kernel)) rfl
theorem wd_645 : (.static yX8_timesToForget : Cond) ∈ lw_g := mg (List.mem_of_getElem? (i := 645) (by decide +kernel)) rfl
theorem wd_646 : (.code yX8_timesToForget cX8_timesToForget 4 (some .int) : Cond) ∈ lw_g := mg (List.mem_of_getElem? (i := 646) (by decide +kernel)) rfl
theorem wd_648 : (.instanceMethod yX8_trips : Cond) ∈ lw_g := mg (List.mem_of_getElem? (i := 648) (by decide +kernel)) rfl
theorem wd_649 : (.selects RX8 yX8_trips yX8_trips : Cond) ∈ lw_g := mg (List.mem_of_getElem? (i := 649) (by decide +kernel)) rfl
theorem wd_650 : (.code yX8_trips cX8_trips 4 (some .int) : Cond) ∈ lw_g := mg (List.mem_of_getElem? (i := 650) (by decide +kernel)) rfl
theorem wd_651 : (.methodLink RX8 215 yX1_plan : Cond) ∈ lw_g := mg (List.mem_of_getElem? (i := 651) (by decide +kernel)) rfl
theorem wd_652 : (.instanceMethod yX1_plan : Cond) ∈ lw_g := mg (List.mem_of_getElem? (i := 652) (by decide +kernel)) rfl
theorem wd_653 : (.selects RX1 yX1_plan yX1_plan : Cond) ∈ lw_g := mg (List.mem_of_getElem? (i := 653) (by decide +kernel)) rfl
theorem wd_654 : (.code yX1_plan cX1_plan 6 none : Cond) ∈ lw_g := mg (List.mem_of_getElem? (i := 654) (by decide +kernel)) rfl
theorem wd_655 : (.methodLink RX1 27 yX2_load : Cond) ∈ lw_g := mg (List.mem_of_getElem? (i := 655) (by decide +kernel)) rfl
theorem wd_656 : (.methodLink RX1 33 yX1_fewestOf : Cond) ∈ lw_g := mg (List.mem_of_getElem? (i := 656) (by decide +kernel)) rfl
theorem wd_658 : (.instanceMethod yX1_fewestOf : Cond) ∈ lw_g := mg (List.mem_of_getElem? (i := 658) (by decide +kernel)) rfl
theorem wd_659 : (.code yX1_fewestOf cX1_fewestOf 5 (some .int) : Cond) ∈ lw_g := mg (List.mem_of_getElem? (i := 659) (by decide +kernel)) rfl
theorem wd_660 : (.methodLink RX8 222 yX1_group : Cond) ∈ lw_g := mg (List.mem_of_getElem? (i := 660) (by decide +kernel)) rfl
theorem wd_661 : (.instanceMethod yX1_group : Cond) ∈ lw_g := mg (List.mem_of_getElem? (i := 661) (by decide +kernel)) rfl
theorem wd_662 : (.selects RX1 yX1_group yX1_group : Cond) ∈ lw_g := mg (List.mem_of_getElem? (i := 662) (by decide +kernel)) rfl
theorem wd_663 : (.code yX1_group cX1_group 6 (some .int) : Cond) ∈ lw_g := mg (List.mem_of_getElem? (i := 663) (by decide +kernel)) rfl
theorem wd_664 : (.methodLink RX1 37 yX1_firstGroup : Cond) ∈ lw_g := mg (List.mem_of_getElem? (i := 664) (by decide +kernel)) rfl
theorem wd_666 : (.instanceMethod yX1_firstGroup : Cond) ∈ lw_g := mg (List.mem_of_getElem? (i := 666) (by decide +kernel)) rfl
theorem wd_667 : (.code yX1_firstGroup cX1_firstGroup 4 (some .int) : Cond) ∈ lw_g := mg (List.mem_of_getElem? (i := 667) (by decide +kernel)) rfl
theorem wd_669 : (.instanceMethod yX8_counted : Cond) ∈ lw_g := mg (List.mem_of_getElem? (i := 669) (by decide +kernel)) rfl
theorem wd_670 : (.selects RX8 yX8_counted yX8_counted : Cond) ∈ lw_g := mg (List.mem_of_getElem? (i := 670) (by decide +kernel)) rfl
theorem wd_671 : (.code yX8_counted cX8_counted 5 (some .int) : Cond) ∈ lw_g := mg (List.mem_of_getElem? (i := 671) (by decide +kernel)) rfl
theorem wd_672 : (.methodLink RX8 225 yX8_canWeigh : Cond) ∈ lw_g := mg (List.mem_of_getElem? (i := 672) (by decide +kernel)) rfl
theorem wd_673 : (.static yX8_canWeigh : Cond) ∈ lw_g := mg (List.mem_of_getElem? (i := 673) (by decide +kernel)) rfl
theorem wd_674 : (.code yX8_canWeigh cX8_canWeigh 1 (some .boolean) : Cond) ∈ lw_g := mg (List.mem_of_getElem? (i := 674) (by decide +kernel)) rfl
theorem wd_675 : (.methodLink RX8 228 yX7_spread : Cond) ∈ lw_g := mg (List.mem_of_getElem? (i := 675) (by decide +kernel)) rfl
theorem wd_676 : (.instanceMethod yX7_spread : Cond) ∈ lw_g := mg (List.mem_of_getElem? (i := 676) (by decide +kernel)) rfl
theorem wd_677 : (.selects RX7 yX7_spread yX7_spread : Cond) ∈ lw_g := mg (List.mem_of_getElem? (i := 677) (by decide +kernel)) rfl
theorem wd_678 : (.code yX7_spread cX7_spread 5 none : Cond) ∈ lw_g := mg (List.mem_of_getElem? (i := 678) (by decide +kernel)) rfl
theorem wd_679 : (.methodLink RX7 15 yJ7_fill_53178 : Cond) ∈ lw_g := mg (List.mem_of_getElem? (i := 679) (by decide +kernel)) rfl
theorem wd_680 : (.methodLink RX7 36 yX3_isLie : Cond) ∈ lw_g := mg (List.mem_of_getElem? (i := 680) (by decide +kernel)) rfl
theorem wd_681 : (.methodLink RX7 43 yX7_addFact : Cond) ∈ lw_g := mg (List.mem_of_getElem? (i := 681) (by decide +kernel)) rfl
theorem wd_683 : (.instanceMethod yX7_addFact : Cond) ∈ lw_g := mg (List.mem_of_getElem? (i := 683) (by decide +kernel)) rfl
theorem wd_684 : (.code yX7_addFact cX7_addFact 6 none : Cond) ∈ lw_g := mg (List.mem_of_getElem? (i := 684) (by decide +kernel)) rfl
theorem wd_685 : (.methodLink RX7 47 yJ9_min_7cf53 : Cond) ∈ lw_g := mg (List.mem_of_getElem? (i := 685) (by decide +kernel)) rfl
theorem wd_686 : (.static yJ9_min_7cf53 : Cond) ∈ lw_g := mg (List.mem_of_getElem? (i := 686) (by decide +kernel)) rfl
theorem wd_687 : (.code yJ9_min_7cf53 cJ9_min_7cf53 2 (some .int) : Cond) ∈ lw_g := mg (List.mem_of_getElem? (i := 687) (by decide +kernel)) rfl
theorem wd_688 : (.methodLink RX8 232 yX7_countAt : Cond) ∈ lw_g := mg (List.mem_of_getElem? (i := 688) (by decide +kernel)) rfl
theorem wd_689 : (.instanceMethod yX7_countAt : Cond) ∈ lw_g := mg (List.mem_of_getElem? (i := 689) (by decide +kernel)) rfl
theorem wd_690 : (.selects RX7 yX7_countAt yX7_countAt : Cond) ∈ lw_g := mg (List.mem_of_getElem? (i := 690) (by decide +kernel)) rfl
theorem wd_691 : (.code yX7_countAt cX7_countAt 3 (some .int) : Cond) ∈ lw_g := mg (List.mem_of_getElem? (i := 691) (by decide +kernel)) rfl
theorem wd_692 : (.methodLink RX8 235 yX7_fewestHeads : Cond) ∈ lw_g := mg (List.mem_of_getElem? (i := 692) (by decide +kernel)) rfl
theorem wd_693 : (.instanceMethod yX7_fewestHeads : Cond) ∈ lw_g := mg (List.mem_of_getElem? (i := 693) (by decide +kernel)) rfl
theorem wd_694 : (.selects RX7 yX7_fewestHeads yX7_fewestHeads : Cond) ∈ lw_g := mg (List.mem_of_getElem? (i := 694) (by decide +kernel)) rfl
theorem wd_695 : (.code yX7_fewestHeads cX7_fewestHeads 5 (some .int) : Cond) ∈ lw_g := mg (List.mem_of_getElem? (i := 695) (by decide +kernel)) rfl
theorem wd_696 : (.methodLink RX7 53 yX3_pull : Cond) ∈ lw_g := mg (List.mem_of_getElem? (i := 696) (by decide +kernel)) rfl
theorem wd_697 : (.instanceMethod yX3_pull : Cond) ∈ lw_g := mg (List.mem_of_getElem? (i := 697) (by decide +kernel)) rfl
theorem wd_698 : (.selects RX3 yX3_pull yX3_pull : Cond) ∈ lw_g := mg (List.mem_of_getElem? (i := 698) (by decide +kernel)) rfl
theorem wd_699 : (.code yX3_pull cX3_pull 2 (some .int) : Cond) ∈ lw_g := mg (List.mem_of_getElem? (i := 699) (by decide +kernel)) rfl
theorem wd_700 : (.methodLink RX3 75 yX3_isLie : Cond) ∈ lw_g := mg (List.mem_of_getElem? (i := 700) (by decide +kernel)) rfl
theorem wd_701 : (.methodLink RX7 57 yX7_countAt : Cond) ∈ lw_g := mg (List.mem_of_getElem? (i := 701) (by decide +kernel)) rfl
theorem wd_702 : (.methodLink RX8 239 yX7_mostHeads : Cond) ∈ lw_g := mg (List.mem_of_getElem? (i := 702) (by decide +kernel)) rfl
theorem wd_703 : (.instanceMethod yX7_mostHeads : Cond) ∈ lw_g := mg (List.mem_of_getElem? (i := 703) (by decide +kernel)) rfl
theorem wd_704 : (.selects RX7 yX7_mostHeads yX7_mostHeads : Cond) ∈ lw_g := mg (List.mem_of_getElem? (i := 704) (by decide +kernel)) rfl
theorem wd_705 : (.code yX7_mostHeads cX7_mostHeads 5 (some .int) : Cond) ∈ lw_g := mg (List.mem_of_getElem? (i := 705) (by decide +kernel)) rfl
theorem wd_707 : (.instanceMethod yX8_lies : Cond) ∈ lw_g := mg (List.mem_of_getElem? (i := 707) (by decide +kernel)) rfl
theorem wd_708 : (.selects RX8 yX8_lies yX8_lies : Cond) ∈ lw_g := mg (List.mem_of_getElem? (i := 708) (by decide +kernel)) rfl
theorem wd_709 : (.code yX8_lies cX8_lies 10 (some .int) : Cond) ∈ lw_g := mg (List.mem_of_getElem? (i := 709) (by decide +kernel)) rfl
theorem wd_710 : (.methodLink RX8 242 yX2_gramsOf : Cond) ∈ lw_g := mg (List.mem_of_getElem? (i := 710) (by decide +kernel)) rfl
theorem wd_712 : (.instanceMethod yX8_apart : Cond) ∈ lw_g := mg (List.mem_of_getElem? (i := 712) (by decide +kernel)) rfl
theorem wd_713 : (.selects RX8 yX8_apart yX8_apart : Cond) ∈ lw_g := mg (List.mem_of_getElem? (i := 713) (by decide +kernel)) rfl
theorem wd_714 : (.code yX8_apart cX8_apart 5 (some .int) : Cond) ∈ lw_g := mg (List.mem_of_getElem? (i := 714) (by decide +kernel)) rfl
theorem wd_715 : (.methodLink RX8 245 yX8_fewestToBreak : Cond) ∈ lw_g := mg (List.mem_of_getElem? (i := 715) (by decide +kernel)) rfl
theorem wd_717 : (.instanceMethod yX8_fewestToBreak : Cond) ∈ lw_g := mg (List.mem_of_getElem? (i := 717) (by decide +kernel)) rfl
theorem wd_718 : (.code yX8_fewestToBreak cX8_fewestToBreak 7 (some .int) : Cond) ∈ lw_g := mg (List.mem_of_getElem? (i := 718) (by decide +kernel)) rfl
theorem wd_719 : (.methodLink RX8 253 yX3_waysOut : Cond) ∈ lw_g := mg (List.mem_of_getElem? (i := 719) (by decide +kernel)) rfl
theorem wd_720 : (.instanceMethod yX3_waysOut : Cond) ∈ lw_g := mg (List.mem_of_getElem? (i := 720) (by decide +kernel)) rfl
theorem wd_721 : (.selects RX3 yX3_waysOut yX3_waysOut : Cond) ∈ lw_g := mg (List.mem_of_getElem? (i := 721) (by decide +kernel)) rfl
theorem wd_722 : (.code yX3_waysOut cX3_waysOut 9 (some .int) : Cond) ∈ lw_g := mg (List.mem_of_getElem? (i := 722) (by decide +kernel)) rfl
theorem wd_723 : (.methodLink RX8 248 yJ6_bitCount_0f7a4 : Cond) ∈ lw_g := mg (List.mem_of_getElem? (i := 723) (by decide +kernel)) rfl
theorem wd_725 : (.instanceMethod yX8_treaty : Cond) ∈ lw_g := mg (List.mem_of_getElem? (i := 725) (by decide +kernel)) rfl
theorem wd_726 : (.selects RX8 yX8_treaty yX8_treaty : Cond) ∈ lw_g := mg (List.mem_of_getElem? (i := 726) (by decide +kernel)) rfl
theorem wd_727 : (.code yX8_treaty cX8_treaty 5 (some .int) : Cond) ∈ lw_g := mg (List.mem_of_getElem? (i := 727) (by decide +kernel)) rfl
theorem wd_728 : (.methodLink RX8 256 yX8_factsToForget : Cond) ∈ lw_g := mg (List.mem_of_getElem? (i := 728) (by decide +kernel)) rfl
theorem wd_730 : (.instanceMethod yX8_factsToForget : Cond) ∈ lw_g := mg (List.mem_of_getElem? (i := 730) (by decide +kernel)) rfl
theorem wd_731 : (.code yX8_factsToForget cX8_factsToForget 3 (some .int) : Cond) ∈ lw_g := mg (List.mem_of_getElem? (i := 731) (by decide +kernel)) rfl
theorem wd_732 : (.methodLink RX8 259 yX5_agree : Cond) ∈ lw_g := mg (List.mem_of_getElem? (i := 732) (by decide +kernel)) rfl
theorem wd_733 : (.instanceMethod yX5_agree : Cond) ∈ lw_g := mg (List.mem_of_getElem? (i := 733) (by decide +kernel)) rfl
theorem wd_734 : (.selects RX5 yX5_agree yX5_agree : Cond) ∈ lw_g := mg (List.mem_of_getElem? (i := 734) (by decide +kernel)) rfl
theorem wd_735 : (.code yX5_agree cX5_agree 5 (some .int) : Cond) ∈ lw_g := mg (List.mem_of_getElem? (i := 735) (by decide +kernel)) rfl
theorem wd_736 : (.methodLink RX5 18 yX5_findParts : Cond) ∈ lw_g := mg (List.mem_of_getElem? (i := 736) (by decide +kernel)) rfl
theorem wd_737 : (.static yX5_findParts : Cond) ∈ lw_g := mg (List.mem_of_getElem? (i := 737) (by decide +kernel)) rfl
theorem wd_738 : (.code yX5_findParts cX5_findParts 5 none : Cond) ∈ lw_g := mg (List.mem_of_getElem? (i := 738) (by decide +kernel)) rfl
theorem wd_739 : (.methodLink RX5 22 yJ7_fill_53178 : Cond) ∈ lw_g := mg (List.mem_of_getElem? (i := 739) (by decide +kernel)) rfl
theorem wd_740 : (.methodLink RX5 28 yX5_gramsAHead : Cond) ∈ lw_g := mg (List.mem_of_getElem? (i := 740) (by decide +kernel)) rfl
theorem wd_741 : (.static yX5_gramsAHead : Cond) ∈ lw_g := mg (List.mem_of_getElem? (i := 741) (by decide +kernel)) rfl
theorem wd_742 : (.code yX5_gramsAHead cX5_gramsAHead 4 (some .int) : Cond) ∈ lw_g := mg (List.mem_of_getElem? (i := 742) (by decide +kernel)) rfl
theorem wd_744 : (.instanceMethod yX8_odds : Cond) ∈ lw_g := mg (List.mem_of_getElem? (i := 744) (by decide +kernel)) rfl
theorem wd_745 : (.selects RX8 yX8_odds yX8_odds : Cond) ∈ lw_g := mg (List.mem_of_getElem? (i := 745) (by decide +kernel)) rfl
theorem wd_746 : (.code yX8_odds cX8_odds 4 (some .int) : Cond) ∈ lw_g := mg (List.mem_of_getElem? (i := 746) (by decide +kernel)) rfl
theorem wd_747 : (.methodLink RX8 271 yX0_spread : Cond) ∈ lw_g := mg (List.mem_of_getElem? (i := 747) (by decide +kernel)) rfl
theorem wd_748 : (.instanceMethod yX0_spread : Cond) ∈ lw_g := mg (List.mem_of_getElem? (i := 748) (by decide +kernel)) rfl
theorem wd_749 : (.selects RX0 yX0_spread yX0_spread : Cond) ∈ lw_g := mg (List.mem_of_getElem? (i := 749) (by decide +kernel)) rfl
theorem wd_750 : (.code yX0_spread cX0_spread 9 none : Cond) ∈ lw_g := mg (List.mem_of_getElem? (i := 750) (by decide +kernel)) rfl
theorem wd_751 : (.methodLink RX0 24 yX2_gramsOf : Cond) ∈ lw_g := mg (List.mem_of_getElem? (i := 751) (by decide +kernel)) rfl
theorem wd_752 : (.methodLink RX0 39 yJ7_fill_53178 : Cond) ∈ lw_g := mg (List.mem_of_getElem? (i := 752) (by decide +kernel)) rfl
theorem wd_753 : (.constant RX0 45 (1000000000) : Cond) ∈ lw_g := mg (List.mem_of_getElem? (i := 753) (by decide +kernel)) rfl
theorem wd_754 : (.methodLink RX0 52 yX2_headsOf : Cond) ∈ lw_g := mg (List.mem_of_getElem? (i := 754) (by decide +kernel)) rfl
theorem wd_755 : (.methodLink RX0 55 yX3_pull : Cond) ∈ lw_g := mg (List.mem_of_getElem? (i := 755) (by decide +kernel)) rfl
theorem wd_756 : (.methodLink RX0 59 yX0_headForgets : Cond) ∈ lw_g := mg (List.mem_of_getElem? (i := 756) (by decide +kernel)) rfl
theorem wd_758 : (.instanceMethod yX0_headForgets : Cond) ∈ lw_g := mg (List.mem_of_getElem? (i := 758) (by decide +kernel)) rfl
theorem wd_759 : (.code yX0_headForgets cX0_headForgets 4 none : Cond) ∈ lw_g := mg (List.mem_of_getElem? (i := 759) (by decide +kernel)) rfl
theorem wd_760 : (.methodLink RX0 63 yX0_move : Cond) ∈ lw_g := mg (List.mem_of_getElem? (i := 760) (by decide +kernel)) rfl
theorem wd_762 : (.instanceMethod yX0_move : Cond) ∈ lw_g := mg (List.mem_of_getElem? (i := 762) (by decide +kernel)) rfl
theorem wd_763 : (.code yX0_move cX0_move 5 none : Cond) ∈ lw_g := mg (List.mem_of_getElem? (i := 763) (by decide +kernel)) rfl
theorem wd_764 : (.constantLong RX0 76 (100) : Cond) ∈ lw_g := mg (List.mem_of_getElem? (i := 764) (by decide +kernel)) rfl
theorem wd_765 : (.methodLink RX0 67 yJ9_max_7cf53 : Cond) ∈ lw_g := mg (List.mem_of_getElem? (i := 765) (by decide +kernel)) rfl
theorem wd_766 : (.static yJ9_max_7cf53 : Cond) ∈ lw_g := mg (List.mem_of_getElem? (i := 766) (by decide +kernel)) rfl
theorem wd_767 : (.code yJ9_max_7cf53 cJ9_max_7cf53 2 (some .int) : Cond) ∈ lw_g := mg (List.mem_of_getElem? (i := 767) (by decide +kernel)) rfl
theorem wd_768 : (.methodLink RX0 73 yJ9_min_7cf53 : Cond) ∈ lw_g := mg (List.mem_of_getElem? (i := 768) (by decide +kernel)) rfl
theorem wd_769 : (.methodLink RX8 273 yX0_upTo : Cond) ∈ lw_g := mg (List.mem_of_getElem? (i := 769) (by decide +kernel)) rfl
theorem wd_770 : (.instanceMethod yX0_upTo : Cond) ∈ lw_g := mg (List.mem_of_getElem? (i := 770) (by decide +kernel)) rfl
theorem wd_771 : (.selects RX0 yX0_upTo yX0_upTo : Cond) ∈ lw_g := mg (List.mem_of_getElem? (i := 771) (by decide +kernel)) rfl
theorem wd_772 : (.code yX0_upTo cX0_upTo 4 (some .int) : Cond) ∈ lw_g := mg (List.mem_of_getElem? (i := 772) (by decide +kernel)) rfl
theorem wd_774 : (.instanceMethod yX8_write : Cond) ∈ lw_g := mg (List.mem_of_getElem? (i := 774) (by decide +kernel)) rfl
theorem wd_775 : (.selects RX8 yX8_write yX8_write : Cond) ∈ lw_g := mg (List.mem_of_getElem? (i := 775) (by decide +kernel)) rfl
theorem wd_776 : (.code yX8_write cX8_write 3 (some .int) : Cond) ∈ lw_g := mg (List.mem_of_getElem? (i := 776) (by decide +kernel)) rfl
theorem wd_777 : (.methodLink RX8 276 yX6_add : Cond) ∈ lw_g := mg (List.mem_of_getElem? (i := 777) (by decide +kernel)) rfl
theorem wd_778 : (.instanceMethod yX6_add : Cond) ∈ lw_g := mg (List.mem_of_getElem? (i := 778) (by decide +kernel)) rfl
theorem wd_779 : (.selects RX6 yX6_add yX6_add : Cond) ∈ lw_g := mg (List.mem_of_getElem? (i := 779) (by decide +kernel)) rfl
theorem wd_780 : (.code yX6_add cX6_add 3 (some .int) : Cond) ∈ lw_g := mg (List.mem_of_getElem? (i := 780) (by decide +kernel)) rfl
theorem wd_781 : (.constant RX6 22 (-1000000004) : Cond) ∈ lw_g := mg (List.mem_of_getElem? (i := 781) (by decide +kernel)) rfl
theorem wd_783 : (.instanceMethod yX8_tear : Cond) ∈ lw_g := mg (List.mem_of_getElem? (i := 783) (by decide +kernel)) rfl
theorem wd_784 : (.selects RX8 yX8_tear yX8_tear : Cond) ∈ lw_g := mg (List.mem_of_getElem? (i := 784) (by decide +kernel)) rfl
theorem wd_785 : (.code yX8_tear cX8_tear 2 (some .int) : Cond) ∈ lw_g := mg (List.mem_of_getElem? (i := 785) (by decide +kernel)) rfl
theorem wd_787 : (.instanceMethod yX8_judge : Cond) ∈ lw_g := mg (List.mem_of_getElem? (i := 787) (by decide +kernel)) rfl
theorem wd_788 : (.selects RX8 yX8_judge yX8_judge : Cond) ∈ lw_g := mg (List.mem_of_getElem? (i := 788) (by decide +kernel)) rfl
theorem wd_789 : (.code yX8_judge cX8_judge 1 (some .int) : Cond) ∈ lw_g := mg (List.mem_of_getElem? (i := 789) (by decide +kernel)) rfl
theorem wd_790 : (.methodLink RX8 278 yX6_firstWrong : Cond) ∈ lw_g := mg (List.mem_of_getElem? (i := 790) (by decide +kernel)) rfl
theorem wd_791 : (.instanceMethod yX6_firstWrong : Cond) ∈ lw_g := mg (List.mem_of_getElem? (i := 791) (by decide +kernel)) rfl
theorem wd_792 : (.selects RX6 yX6_firstWrong yX6_firstWrong : Cond) ∈ lw_g := mg (List.mem_of_getElem? (i := 792) (by decide +kernel)) rfl
theorem wd_793 : (.code yX6_firstWrong cX6_firstWrong 4 (some .int) : Cond) ∈ lw_g := mg (List.mem_of_getElem? (i := 793) (by decide +kernel)) rfl
theorem wd_794 : (.methodLink RX6 23 yX2_load : Cond) ∈ lw_g := mg (List.mem_of_getElem? (i := 794) (by decide +kernel)) rfl
theorem wd_796 : (.instanceMethod yX8_seed : Cond) ∈ lw_g := mg (List.mem_of_getElem? (i := 796) (by decide +kernel)) rfl
theorem wd_797 : (.selects RX8 yX8_seed yX8_seed : Cond) ∈ lw_g := mg (List.mem_of_getElem? (i := 797) (by decide +kernel)) rfl
theorem wd_798 : (.code yX8_seed cX8_seed 3 (some .int) : Cond) ∈ lw_g := mg (List.mem_of_getElem? (i := 798) (by decide +kernel)) rfl
theorem wd_800 : (.instanceMethod yX8_keep : Cond) ∈ lw_g := mg (List.mem_of_getElem? (i := 800) (by decide +kernel)) rfl
theorem wd_801 : (.selects RX8 yX8_keep yX8_keep : Cond) ∈ lw_g := mg (List.mem_of_getElem? (i := 801) (by decide +kernel)) rfl
theorem wd_802 : (.code yX8_keep cX8_keep 2 (some .int) : Cond) ∈ lw_g := mg (List.mem_of_getElem? (i := 802) (by decide +kernel)) rfl
theorem wd_804 : (.instanceMethod yX8_goBack : Cond) ∈ lw_g := mg (List.mem_of_getElem? (i := 804) (by decide +kernel)) rfl
theorem wd_805 : (.selects RX8 yX8_goBack yX8_goBack : Cond) ∈ lw_g := mg (List.mem_of_getElem? (i := 805) (by decide +kernel)) rfl
theorem wd_806 : (.code yX8_goBack cX8_goBack 2 (some .int) : Cond) ∈ lw_g := mg (List.mem_of_getElem? (i := 806) (by decide +kernel)) rfl
theorem wd_813 : (.methodLink RX9 70 yX9_begin : Cond) ∈ lw_g := mg (List.mem_of_getElem? (i := 813) (by decide +kernel)) rfl
theorem wd_815 : (.instanceMethod yX9_begin : Cond) ∈ lw_g := mg (List.mem_of_getElem? (i := 815) (by decide +kernel)) rfl
theorem wd_816 : (.code yX9_begin cX9_begin 2 none : Cond) ∈ lw_g := mg (List.mem_of_getElem? (i := 816) (by decide +kernel)) rfl
theorem wd_817 : (.fieldLink RX9 90 RX9 "letters" "I" : Cond) ∈ lw_g := mg (List.mem_of_getElem? (i := 817) (by decide +kernel)) rfl
theorem wd_818 : (.fieldLink RX9 7 RX9 "text" "[I" : Cond) ∈ lw_g := mg (List.mem_of_getElem? (i := 818) (by decide +kernel)) rfl
theorem wd_819 : (.fieldLink RX9 94 RX9 "position" "I" : Cond) ∈ lw_g := mg (List.mem_of_getElem? (i := 819) (by decide +kernel)) rfl
theorem wd_820 : (.fieldLink RX9 97 RX9 "tokenAt" "I" : Cond) ∈ lw_g := mg (List.mem_of_getElem? (i := 820) (by decide +kernel)) rfl
theorem wd_821 : (.fieldLink RX9 103 RX9 "token" "I" : Cond) ∈ lw_g := mg (List.mem_of_getElem? (i := 821) (by decide +kernel)) rfl
theorem wd_822 : (.fieldLink RX9 100 RX9 "number" "I" : Cond) ∈ lw_g := mg (List.mem_of_getElem? (i := 822) (by decide +kernel)) rfl
theorem wd_823 : (.fieldLink RX9 13 RX9 "faultAt" "I" : Cond) ∈ lw_g := mg (List.mem_of_getElem? (i := 823) (by decide +kernel)) rfl
theorem wd_824 : (.fieldLink RX9 106 RX9 "faultIs" "I" : Cond) ∈ lw_g := mg (List.mem_of_getElem? (i := 824) (by decide +kernel)) rfl
theorem wd_825 : (.fieldLink RX9 116 RX9 "readMany" "I" : Cond) ∈ lw_g := mg (List.mem_of_getElem? (i := 825) (by decide +kernel)) rfl
theorem wd_826 : (.fieldLink RX9 127 RX9 "readFacts" "I" : Cond) ∈ lw_g := mg (List.mem_of_getElem? (i := 826) (by decide +kernel)) rfl
theorem wd_827 : (.fieldLink RX9 17 RX9 "readFact" "[I" : Cond) ∈ lw_g := mg (List.mem_of_getElem? (i := 827) (by decide +kernel)) rfl
theorem wd_828 : (.fieldLink RX9 130 RX9 "readPairs" "I" : Cond) ∈ lw_g := mg (List.mem_of_getElem? (i := 828) (by decide +kernel)) rfl
theorem wd_829 : (.fieldLink RX9 20 RX9 "readPair" "[I" : Cond) ∈ lw_g := mg (List.mem_of_getElem? (i := 829) (by decide +kernel)) rfl
theorem wd_830 : (.fieldLink RX9 133 RX9 "readQuiet" "I" : Cond) ∈ lw_g := mg (List.mem_of_getElem? (i := 830) (by decide +kernel)) rfl
theorem wd_831 : (.fieldLink RX9 139 RX9 "readBridges" "I" : Cond) ∈ lw_g := mg (List.mem_of_getElem? (i := 831) (by decide +kernel)) rfl
theorem wd_832 : (.fieldLink RX9 23 RX9 "readBridge" "[I" : Cond) ∈ lw_g := mg (List.mem_of_getElem? (i := 832) (by decide +kernel)) rfl
theorem wd_833 : (.fieldLink RX9 142 RX9 "readHours" "I" : Cond) ∈ lw_g := mg (List.mem_of_getElem? (i := 833) (by decide +kernel)) rfl
theorem wd_834 : (.fieldLink RX9 76 RX9 "many" "I" : Cond) ∈ lw_g := mg (List.mem_of_getElem? (i := 834) (by decide +kernel)) rfl
theorem wd_835 : (.fieldLink RX9 83 RX9 "facts" "I" : Cond) ∈ lw_g := mg (List.mem_of_getElem? (i := 835) (by decide +kernel)) rfl
theorem wd_836 : (.fieldLink RX9 26 RX9 "fact" "[I" : Cond) ∈ lw_g := mg (List.mem_of_getElem? (i := 836) (by decide +kernel)) rfl
theorem wd_837 : (.fieldLink RX9 169 RX9 "pairs" "I" : Cond) ∈ lw_g := mg (List.mem_of_getElem? (i := 837) (by decide +kernel)) rfl
theorem wd_838 : (.fieldLink RX9 29 RX9 "pair" "[I" : Cond) ∈ lw_g := mg (List.mem_of_getElem? (i := 838) (by decide +kernel)) rfl
theorem wd_839 : (.fieldLink RX9 172 RX9 "quiet" "I" : Cond) ∈ lw_g := mg (List.mem_of_getElem? (i := 839) (by decide +kernel)) rfl
theorem wd_840 : (.fieldLink RX9 86 RX9 "bridges" "I" : Cond) ∈ lw_g := mg (List.mem_of_getElem? (i := 840) (by decide +kernel)) rfl
theorem wd_841 : (.fieldLink RX9 32 RX9 "bridge" "[I" : Cond) ∈ lw_g := mg (List.mem_of_getElem? (i := 841) (by decide +kernel)) rfl
theorem wd_842 : (.fieldLink RX9 175 RX9 "forgets" "I" : Cond) ∈ lw_g := mg (List.mem_of_getElem? (i := 842) (by decide +kernel)) rfl
theorem wd_843 : (.fieldLink RX9 35 RX9 "now" "[I" : Cond) ∈ lw_g := mg (List.mem_of_getElem? (i := 843) (by decide +kernel)) rfl
theorem wd_844 : (.fieldLink RX9 38 RX9 "tried" "[I" : Cond) ∈ lw_g := mg (List.mem_of_getElem? (i := 844) (by decide +kernel)) rfl
theorem wd_845 : (.fieldLink RX9 41 RX9 "was" "[I" : Cond) ∈ lw_g := mg (List.mem_of_getElem? (i := 845) (by decide +kernel)) rfl
theorem wd_846 : (.fieldLink RX9 44 RX9 "image" "[I" : Cond) ∈ lw_g := mg (List.mem_of_getElem? (i := 846) (by decide +kernel)) rfl
theorem wd_847 : (.fieldLink RX9 47 RX9 "isKept" "[Z" : Cond) ∈ lw_g := mg (List.mem_of_getElem? (i := 847) (by decide +kernel)) rfl
theorem wd_848 : (.fieldLink RX9 73 RX9 "lines" "I" : Cond) ∈ lw_g := mg (List.mem_of_getElem? (i := 848) (by decide +kernel)) rfl
theorem wd_849 : (.fieldLink RX9 51 RX9 "line" "[I" : Cond) ∈ lw_g := mg (List.mem_of_getElem? (i := 849) (by decide +kernel)) rfl
theorem wd_850 : (.fieldLink RX9 54 RX9 "often" "[I" : Cond) ∈ lw_g := mg (List.mem_of_getElem? (i := 850) (by decide +kernel)) rfl
theorem wd_851 : (.fieldLink RX9 57 RX9 "best" "[I" : Cond) ∈ lw_g := mg (List.mem_of_getElem? (i := 851) (by decide +kernel)) rfl
theorem wd_852 : (.fieldLink RX9 60 RX9 "row" "[J" : Cond) ∈ lw_g := mg (List.mem_of_getElem? (i := 852) (by decide +kernel)) rfl
theorem wd_853 : (.fieldLink RX9 64 RX9 "next" "[J" : Cond) ∈ lw_g := mg (List.mem_of_getElem? (i := 853) (by decide +kernel)) rfl
theorem wd_854 : (.fieldLink RX9 67 RX9 "weights" "[I" : Cond) ∈ lw_g := mg (List.mem_of_getElem? (i := 854) (by decide +kernel)) rfl
theorem wd_935 : (.instanceMethod yX9_feed : Cond) ∈ lw_g := mg (List.mem_of_getElem? (i := 935) (by decide +kernel)) rfl
theorem wd_936 : (.selects RX9 yX9_feed yX9_feed : Cond) ∈ lw_g := mg (List.mem_of_getElem? (i := 936) (by decide +kernel)) rfl
theorem wd_937 : (.code yX9_feed cX9_feed 2 (some .int) : Cond) ∈ lw_g := mg (List.mem_of_getElem? (i := 937) (by decide +kernel)) rfl
theorem wd_938 : (.methodLink RX9 79 yX9_in : Cond) ∈ lw_g := mg (List.mem_of_getElem? (i := 938) (by decide +kernel)) rfl
theorem wd_939 : (.static yX9_in : Cond) ∈ lw_g := mg (List.mem_of_getElem? (i := 939) (by decide +kernel)) rfl
theorem wd_940 : (.code yX9_in cX9_in 3 (some .boolean) : Cond) ∈ lw_g := mg (List.mem_of_getElem? (i := 940) (by decide +kernel)) rfl
theorem wd_941 : (.constant RX9 89 (-1000000002) : Cond) ∈ lw_g := mg (List.mem_of_getElem? (i := 941) (by decide +kernel)) rfl
theorem wd_942 : (.constant RX9 93 (-1000000004) : Cond) ∈ lw_g := mg (List.mem_of_getElem? (i := 942) (by decide +kernel)) rfl
theorem wd_944 : (.instanceMethod yX9_land : Cond) ∈ lw_g := mg (List.mem_of_getElem? (i := 944) (by decide +kernel)) rfl
theorem wd_945 : (.selects RX9 yX9_land yX9_land : Cond) ∈ lw_g := mg (List.mem_of_getElem? (i := 945) (by decide +kernel)) rfl
theorem wd_946 : (.code yX9_land cX9_land 4 (some .int) : Cond) ∈ lw_g := mg (List.mem_of_getElem? (i := 946) (by decide +kernel)) rfl
theorem wd_947 : (.methodLink RX9 166 yX9_isRead : Cond) ∈ lw_g := mg (List.mem_of_getElem? (i := 947) (by decide +kernel)) rfl
theorem wd_949 : (.instanceMethod yX9_isRead : Cond) ∈ lw_g := mg (List.mem_of_getElem? (i := 949) (by decide +kernel)) rfl
theorem wd_950 : (.code yX9_isRead cX9_isRead 2 (some .boolean) : Cond) ∈ lw_g := mg (List.mem_of_getElem? (i := 950) (by decide +kernel)) rfl
theorem wd_951 : (.methodLink RX9 109 yX9_nextToken : Cond) ∈ lw_g := mg (List.mem_of_getElem? (i := 951) (by decide +kernel)) rfl
theorem wd_953 : (.instanceMethod yX9_nextToken : Cond) ∈ lw_g := mg (List.mem_of_getElem? (i := 953) (by decide +kernel)) rfl
theorem wd_954 : (.code yX9_nextToken cX9_nextToken 1 none : Cond) ∈ lw_g := mg (List.mem_of_getElem? (i := 954) (by decide +kernel)) rfl
theorem wd_955 : (.methodLink RX9 145 yX9_isPeopleLine : Cond) ∈ lw_g := mg (List.mem_of_getElem? (i := 955) (by decide +kernel)) rfl
theorem wd_957 : (.instanceMethod yX9_isPeopleLine : Cond) ∈ lw_g := mg (List.mem_of_getElem? (i := 957) (by decide +kernel)) rfl
theorem wd_958 : (.code yX9_isPeopleLine cX9_isPeopleLine 1 (some .boolean) : Cond) ∈ lw_g := mg (List.mem_of_getElem? (i := 958) (by decide +kernel)) rfl
theorem wd_959 : (.methodLink RX9 112 yX9_fails : Cond) ∈ lw_g := mg (List.mem_of_getElem? (i := 959) (by decide +kernel)) rfl
theorem wd_961 : (.instanceMethod yX9_fails : Cond) ∈ lw_g := mg (List.mem_of_getElem? (i := 961) (by decide +kernel)) rfl
theorem wd_962 : (.code yX9_fails cX9_fails 2 (some .boolean) : Cond) ∈ lw_g := mg (List.mem_of_getElem? (i := 962) (by decide +kernel)) rfl
theorem wd_963 : (.methodLink RX9 119 yX9_isNumber : Cond) ∈ lw_g := mg (List.mem_of_getElem? (i := 963) (by decide +kernel)) rfl
theorem wd_965 : (.instanceMethod yX9_isNumber : Cond) ∈ lw_g := mg (List.mem_of_getElem? (i := 965) (by decide +kernel)) rfl
theorem wd_966 : (.code yX9_isNumber cX9_isNumber 3 (some .boolean) : Cond) ∈ lw_g := mg (List.mem_of_getElem? (i := 966) (by decide +kernel)) rfl
theorem wd_967 : (.methodLink RX9 123 yX9_isEnd : Cond) ∈ lw_g := mg (List.mem_of_getElem? (i := 967) (by decide +kernel)) rfl
theorem wd_969 : (.instanceMethod yX9_isEnd : Cond) ∈ lw_g := mg (List.mem_of_getElem? (i := 969) (by decide +kernel)) rfl
theorem wd_970 : (.code yX9_isEnd cX9_isEnd 1 (some .boolean) : Cond) ∈ lw_g := mg (List.mem_of_getElem? (i := 970) (by decide +kernel)) rfl
theorem wd_971 : (.methodLink RX9 148 yX9_isFactLine : Cond) ∈ lw_g := mg (List.mem_of_getElem? (i := 971) (by decide +kernel)) rfl
theorem wd_973 : (.instanceMethod yX9_isFactLine : Cond) ∈ lw_g := mg (List.mem_of_getElem? (i := 973) (by decide +kernel)) rfl
theorem wd_974 : (.code yX9_isFactLine cX9_isFactLine 3 (some .boolean) : Cond) ∈ lw_g := mg (List.mem_of_getElem? (i := 974) (by decide +kernel)) rfl
theorem wd_975 : (.methodLink RX9 151 yX9_isKnownLine : Cond) ∈ lw_g := mg (List.mem_of_getElem? (i := 975) (by decide +kernel)) rfl
theorem wd_977 : (.instanceMethod yX9_isKnownLine : Cond) ∈ lw_g := mg (List.mem_of_getElem? (i := 977) (by decide +kernel)) rfl
theorem wd_978 : (.code yX9_isKnownLine cX9_isKnownLine 2 (some .boolean) : Cond) ∈ lw_g := mg (List.mem_of_getElem? (i := 978) (by decide +kernel)) rfl
theorem wd_979 : (.methodLink RX9 154 yX9_isPairLine : Cond) ∈ lw_g := mg (List.mem_of_getElem? (i := 979) (by decide +kernel)) rfl
theorem wd_981 : (.instanceMethod yX9_isPairLine : Cond) ∈ lw_g := mg (List.mem_of_getElem? (i := 981) (by decide +kernel)) rfl
theorem wd_982 : (.code yX9_isPairLine cX9_isPairLine 6 (some .boolean) : Cond) ∈ lw_g := mg (List.mem_of_getElem? (i := 982) (by decide +kernel)) rfl
theorem wd_983 : (.methodLink RX9 157 yX9_isQuietLine : Cond) ∈ lw_g := mg (List.mem_of_getElem? (i := 983) (by decide +kernel)) rfl
theorem wd_985 : (.instanceMethod yX9_isQuietLine : Cond) ∈ lw_g := mg (List.mem_of_getElem? (i := 985) (by decide +kernel)) rfl
theorem wd_986 : (.code yX9_isQuietLine cX9_isQuietLine 1 (some .boolean) : Cond) ∈ lw_g := mg (List.mem_of_getElem? (i := 986) (by decide +kernel)) rfl
theorem wd_987 : (.methodLink RX9 136 yX9_has : Cond) ∈ lw_g := mg (List.mem_of_getElem? (i := 987) (by decide +kernel)) rfl
theorem wd_988 : (.static yX9_has : Cond) ∈ lw_g := mg (List.mem_of_getElem? (i := 988) (by decide +kernel)) rfl
theorem wd_989 : (.code yX9_has cX9_has 2 (some .boolean) : Cond) ∈ lw_g := mg (List.mem_of_getElem? (i := 989) (by decide +kernel)) rfl
theorem wd_990 : (.methodLink RX9 160 yX9_isBridgeLine : Cond) ∈ lw_g := mg (List.mem_of_getElem? (i := 990) (by decide +kernel)) rfl
theorem wd_992 : (.instanceMethod yX9_isBridgeLine : Cond) ∈ lw_g := mg (List.mem_of_getElem? (i := 992) (by decide +kernel)) rfl
theorem wd_993 : (.code yX9_isBridgeLine cX9_isBridgeLine 1 (some .boolean) : Cond) ∈ lw_g := mg (List.mem_of_getElem? (i := 993) (by decide +kernel)) rfl
theorem wd_994 : (.methodLink RX9 163 yX9_isHoursLine : Cond) ∈ lw_g := mg (List.mem_of_getElem? (i := 994) (by decide +kernel)) rfl
theorem wd_996 : (.instanceMethod yX9_isHoursLine : Cond) ∈ lw_g := mg (List.mem_of_getElem? (i := 996) (by decide +kernel)) rfl
theorem wd_997 : (.code yX9_isHoursLine cX9_isHoursLine 1 (some .boolean) : Cond) ∈ lw_g := mg (List.mem_of_getElem? (i := 997) (by decide +kernel)) rfl
theorem wd_999 : (.instanceMethod yX9_fault : Cond) ∈ lw_g := mg (List.mem_of_getElem? (i := 999) (by decide +kernel)) rfl
theorem wd_1000 : (.selects RX9 yX9_fault yX9_fault : Cond) ∈ lw_g := mg (List.mem_of_getElem? (i := 1000) (by decide +kernel)) rfl
theorem wd_1001 : (.code yX9_fault cX9_fault 1 (some .int) : Cond) ∈ lw_g := mg (List.mem_of_getElem? (i := 1001) (by decide +kernel)) rfl
theorem wd_1003 : (.instanceMethod yX9_told : Cond) ∈ lw_g := mg (List.mem_of_getElem? (i := 1003) (by decide +kernel)) rfl
theorem wd_1004 : (.selects RX9 yX9_told yX9_told : Cond) ∈ lw_g := mg (List.mem_of_getElem? (i := 1004) (by decide +kernel)) rfl
theorem wd_1005 : (.code yX9_told cX9_told 4 (some .int) : Cond) ∈ lw_g := mg (List.mem_of_getElem? (i := 1005) (by decide +kernel)) rfl
theorem wd_1006 : (.methodLink RX9 189 yX9_headsOf : Cond) ∈ lw_g := mg (List.mem_of_getElem? (i := 1006) (by decide +kernel)) rfl
theorem wd_1008 : (.instanceMethod yX9_headsOf : Cond) ∈ lw_g := mg (List.mem_of_getElem? (i := 1008) (by decide +kernel)) rfl
theorem wd_1009 : (.code yX9_headsOf cX9_headsOf 5 (some .int) : Cond) ∈ lw_g := mg (List.mem_of_getElem? (i := 1009) (by decide +kernel)) rfl
theorem wd_1010 : (.methodLink RX9 182 yX9_personOf : Cond) ∈ lw_g := mg (List.mem_of_getElem? (i := 1010) (by decide +kernel)) rfl
theorem wd_1012 : (.instanceMethod yX9_personOf : Cond) ∈ lw_g := mg (List.mem_of_getElem? (i := 1012) (by decide +kernel)) rfl
theorem wd_1013 : (.code yX9_personOf cX9_personOf 2 (some .int) : Cond) ∈ lw_g := mg (List.mem_of_getElem? (i := 1013) (by decide +kernel)) rfl
theorem wd_1014 : (.methodLink RX9 178 yX9_knows : Cond) ∈ lw_g := mg (List.mem_of_getElem? (i := 1014) (by decide +kernel)) rfl
theorem wd_1015 : (.static yX9_knows : Cond) ∈ lw_g := mg (List.mem_of_getElem? (i := 1015) (by decide +kernel)) rfl
theorem wd_1016 : (.code yX9_knows cX9_knows 3 (some .boolean) : Cond) ∈ lw_g := mg (List.mem_of_getElem? (i := 1016) (by decide +kernel)) rfl
theorem wd_1018 : (.instanceMethod yX9_fact : Cond) ∈ lw_g := mg (List.mem_of_getElem? (i := 1018) (by decide +kernel)) rfl
theorem wd_1019 : (.selects RX9 yX9_fact yX9_fact : Cond) ∈ lw_g := mg (List.mem_of_getElem? (i := 1019) (by decide +kernel)) rfl
theorem wd_1020 : (.code yX9_fact cX9_fact 3 (some .int) : Cond) ∈ lw_g := mg (List.mem_of_getElem? (i := 1020) (by decide +kernel)) rfl
theorem wd_1021 : (.methodLink RX9 210 yX9_isFact : Cond) ∈ lw_g := mg (List.mem_of_getElem? (i := 1021) (by decide +kernel)) rfl
theorem wd_1023 : (.instanceMethod yX9_isFact : Cond) ∈ lw_g := mg (List.mem_of_getElem? (i := 1023) (by decide +kernel)) rfl
theorem wd_1024 : (.code yX9_isFact cX9_isFact 2 (some .boolean) : Cond) ∈ lw_g := mg (List.mem_of_getElem? (i := 1024) (by decide +kernel)) rfl
theorem wd_1025 : (.constant RX9 213 (-1000000001) : Cond) ∈ lw_g := mg (List.mem_of_getElem? (i := 1025) (by decide +kernel)) rfl
theorem wd_1026 : (.methodLink RX9 199 yX9_knowersOf : Cond) ∈ lw_g := mg (List.mem_of_getElem? (i := 1026) (by decide +kernel)) rfl
theorem wd_1028 : (.instanceMethod yX9_knowersOf : Cond) ∈ lw_g := mg (List.mem_of_getElem? (i := 1028) (by decide +kernel)) rfl
theorem wd_1029 : (.code yX9_knowersOf cX9_knowersOf 5 (some .int) : Cond) ∈ lw_g := mg (List.mem_of_getElem? (i := 1029) (by decide +kernel)) rfl
theorem wd_1031 : (.instanceMethod yX9_person : Cond) ∈ lw_g := mg (List.mem_of_getElem? (i := 1031) (by decide +kernel)) rfl
theorem wd_1032 : (.selects RX9 yX9_person yX9_person : Cond) ∈ lw_g := mg (List.mem_of_getElem? (i := 1032) (by decide +kernel)) rfl
theorem wd_1033 : (.code yX9_person cX9_person 6 (some .int) : Cond) ∈ lw_g := mg (List.mem_of_getElem? (i := 1033) (by decide +kernel)) rfl
theorem wd_1034 : (.methodLink RX9 214 yX9_isOne : Cond) ∈ lw_g := mg (List.mem_of_getElem? (i := 1034) (by decide +kernel)) rfl
theorem wd_1036 : (.instanceMethod yX9_isOne : Cond) ∈ lw_g := mg (List.mem_of_getElem? (i := 1036) (by decide +kernel)) rfl
theorem wd_1037 : (.code yX9_isOne cX9_isOne 2 (some .boolean) : Cond) ∈ lw_g := mg (List.mem_of_getElem? (i := 1037) (by decide +kernel)) rfl
theorem wd_1038 : (.methodLink RX9 196 yX9_friendsOf : Cond) ∈ lw_g := mg (List.mem_of_getElem? (i := 1038) (by decide +kernel)) rfl
theorem wd_1040 : (.instanceMethod yX9_friendsOf : Cond) ∈ lw_g := mg (List.mem_of_getElem? (i := 1040) (by decide +kernel)) rfl
theorem wd_1041 : (.code yX9_friendsOf cX9_friendsOf 4 (some .int) : Cond) ∈ lw_g := mg (List.mem_of_getElem? (i := 1041) (by decide +kernel)) rfl
theorem wd_1043 : (.instanceMethod yX9_since : Cond) ∈ lw_g := mg (List.mem_of_getElem? (i := 1043) (by decide +kernel)) rfl
theorem wd_1044 : (.selects RX9 yX9_since yX9_since : Cond) ∈ lw_g := mg (List.mem_of_getElem? (i := 1044) (by decide +kernel)) rfl
theorem wd_1045 : (.code yX9_since cX9_since 3 (some .int) : Cond) ∈ lw_g := mg (List.mem_of_getElem? (i := 1045) (by decide +kernel)) rfl
theorem wd_1047 : (.instanceMethod yX9_weight : Cond) ∈ lw_g := mg (List.mem_of_getElem? (i := 1047) (by decide +kernel)) rfl
theorem wd_1048 : (.selects RX9 yX9_weight yX9_weight : Cond) ∈ lw_g := mg (List.mem_of_getElem? (i := 1048) (by decide +kernel)) rfl
theorem wd_1049 : (.code yX9_weight cX9_weight 2 (some .int) : Cond) ∈ lw_g := mg (List.mem_of_getElem? (i := 1049) (by decide +kernel)) rfl
theorem wd_1050 : (.methodLink RX9 217 yX9_weightOf : Cond) ∈ lw_g := mg (List.mem_of_getElem? (i := 1050) (by decide +kernel)) rfl
theorem wd_1052 : (.instanceMethod yX9_weightOf : Cond) ∈ lw_g := mg (List.mem_of_getElem? (i := 1052) (by decide +kernel)) rfl
theorem wd_1053 : (.code yX9_weightOf cX9_weightOf 6 (some .int) : Cond) ∈ lw_g := mg (List.mem_of_getElem? (i := 1053) (by decide +kernel)) rfl
theorem wd_1054 : (.methodLink RX9 186 yX9_gramsOf : Cond) ∈ lw_g := mg (List.mem_of_getElem? (i := 1054) (by decide +kernel)) rfl
theorem wd_1056 : (.instanceMethod yX9_gramsOf : Cond) ∈ lw_g := mg (List.mem_of_getElem? (i := 1056) (by decide +kernel)) rfl
theorem wd_1057 : (.code yX9_gramsOf cX9_gramsOf 2 (some .int) : Cond) ∈ lw_g := mg (List.mem_of_getElem? (i := 1057) (by decide +kernel)) rfl
theorem wd_1058 : (.methodLink RX9 193 yX9_isLie : Cond) ∈ lw_g := mg (List.mem_of_getElem? (i := 1058) (by decide +kernel)) rfl
theorem wd_1060 : (.instanceMethod yX9_isLie : Cond) ∈ lw_g := mg (List.mem_of_getElem? (i := 1060) (by decide +kernel)) rfl
theorem wd_1061 : (.code yX9_isLie cX9_isLie 2 (some .boolean) : Cond) ∈ lw_g := mg (List.mem_of_getElem? (i := 1061) (by decide +kernel)) rfl
theorem wd_1063 : (.instanceMethod yX9_bridge : Cond) ∈ lw_g := mg (List.mem_of_getElem? (i := 1063) (by decide +kernel)) rfl
theorem wd_1064 : (.selects RX9 yX9_bridge yX9_bridge : Cond) ∈ lw_g := mg (List.mem_of_getElem? (i := 1064) (by decide +kernel)) rfl
theorem wd_1065 : (.code yX9_bridge cX9_bridge 2 (some .int) : Cond) ∈ lw_g := mg (List.mem_of_getElem? (i := 1065) (by decide +kernel)) rfl
theorem wd_1066 : (.methodLink RX9 220 yX9_isBridge : Cond) ∈ lw_g := mg (List.mem_of_getElem? (i := 1066) (by decide +kernel)) rfl
theorem wd_1068 : (.instanceMethod yX9_isBridge : Cond) ∈ lw_g := mg (List.mem_of_getElem? (i := 1068) (by decide +kernel)) rfl
theorem wd_1069 : (.code yX9_isBridge cX9_isBridge 2 (some .boolean) : Cond) ∈ lw_g := mg (List.mem_of_getElem? (i := 1069) (by decide +kernel)) rfl
theorem wd_1071 : (.instanceMethod yX9_tell : Cond) ∈ lw_g := mg (List.mem_of_getElem? (i := 1071) (by decide +kernel)) rfl
theorem wd_1072 : (.selects RX9 yX9_tell yX9_tell : Cond) ∈ lw_g := mg (List.mem_of_getElem? (i := 1072) (by decide +kernel)) rfl
theorem wd_1073 : (.code yX9_tell cX9_tell 3 (some .int) : Cond) ∈ lw_g := mg (List.mem_of_getElem? (i := 1073) (by decide +kernel)) rfl
theorem wd_1074 : (.constant RX9 223 (-1000000003) : Cond) ∈ lw_g := mg (List.mem_of_getElem? (i := 1074) (by decide +kernel)) rfl
theorem wd_1076 : (.instanceMethod yX9_forget : Cond) ∈ lw_g := mg (List.mem_of_getElem? (i := 1076) (by decide +kernel)) rfl
theorem wd_1077 : (.selects RX9 yX9_forget yX9_forget : Cond) ∈ lw_g := mg (List.mem_of_getElem? (i := 1077) (by decide +kernel)) rfl
theorem wd_1078 : (.code yX9_forget cX9_forget 3 (some .int) : Cond) ∈ lw_g := mg (List.mem_of_getElem? (i := 1078) (by decide +kernel)) rfl
theorem wd_1080 : (.instanceMethod yX9_hour : Cond) ∈ lw_g := mg (List.mem_of_getElem? (i := 1080) (by decide +kernel)) rfl
theorem wd_1081 : (.selects RX9 yX9_hour yX9_hour : Cond) ∈ lw_g := mg (List.mem_of_getElem? (i := 1081) (by decide +kernel)) rfl
theorem wd_1082 : (.code yX9_hour cX9_hour 4 (some .int) : Cond) ∈ lw_g := mg (List.mem_of_getElem? (i := 1082) (by decide +kernel)) rfl
theorem wd_1083 : (.methodLink RX9 225 yX9_barred : Cond) ∈ lw_g := mg (List.mem_of_getElem? (i := 1083) (by decide +kernel)) rfl
theorem wd_1085 : (.instanceMethod yX9_barred : Cond) ∈ lw_g := mg (List.mem_of_getElem? (i := 1085) (by decide +kernel)) rfl
theorem wd_1086 : (.code yX9_barred cX9_barred 2 (some .int) : Cond) ∈ lw_g := mg (List.mem_of_getElem? (i := 1086) (by decide +kernel)) rfl
theorem wd_1087 : (.constant RX9 224 (90000) : Cond) ∈ lw_g := mg (List.mem_of_getElem? (i := 1087) (by decide +kernel)) rfl
theorem wd_1088 : (.methodLink RX9 202 yX9_copy : Cond) ∈ lw_g := mg (List.mem_of_getElem? (i := 1088) (by decide +kernel)) rfl
theorem wd_1089 : (.static yX9_copy : Cond) ∈ lw_g := mg (List.mem_of_getElem? (i := 1089) (by decide +kernel)) rfl
theorem wd_1090 : (.code yX9_copy cX9_copy 5 none : Cond) ∈ lw_g := mg (List.mem_of_getElem? (i := 1090) (by decide +kernel)) rfl
theorem wd_1091 : (.methodLink RX9 228 yX9_pass : Cond) ∈ lw_g := mg (List.mem_of_getElem? (i := 1091) (by decide +kernel)) rfl
theorem wd_1093 : (.instanceMethod yX9_pass : Cond) ∈ lw_g := mg (List.mem_of_getElem? (i := 1093) (by decide +kernel)) rfl
theorem wd_1094 : (.code yX9_pass cX9_pass 2 none : Cond) ∈ lw_g := mg (List.mem_of_getElem? (i := 1094) (by decide +kernel)) rfl
theorem wd_1095 : (.methodLink RX9 206 yX9_tells : Cond) ∈ lw_g := mg (List.mem_of_getElem? (i := 1095) (by decide +kernel)) rfl
theorem wd_1097 : (.instanceMethod yX9_tells : Cond) ∈ lw_g := mg (List.mem_of_getElem? (i := 1097) (by decide +kernel)) rfl
theorem wd_1098 : (.code yX9_tells cX9_tells 6 none : Cond) ∈ lw_g := mg (List.mem_of_getElem? (i := 1098) (by decide +kernel)) rfl
theorem wd_1100 : (.instanceMethod yX9_drift : Cond) ∈ lw_g := mg (List.mem_of_getElem? (i := 1100) (by decide +kernel)) rfl
theorem wd_1101 : (.selects RX9 yX9_drift yX9_drift : Cond) ∈ lw_g := mg (List.mem_of_getElem? (i := 1101) (by decide +kernel)) rfl
theorem wd_1102 : (.code yX9_drift cX9_drift 6 (some .int) : Cond) ∈ lw_g := mg (List.mem_of_getElem? (i := 1102) (by decide +kernel)) rfl
theorem wd_1103 : (.methodLink RX9 238 yX9_draw : Cond) ∈ lw_g := mg (List.mem_of_getElem? (i := 1103) (by decide +kernel)) rfl
theorem wd_1105 : (.instanceMethod yX9_draw : Cond) ∈ lw_g := mg (List.mem_of_getElem? (i := 1105) (by decide +kernel)) rfl
theorem wd_1106 : (.code yX9_draw cX9_draw 2 (some .int) : Cond) ∈ lw_g := mg (List.mem_of_getElem? (i := 1106) (by decide +kernel)) rfl
theorem wd_1107 : (.constantLong RX9 231 (1103515245) : Cond) ∈ lw_g := mg (List.mem_of_getElem? (i := 1107) (by decide +kernel)) rfl
theorem wd_1108 : (.constantLong RX9 233 (12345) : Cond) ∈ lw_g := mg (List.mem_of_getElem? (i := 1108) (by decide +kernel)) rfl
theorem wd_1109 : (.constantLong RX9 235 (2147483648) : Cond) ∈ lw_g := mg (List.mem_of_getElem? (i := 1109) (by decide +kernel)) rfl
theorem wd_1110 : (.constant RX9 237 (65536) : Cond) ∈ lw_g := mg (List.mem_of_getElem? (i := 1110) (by decide +kernel)) rfl
theorem wd_1112 : (.instanceMethod yX9_heavy : Cond) ∈ lw_g := mg (List.mem_of_getElem? (i := 1112) (by decide +kernel)) rfl
theorem wd_1113 : (.selects RX9 yX9_heavy yX9_heavy : Cond) ∈ lw_g := mg (List.mem_of_getElem? (i := 1113) (by decide +kernel)) rfl
theorem wd_1114 : (.code yX9_heavy cX9_heavy 4 (some .int) : Cond) ∈ lw_g := mg (List.mem_of_getElem? (i := 1114) (by decide +kernel)) rfl
theorem wd_1116 : (.instanceMethod yX9_when : Cond) ∈ lw_g := mg (List.mem_of_getElem? (i := 1116) (by decide +kernel)) rfl
theorem wd_1117 : (.selects RX9 yX9_when yX9_when : Cond) ∈ lw_g := mg (List.mem_of_getElem? (i := 1117) (by decide +kernel)) rfl
theorem wd_1118 : (.code yX9_when cX9_when 4 (some .int) : Cond) ∈ lw_g := mg (List.mem_of_getElem? (i := 1118) (by decide +kernel)) rfl
theorem wd_1120 : (.instanceMethod yX9_least : Cond) ∈ lw_g := mg (List.mem_of_getElem? (i := 1120) (by decide +kernel)) rfl
theorem wd_1121 : (.selects RX9 yX9_least yX9_least : Cond) ∈ lw_g := mg (List.mem_of_getElem? (i := 1121) (by decide +kernel)) rfl
theorem wd_1122 : (.code yX9_least cX9_least 10 (some .int) : Cond) ∈ lw_g := mg (List.mem_of_getElem? (i := 1122) (by decide +kernel)) rfl
theorem wd_1123 : (.methodLink RX9 241 yX9_isSet : Cond) ∈ lw_g := mg (List.mem_of_getElem? (i := 1123) (by decide +kernel)) rfl
theorem wd_1125 : (.instanceMethod yX9_isSet : Cond) ∈ lw_g := mg (List.mem_of_getElem? (i := 1125) (by decide +kernel)) rfl
theorem wd_1126 : (.code yX9_isSet cX9_isSet 2 (some .boolean) : Cond) ∈ lw_g := mg (List.mem_of_getElem? (i := 1126) (by decide +kernel)) rfl
theorem wd_1128 : (.instanceMethod yX9_trips : Cond) ∈ lw_g := mg (List.mem_of_getElem? (i := 1128) (by decide +kernel)) rfl
theorem wd_1129 : (.selects RX9 yX9_trips yX9_trips : Cond) ∈ lw_g := mg (List.mem_of_getElem? (i := 1129) (by decide +kernel)) rfl
theorem wd_1130 : (.code yX9_trips cX9_trips 10 (some .int) : Cond) ∈ lw_g := mg (List.mem_of_getElem? (i := 1130) (by decide +kernel)) rfl
theorem wd_1131 : (.methodLink RX9 244 yX9_togetherOf : Cond) ∈ lw_g := mg (List.mem_of_getElem? (i := 1131) (by decide +kernel)) rfl
theorem wd_1133 : (.instanceMethod yX9_togetherOf : Cond) ∈ lw_g := mg (List.mem_of_getElem? (i := 1133) (by decide +kernel)) rfl
theorem wd_1134 : (.code yX9_togetherOf cX9_togetherOf 4 (some .int) : Cond) ∈ lw_g := mg (List.mem_of_getElem? (i := 1134) (by decide +kernel)) rfl
theorem wd_1136 : (.instanceMethod yX9_counted : Cond) ∈ lw_g := mg (List.mem_of_getElem? (i := 1136) (by decide +kernel)) rfl
theorem wd_1137 : (.selects RX9 yX9_counted yX9_counted : Cond) ∈ lw_g := mg (List.mem_of_getElem? (i := 1137) (by decide +kernel)) rfl
theorem wd_1138 : (.code yX9_counted cX9_counted 8 (some .int) : Cond) ∈ lw_g := mg (List.mem_of_getElem? (i := 1138) (by decide +kernel)) rfl
theorem wd_1139 : (.methodLink RX9 247 yX9_layWays : Cond) ∈ lw_g := mg (List.mem_of_getElem? (i := 1139) (by decide +kernel)) rfl
theorem wd_1141 : (.instanceMethod yX9_layWays : Cond) ∈ lw_g := mg (List.mem_of_getElem? (i := 1141) (by decide +kernel)) rfl
theorem wd_1142 : (.code yX9_layWays cX9_layWays 8 none : Cond) ∈ lw_g := mg (List.mem_of_getElem? (i := 1142) (by decide +kernel)) rfl
theorem wd_1143 : (.methodLink RX9 251 yX9_waysTo : Cond) ∈ lw_g := mg (List.mem_of_getElem? (i := 1143) (by decide +kernel)) rfl
theorem wd_1145 : (.instanceMethod yX9_waysTo : Cond) ∈ lw_g := mg (List.mem_of_getElem? (i := 1145) (by decide +kernel)) rfl
theorem wd_1146 : (.code yX9_waysTo cX9_waysTo 2 (some .long) : Cond) ∈ lw_g := mg (List.mem_of_getElem? (i := 1146) (by decide +kernel)) rfl
theorem wd_1148 : (.instanceMethod yX9_lies : Cond) ∈ lw_g := mg (List.mem_of_getElem? (i := 1148) (by decide +kernel)) rfl
theorem wd_1149 : (.selects RX9 yX9_lies yX9_lies : Cond) ∈ lw_g := mg (List.mem_of_getElem? (i := 1149) (by decide +kernel)) rfl
theorem wd_1150 : (.code yX9_lies cX9_lies 12 (some .int) : Cond) ∈ lw_g := mg (List.mem_of_getElem? (i := 1150) (by decide +kernel)) rfl
theorem wd_1152 : (.instanceMethod yX9_apart : Cond) ∈ lw_g := mg (List.mem_of_getElem? (i := 1152) (by decide +kernel)) rfl
theorem wd_1153 : (.selects RX9 yX9_apart yX9_apart : Cond) ∈ lw_g := mg (List.mem_of_getElem? (i := 1153) (by decide +kernel)) rfl
theorem wd_1154 : (.code yX9_apart cX9_apart 6 (some .int) : Cond) ∈ lw_g := mg (List.mem_of_getElem? (i := 1154) (by decide +kernel)) rfl
theorem wd_1155 : (.methodLink RX9 255 yX9_bits : Cond) ∈ lw_g := mg (List.mem_of_getElem? (i := 1155) (by decide +kernel)) rfl
theorem wd_1156 : (.static yX9_bits : Cond) ∈ lw_g := mg (List.mem_of_getElem? (i := 1156) (by decide +kernel)) rfl
theorem wd_1157 : (.code yX9_bits cX9_bits 3 (some .int) : Cond) ∈ lw_g := mg (List.mem_of_getElem? (i := 1157) (by decide +kernel)) rfl
theorem wd_1158 : (.methodLink RX9 258 yX9_canCome : Cond) ∈ lw_g := mg (List.mem_of_getElem? (i := 1158) (by decide +kernel)) rfl
theorem wd_1160 : (.instanceMethod yX9_canCome : Cond) ∈ lw_g := mg (List.mem_of_getElem? (i := 1160) (by decide +kernel)) rfl
theorem wd_1161 : (.code yX9_canCome cX9_canCome 11 (some .boolean) : Cond) ∈ lw_g := mg (List.mem_of_getElem? (i := 1161) (by decide +kernel)) rfl
theorem wd_1163 : (.instanceMethod yX9_treaty : Cond) ∈ lw_g := mg (List.mem_of_getElem? (i := 1163) (by decide +kernel)) rfl
theorem wd_1164 : (.selects RX9 yX9_treaty yX9_treaty : Cond) ∈ lw_g := mg (List.mem_of_getElem? (i := 1164) (by decide +kernel)) rfl
theorem wd_1165 : (.code yX9_treaty cX9_treaty 5 (some .int) : Cond) ∈ lw_g := mg (List.mem_of_getElem? (i := 1165) (by decide +kernel)) rfl
theorem wd_1166 : (.methodLink RX9 261 yX9_forgotten : Cond) ∈ lw_g := mg (List.mem_of_getElem? (i := 1166) (by decide +kernel)) rfl
theorem wd_1168 : (.instanceMethod yX9_forgotten : Cond) ∈ lw_g := mg (List.mem_of_getElem? (i := 1168) (by decide +kernel)) rfl
theorem wd_1169 : (.code yX9_forgotten cX9_forgotten 10 (some .int) : Cond) ∈ lw_g := mg (List.mem_of_getElem? (i := 1169) (by decide +kernel)) rfl
theorem wd_1171 : (.instanceMethod yX9_odds : Cond) ∈ lw_g := mg (List.mem_of_getElem? (i := 1171) (by decide +kernel)) rfl
theorem wd_1172 : (.selects RX9 yX9_odds yX9_odds : Cond) ∈ lw_g := mg (List.mem_of_getElem? (i := 1172) (by decide +kernel)) rfl
theorem wd_1173 : (.code yX9_odds cX9_odds 10 (some .int) : Cond) ∈ lw_g := mg (List.mem_of_getElem? (i := 1173) (by decide +kernel)) rfl
theorem wd_1174 : (.constantLong RX9 265 (1000000000) : Cond) ∈ lw_g := mg (List.mem_of_getElem? (i := 1174) (by decide +kernel)) rfl
theorem wd_1175 : (.constantLong RX9 267 (100) : Cond) ∈ lw_g := mg (List.mem_of_getElem? (i := 1175) (by decide +kernel)) rfl
theorem wd_1177 : (.instanceMethod yX9_write : Cond) ∈ lw_g := mg (List.mem_of_getElem? (i := 1177) (by decide +kernel)) rfl
theorem wd_1178 : (.selects RX9 yX9_write yX9_write : Cond) ∈ lw_g := mg (List.mem_of_getElem? (i := 1178) (by decide +kernel)) rfl
theorem wd_1179 : (.code yX9_write cX9_write 3 (some .int) : Cond) ∈ lw_g := mg (List.mem_of_getElem? (i := 1179) (by decide +kernel)) rfl
theorem wd_1181 : (.instanceMethod yX9_tear : Cond) ∈ lw_g := mg (List.mem_of_getElem? (i := 1181) (by decide +kernel)) rfl
theorem wd_1182 : (.selects RX9 yX9_tear yX9_tear : Cond) ∈ lw_g := mg (List.mem_of_getElem? (i := 1182) (by decide +kernel)) rfl
theorem wd_1183 : (.code yX9_tear cX9_tear 2 (some .int) : Cond) ∈ lw_g := mg (List.mem_of_getElem? (i := 1183) (by decide +kernel)) rfl
theorem wd_1185 : (.instanceMethod yX9_judge : Cond) ∈ lw_g := mg (List.mem_of_getElem? (i := 1185) (by decide +kernel)) rfl
theorem wd_1186 : (.selects RX9 yX9_judge yX9_judge : Cond) ∈ lw_g := mg (List.mem_of_getElem? (i := 1186) (by decide +kernel)) rfl
theorem wd_1187 : (.code yX9_judge cX9_judge 2 (some .int) : Cond) ∈ lw_g := mg (List.mem_of_getElem? (i := 1187) (by decide +kernel)) rfl
theorem wd_1189 : (.instanceMethod yX9_seed : Cond) ∈ lw_g := mg (List.mem_of_getElem? (i := 1189) (by decide +kernel)) rfl
theorem wd_1190 : (.selects RX9 yX9_seed yX9_seed : Cond) ∈ lw_g := mg (List.mem_of_getElem? (i := 1190) (by decide +kernel)) rfl
theorem wd_1191 : (.code yX9_seed cX9_seed 3 (some .int) : Cond) ∈ lw_g := mg (List.mem_of_getElem? (i := 1191) (by decide +kernel)) rfl
theorem wd_1193 : (.instanceMethod yX9_keep : Cond) ∈ lw_g := mg (List.mem_of_getElem? (i := 1193) (by decide +kernel)) rfl
theorem wd_1194 : (.selects RX9 yX9_keep yX9_keep : Cond) ∈ lw_g := mg (List.mem_of_getElem? (i := 1194) (by decide +kernel)) rfl
theorem wd_1195 : (.code yX9_keep cX9_keep 2 (some .int) : Cond) ∈ lw_g := mg (List.mem_of_getElem? (i := 1195) (by decide +kernel)) rfl
theorem wd_1197 : (.instanceMethod yX9_goBack : Cond) ∈ lw_g := mg (List.mem_of_getElem? (i := 1197) (by decide +kernel)) rfl
theorem wd_1198 : (.selects RX9 yX9_goBack yX9_goBack : Cond) ∈ lw_g := mg (List.mem_of_getElem? (i := 1198) (by decide +kernel)) rfl
theorem wd_1199 : (.code yX9_goBack cX9_goBack 2 (some .int) : Cond) ∈ lw_g := mg (List.mem_of_getElem? (i := 1199) (by decide +kernel)) rfl
theorem ar_of {o k j : Nat} {q : Nat × Nat} (ho : clsO o = k) (h : arT k j = some q) : arT (clsO o) j = some q := by rw [ho]; exact h
theorem ar_0_0 : arT 0 0 = some (0, 433) := by decide +kernel
theorem ar_1_0 : arT 1 0 = some (0, 128) := by decide +kernel
theorem ar_1_1 : arT 1 1 = some (0, 128) := by decide +kernel
theorem ar_2_2 : arT 2 2 = some (0, 8) := by decide +kernel
theorem ar_2_3 : arT 2 3 = some (0, 8) := by decide +kernel
theorem ar_2_4 : arT 2 4 = some (0, 56) := by decide +kernel
theorem ar_3_8 : arT 3 8 = some (0, 8) := by decide +kernel
theorem ar_3_9 : arT 3 9 = some (0, 8) := by decide +kernel
theorem ar_3_10 : arT 3 10 = some (0, 8) := by decide +kernel
theorem ar_3_11 : arT 3 11 = some (0, 7) := by decide +kernel
theorem ar_3_12 : arT 3 12 = some (0, 7) := by decide +kernel
theorem ar_3_13 : arT 3 13 = some (0, 12) := by decide +kernel
theorem ar_3_14 : arT 3 14 = some (0, 12) := by decide +kernel
theorem ar_3_15 : arT 3 15 = some (0, 4) := by decide +kernel
theorem ar_4_0 : arT 4 0 = some (0, 250) := by decide +kernel
theorem ar_5_0 : arT 5 0 = some (0, 73) := by decide +kernel
theorem ar_5_1 : arT 5 1 = some (0, 73) := by decide +kernel
theorem ar_6_1 : arT 6 1 = some (0, 15) := by decide +kernel
theorem ar_6_2 : arT 6 2 = some (0, 15) := by decide +kernel
theorem ar_7_0 : arT 7 0 = some (0, 433) := by decide +kernel
theorem ar_8_5 : arT 8 5 = some (3, 2) := by decide +kernel
theorem ar_9_1 : arT 9 1 = some (0, 250) := by decide +kernel
theorem ar_9_10 : arT 9 10 = some (0, 32) := by decide +kernel
theorem ar_9_12 : arT 9 12 = some (0, 24) := by decide +kernel
theorem ar_9_15 : arT 9 15 = some (0, 4) := by decide +kernel
theorem ar_9_19 : arT 9 19 = some (0, 32) := by decide +kernel
theorem ar_9_21 : arT 9 21 = some (0, 24) := by decide +kernel
theorem ar_9_24 : arT 9 24 = some (0, 4) := by decide +kernel
theorem ar_9_26 : arT 9 26 = some (0, 58) := by decide +kernel
theorem ar_9_27 : arT 9 27 = some (0, 58) := by decide +kernel
theorem ar_9_28 : arT 9 28 = some (0, 58) := by decide +kernel
theorem ar_9_29 : arT 9 29 = some (0, 116) := by decide +kernel
theorem ar_9_30 : arT 9 30 = some (2, 2) := by decide +kernel
theorem ar_9_32 : arT 9 32 = some (0, 30) := by decide +kernel
theorem ar_9_33 : arT 9 33 = some (0, 8) := by decide +kernel
theorem ar_9_34 : arT 9 34 = some (0, 128) := by decide +kernel
theorem ar_9_35 : arT 9 35 = some (1, 1200) := by decide +kernel
theorem ar_9_36 : arT 9 36 = some (1, 1200) := by decide +kernel
theorem ar_9_37 : arT 9 37 = some (0, 7) := by decide +kernel
theorem mv_J7_fill_53178 : MS yJ7_fill_53178 cJ7_fill_53178 4 none 2 := ⟨wd_378, wd_72, wd_379, by decide +kernel, by decide +kernel, by decide +kernel⟩
theorem mv_J9_max_7cf53 : MS yJ9_max_7cf53 cJ9_max_7cf53 2 (some .int) 2 := ⟨wd_766, wd_75, wd_767, by decide +kernel, by decide +kernel, by decide +kernel⟩
theorem mv_J9_min_7cf53 : MS yJ9_min_7cf53 cJ9_min_7cf53 2 (some .int) 2 := ⟨wd_686, wd_75, wd_687, by decide +kernel, by decide +kernel, by decide +kernel⟩
theorem mv_X0_move : MV yX0_move cX0_move 5 none 3 := ⟨wd_762, wd_27, wd_69, wd_763, by decide +kernel, by decide +kernel, by decide +kernel⟩
theorem mv_X0_headForgets : MV yX0_headForgets cX0_headForgets 4 none 2 := ⟨wd_758, wd_26, wd_69, wd_759, by decide +kernel, by decide +kernel, by decide +kernel⟩
theorem mv_J6_bitCount_0f7a4 : MS yJ6_bitCount_0f7a4 cJ6_bitCount_0f7a4 1 (some .int) 1 := ⟨wd_482, wd_73, wd_483, by decide +kernel, by decide +kernel, by decide +kernel⟩
theorem mv_X2_headsOf : MV yX2_headsOf cX2_headsOf 3 (some .int) 2 := ⟨wd_478, wd_479, wd_65, wd_480, by decide +kernel, by decide +kernel, by decide +kernel⟩
theorem mv_X2_gramsOf : MV yX2_gramsOf cX2_gramsOf 5 (some .int) 2 := ⟨wd_535, wd_536, wd_65, wd_537, by decide +kernel, by decide +kernel, by decide +kernel⟩
theorem mv_X3_isLie : MV yX3_isLie cX3_isLie 2 (some .boolean) 1 := ⟨wd_497, wd_498, wd_64, wd_499, by decide +kernel, by decide +kernel, by decide +kernel⟩
theorem mv_X3_pull : MV yX3_pull cX3_pull 2 (some .int) 1 := ⟨wd_697, wd_698, wd_64, wd_699, by decide +kernel, by decide +kernel, by decide +kernel⟩
theorem mv_X0_spread : MV yX0_spread cX0_spread 9 none 4 := ⟨wd_748, wd_749, wd_69, wd_750, by decide +kernel, by decide +kernel, by decide +kernel⟩
theorem mv_X0_upTo : MV yX0_upTo cX0_upTo 4 (some .int) 1 := ⟨wd_770, wd_771, wd_69, wd_772, by decide +kernel, by decide +kernel, by decide +kernel⟩
theorem mv_X1_fewestOf : MV yX1_fewestOf cX1_fewestOf 5 (some .int) 1 := ⟨wd_658, wd_21, wd_67, wd_659, by decide +kernel, by decide +kernel, by decide +kernel⟩
theorem mv_X2_load : MV yX2_load cX2_load 4 (some .int) 2 := ⟨wd_531, wd_532, wd_65, wd_533, by decide +kernel, by decide +kernel, by decide +kernel⟩
theorem mv_X1_plan : MV yX1_plan cX1_plan 6 none 4 := ⟨wd_652, wd_653, wd_67, wd_654, by decide +kernel, by decide +kernel, by decide +kernel⟩
theorem mv_X1_firstGroup : MV yX1_firstGroup cX1_firstGroup 4 (some .int) 1 := ⟨wd_666, wd_22, wd_67, wd_667, by decide +kernel, by decide +kernel, by decide +kernel⟩
theorem mv_X1_group : MV yX1_group cX1_group 6 (some .int) 2 := ⟨wd_661, wd_662, wd_67, wd_663, by decide +kernel, by decide +kernel, by decide +kernel⟩
theorem mv_X2_begin : MV yX2_begin cX2_begin 3 none 1 := ⟨wd_461, wd_462, wd_65, wd_463, by decide +kernel, by decide +kernel, by decide +kernel⟩
theorem mv_X2_copyFrom : MV yX2_copyFrom cX2_copyFrom 2 none 1 := ⟨wd_615, wd_616, wd_65, wd_617, by decide +kernel, by decide +kernel, by decide +kernel⟩
theorem mv_X2_knows : MV yX2_knows cX2_knows 3 (some .boolean) 2 := ⟨wd_519, wd_520, wd_65, wd_521, by decide +kernel, by decide +kernel, by decide +kernel⟩
theorem mv_X2_heardAt : MV yX2_heardAt cX2_heardAt 3 (some .int) 2 := ⟨wd_523, wd_524, wd_65, wd_525, by decide +kernel, by decide +kernel, by decide +kernel⟩
theorem mv_X2_learn : MV yX2_learn cX2_learn 3 none 2 := ⟨wd_552, wd_553, wd_65, wd_554, by decide +kernel, by decide +kernel, by decide +kernel⟩
theorem mv_X2_lose : MV yX2_lose cX2_lose 3 none 2 := ⟨wd_560, wd_561, wd_65, wd_562, by decide +kernel, by decide +kernel, by decide +kernel⟩
theorem mv_X2_factsIn : MV yX2_factsIn cX2_factsIn 4 (some .int) 1 := ⟨wd_510, wd_511, wd_65, wd_512, by decide +kernel, by decide +kernel, by decide +kernel⟩
theorem mv_X2_allHeads : MV yX2_allHeads cX2_allHeads 4 (some .int) 1 := ⟨wd_474, wd_475, wd_65, wd_476, by decide +kernel, by decide +kernel, by decide +kernel⟩
theorem mv_X2_loadOfAll : MV yX2_loadOfAll cX2_loadOfAll 5 (some .int) 2 := ⟨wd_640, wd_641, wd_65, wd_642, by decide +kernel, by decide +kernel, by decide +kernel⟩
theorem mv_X2_forgetOld : MV yX2_forgetOld cX2_forgetOld 4 none 1 := ⟨wd_579, wd_17, wd_65, wd_580, by decide +kernel, by decide +kernel, by decide +kernel⟩
theorem mv_X2_chat : MV yX2_chat cX2_chat 5 none 2 := ⟨wd_591, wd_19, wd_65, wd_592, by decide +kernel, by decide +kernel, by decide +kernel⟩
theorem mv_X3_isQuiet : MV yX3_isQuiet cX3_isQuiet 2 (some .boolean) 1 := ⟨wd_445, wd_446, wd_64, wd_447, by decide +kernel, by decide +kernel, by decide +kernel⟩
theorem mv_X2_tellOn : MV yX2_tellOn cX2_tellOn 4 none 1 := ⟨wd_586, wd_18, wd_65, wd_587, by decide +kernel, by decide +kernel, by decide +kernel⟩
theorem mv_X2_passHour : MV yX2_passHour cX2_passHour 2 none 1 := ⟨wd_574, wd_575, wd_65, wd_576, by decide +kernel, by decide +kernel, by decide +kernel⟩
theorem mv_X2_drawOf : MV yX2_drawOf cX2_drawOf 2 (some .int) 1 := ⟨wd_604, wd_20, wd_65, wd_605, by decide +kernel, by decide +kernel, by decide +kernel⟩
theorem mv_X2_changeByDraws : MV yX2_changeByDraws cX2_changeByDraws 4 none 1 := ⟨wd_599, wd_600, wd_65, wd_601, by decide +kernel, by decide +kernel, by decide +kernel⟩
theorem mv_X3_clear : MV yX3_clear cX3_clear 1 none 0 := ⟨wd_374, wd_375, wd_64, wd_376, by decide +kernel, by decide +kernel, by decide +kernel⟩
theorem mv_X3_hasPerson : MV yX3_hasPerson cX3_hasPerson 2 (some .boolean) 1 := ⟨wd_506, wd_507, wd_64, wd_508, by decide +kernel, by decide +kernel, by decide +kernel⟩
theorem mv_X3_everybody : MV yX3_everybody cX3_everybody 1 (some .int) 0 := ⟨wd_429, wd_430, wd_64, wd_431, by decide +kernel, by decide +kernel, by decide +kernel⟩
theorem mv_X3_hasPeople : MV yX3_hasPeople cX3_hasPeople 2 (some .boolean) 1 := ⟨wd_630, wd_631, wd_64, wd_632, by decide +kernel, by decide +kernel, by decide +kernel⟩
theorem mv_X3_hasFact : MV yX3_hasFact cX3_hasFact 2 (some .boolean) 1 := ⟨wd_492, wd_493, wd_64, wd_494, by decide +kernel, by decide +kernel, by decide +kernel⟩
theorem mv_X3_hasFactOrNone : MV yX3_hasFactOrNone cX3_hasFactOrNone 2 (some .boolean) 1 := ⟨wd_635, wd_636, wd_64, wd_637, by decide +kernel, by decide +kernel, by decide +kernel⟩
theorem mv_X3_hasBridge : MV yX3_hasBridge cX3_hasBridge 2 (some .boolean) 1 := ⟨wd_543, wd_544, wd_64, wd_545, by decide +kernel, by decide +kernel, by decide +kernel⟩
theorem mv_X3_addFact : MV yX3_addFact cX3_addFact 4 none 3 := ⟨wd_421, wd_422, wd_64, wd_423, by decide +kernel, by decide +kernel, by decide +kernel⟩
theorem mv_X3_addFriendship : MV yX3_addFriendship cX3_addFriendship 3 none 2 := ⟨wd_437, wd_438, wd_64, wd_439, by decide +kernel, by decide +kernel, by decide +kernel⟩
theorem mv_X3_waysOut : MV yX3_waysOut cX3_waysOut 9 (some .int) 1 := ⟨wd_720, wd_721, wd_64, wd_722, by decide +kernel, by decide +kernel, by decide +kernel⟩
theorem mv_X4_add : MV yX4_add cX4_add 2 (some .int) 1 := ⟨wd_361, wd_362, wd_63, wd_363, by decide +kernel, by decide +kernel, by decide +kernel⟩
theorem mv_X4_blame : MV yX4_blame cX4_blame 3 none 2 := ⟨wd_398, wd_4, wd_63, wd_399, by decide +kernel, by decide +kernel, by decide +kernel⟩
theorem mv_X4_faultOfWord : MV yX4_faultOfWord cX4_faultOfWord 3 (some .int) 2 := ⟨wd_394, wd_3, wd_63, wd_395, by decide +kernel, by decide +kernel, by decide +kernel⟩
theorem mv_X4_letterHere : MV yX4_letterHere cX4_letterHere 1 (some .int) 0 := ⟨wd_386, wd_1, wd_63, wd_387, by decide +kernel, by decide +kernel, by decide +kernel⟩
theorem mv_X4_isFigureHere : MV yX4_isFigureHere cX4_isFigureHere 1 (some .boolean) 0 := ⟨wd_410, wd_7, wd_63, wd_411, by decide +kernel, by decide +kernel, by decide +kernel⟩
theorem mv_X4_skipBlanks : MV yX4_skipBlanks cX4_skipBlanks 1 none 0 := ⟨wd_382, wd_0, wd_63, wd_383, by decide +kernel, by decide +kernel, by decide +kernel⟩
theorem mv_X4_readNumber : MV yX4_readNumber cX4_readNumber 4 (some .int) 2 := ⟨wd_406, wd_6, wd_63, wd_407, by decide +kernel, by decide +kernel, by decide +kernel⟩
theorem mv_X4_readBridge : MV yX4_readBridge cX4_readBridge 3 none 1 := ⟨wd_450, wd_13, wd_63, wd_451, by decide +kernel, by decide +kernel, by decide +kernel⟩
theorem mv_X4_readEnd : MV yX4_readEnd cX4_readEnd 1 none 0 := ⟨wd_458, wd_15, wd_63, wd_459, by decide +kernel, by decide +kernel, by decide +kernel⟩
theorem mv_X4_readPerson : MV yX4_readPerson cX4_readPerson 2 (some .int) 1 := ⟨wd_418, wd_9, wd_63, wd_419, by decide +kernel, by decide +kernel, by decide +kernel⟩
theorem mv_X4_readFact : MV yX4_readFact cX4_readFact 5 none 1 := ⟨wd_414, wd_8, wd_63, wd_415, by decide +kernel, by decide +kernel, by decide +kernel⟩
theorem mv_X4_readFriendship : MV yX4_readFriendship cX4_readFriendship 4 none 1 := ⟨wd_434, wd_11, wd_63, wd_435, by decide +kernel, by decide +kernel, by decide +kernel⟩
theorem mv_X4_readKnowers : MV yX4_readKnowers cX4_readKnowers 4 none 1 := ⟨wd_426, wd_10, wd_63, wd_427, by decide +kernel, by decide +kernel, by decide +kernel⟩
theorem mv_X4_readMemory : MV yX4_readMemory cX4_readMemory 3 none 1 := ⟨wd_454, wd_14, wd_63, wd_455, by decide +kernel, by decide +kernel, by decide +kernel⟩
theorem mv_X4_readPeople : MV yX4_readPeople cX4_readPeople 3 none 1 := ⟨wd_402, wd_5, wd_63, wd_403, by decide +kernel, by decide +kernel, by decide +kernel⟩
theorem mv_X4_readQuiet : MV yX4_readQuiet cX4_readQuiet 3 none 1 := ⟨wd_442, wd_12, wd_63, wd_443, by decide +kernel, by decide +kernel, by decide +kernel⟩
theorem mv_X4_readClause : MV yX4_readClause cX4_readClause 4 none 1 := ⟨wd_390, wd_2, wd_63, wd_391, by decide +kernel, by decide +kernel, by decide +kernel⟩
theorem mv_X4_readInto : MV yX4_readInto cX4_readInto 3 (some .int) 1 := ⟨wd_370, wd_371, wd_63, wd_372, by decide +kernel, by decide +kernel, by decide +kernel⟩
theorem mv_X5_gramsAHead : MS yX5_gramsAHead cX5_gramsAHead 4 (some .int) 2 := ⟨wd_741, wd_70, wd_742, by decide +kernel, by decide +kernel, by decide +kernel⟩
theorem mv_X5_findParts : MS yX5_findParts cX5_findParts 5 none 3 := ⟨wd_737, wd_70, wd_738, by decide +kernel, by decide +kernel, by decide +kernel⟩
theorem mv_X5_agree : MV yX5_agree cX5_agree 5 (some .int) 3 := ⟨wd_733, wd_734, wd_70, wd_735, by decide +kernel, by decide +kernel, by decide +kernel⟩
theorem mv_X6_add : MV yX6_add cX6_add 3 (some .int) 2 := ⟨wd_778, wd_779, wd_66, wd_780, by decide +kernel, by decide +kernel, by decide +kernel⟩
theorem mv_X6_firstWrong : MV yX6_firstWrong cX6_firstWrong 4 (some .int) 2 := ⟨wd_791, wd_792, wd_66, wd_793, by decide +kernel, by decide +kernel, by decide +kernel⟩
theorem mv_X7_addFact : MV yX7_addFact cX7_addFact 6 none 2 := ⟨wd_683, wd_23, wd_68, wd_684, by decide +kernel, by decide +kernel, by decide +kernel⟩
theorem mv_X7_spread : MV yX7_spread cX7_spread 5 none 2 := ⟨wd_676, wd_677, wd_68, wd_678, by decide +kernel, by decide +kernel, by decide +kernel⟩
theorem mv_X7_countAt : MV yX7_countAt cX7_countAt 3 (some .int) 1 := ⟨wd_689, wd_690, wd_68, wd_691, by decide +kernel, by decide +kernel, by decide +kernel⟩
theorem mv_X7_fewestHeads : MV yX7_fewestHeads cX7_fewestHeads 5 (some .int) 3 := ⟨wd_693, wd_694, wd_68, wd_695, by decide +kernel, by decide +kernel, by decide +kernel⟩
theorem mv_X7_mostHeads : MV yX7_mostHeads cX7_mostHeads 5 (some .int) 3 := ⟨wd_703, wd_704, wd_68, wd_705, by decide +kernel, by decide +kernel, by decide +kernel⟩
theorem mv_X8_feed : MV yX8_feed cX8_feed 2 (some .int) 1 := ⟨wd_356, wd_357, wd_62, wd_358, by decide +kernel, by decide +kernel, by decide +kernel⟩
theorem mv_X8_land : MV yX8_land cX8_land 3 (some .int) 0 := ⟨wd_366, wd_367, wd_62, wd_368, by decide +kernel, by decide +kernel, by decide +kernel⟩
theorem mv_X8_fault : MV yX8_fault cX8_fault 1 (some .int) 0 := ⟨wd_466, wd_467, wd_62, wd_468, by decide +kernel, by decide +kernel, by decide +kernel⟩
theorem mv_X8_told : MV yX8_told cX8_told 2 (some .int) 1 := ⟨wd_470, wd_471, wd_62, wd_472, by decide +kernel, by decide +kernel, by decide +kernel⟩
theorem mv_X8_fact : MV yX8_fact cX8_fact 3 (some .int) 2 := ⟨wd_488, wd_489, wd_62, wd_490, by decide +kernel, by decide +kernel, by decide +kernel⟩
theorem mv_X8_person : MV yX8_person cX8_person 3 (some .int) 2 := ⟨wd_502, wd_503, wd_62, wd_504, by decide +kernel, by decide +kernel, by decide +kernel⟩
theorem mv_X8_since : MV yX8_since cX8_since 3 (some .int) 2 := ⟨wd_515, wd_516, wd_62, wd_517, by decide +kernel, by decide +kernel, by decide +kernel⟩
theorem mv_X8_weight : MV yX8_weight cX8_weight 2 (some .int) 1 := ⟨wd_527, wd_528, wd_62, wd_529, by decide +kernel, by decide +kernel, by decide +kernel⟩
theorem mv_X8_bridge : MV yX8_bridge cX8_bridge 2 (some .int) 1 := ⟨wd_539, wd_540, wd_62, wd_541, by decide +kernel, by decide +kernel, by decide +kernel⟩
theorem mv_X8_tell : MV yX8_tell cX8_tell 3 (some .int) 2 := ⟨wd_547, wd_548, wd_62, wd_549, by decide +kernel, by decide +kernel, by decide +kernel⟩
theorem mv_X8_forget : MV yX8_forget cX8_forget 3 (some .int) 2 := ⟨wd_556, wd_557, wd_62, wd_558, by decide +kernel, by decide +kernel, by decide +kernel⟩
theorem mv_X8_refusalOfHours : MV yX8_refusalOfHours cX8_refusalOfHours 2 (some .int) 1 := ⟨wd_569, wd_16, wd_62, wd_570, by decide +kernel, by decide +kernel, by decide +kernel⟩
theorem mv_X8_hour : MV yX8_hour cX8_hour 4 (some .int) 1 := ⟨wd_564, wd_565, wd_62, wd_566, by decide +kernel, by decide +kernel, by decide +kernel⟩
theorem mv_X8_drift : MV yX8_drift cX8_drift 4 (some .int) 1 := ⟨wd_595, wd_596, wd_62, wd_597, by decide +kernel, by decide +kernel, by decide +kernel⟩
theorem mv_X8_heavy : MV yX8_heavy cX8_heavy 4 (some .int) 2 := ⟨wd_611, wd_612, wd_62, wd_613, by decide +kernel, by decide +kernel, by decide +kernel⟩
theorem mv_X8_when : MV yX8_when cX8_when 4 (some .int) 2 := ⟨wd_622, wd_623, wd_62, wd_624, by decide +kernel, by decide +kernel, by decide +kernel⟩
theorem mv_X8_timesToForget : MS yX8_timesToForget cX8_timesToForget 4 (some .int) 3 := ⟨wd_645, wd_62, wd_646, by decide +kernel, by decide +kernel, by decide +kernel⟩
theorem mv_X8_least : MV yX8_least cX8_least 10 (some .int) 3 := ⟨wd_626, wd_627, wd_62, wd_628, by decide +kernel, by decide +kernel, by decide +kernel⟩
theorem mv_X8_trips : MV yX8_trips cX8_trips 4 (some .int) 3 := ⟨wd_648, wd_649, wd_62, wd_650, by decide +kernel, by decide +kernel, by decide +kernel⟩
theorem mv_X8_canWeigh : MS yX8_canWeigh cX8_canWeigh 1 (some .boolean) 1 := ⟨wd_673, wd_62, wd_674, by decide +kernel, by decide +kernel, by decide +kernel⟩
theorem mv_X8_counted : MV yX8_counted cX8_counted 5 (some .int) 4 := ⟨wd_669, wd_670, wd_62, wd_671, by decide +kernel, by decide +kernel, by decide +kernel⟩
theorem mv_X8_lies : MV yX8_lies cX8_lies 10 (some .int) 3 := ⟨wd_707, wd_708, wd_62, wd_709, by decide +kernel, by decide +kernel, by decide +kernel⟩
theorem mv_X8_fewestToBreak : MV yX8_fewestToBreak cX8_fewestToBreak 7 (some .int) 2 := ⟨wd_717, wd_24, wd_62, wd_718, by decide +kernel, by decide +kernel, by decide +kernel⟩
theorem mv_X8_apart : MV yX8_apart cX8_apart 5 (some .int) 3 := ⟨wd_712, wd_713, wd_62, wd_714, by decide +kernel, by decide +kernel, by decide +kernel⟩
theorem mv_X8_factsToForget : MV yX8_factsToForget cX8_factsToForget 3 (some .int) 2 := ⟨wd_730, wd_25, wd_62, wd_731, by decide +kernel, by decide +kernel, by decide +kernel⟩
theorem mv_X8_treaty : MV yX8_treaty cX8_treaty 5 (some .int) 3 := ⟨wd_725, wd_726, wd_62, wd_727, by decide +kernel, by decide +kernel, by decide +kernel⟩
theorem mv_X8_odds : MV yX8_odds cX8_odds 4 (some .int) 3 := ⟨wd_744, wd_745, wd_62, wd_746, by decide +kernel, by decide +kernel, by decide +kernel⟩
theorem mv_X8_write : MV yX8_write cX8_write 3 (some .int) 2 := ⟨wd_774, wd_775, wd_62, wd_776, by decide +kernel, by decide +kernel, by decide +kernel⟩
theorem mv_X8_tear : MV yX8_tear cX8_tear 2 (some .int) 0 := ⟨wd_783, wd_784, wd_62, wd_785, by decide +kernel, by decide +kernel, by decide +kernel⟩
theorem mv_X8_judge : MV yX8_judge cX8_judge 1 (some .int) 0 := ⟨wd_787, wd_788, wd_62, wd_789, by decide +kernel, by decide +kernel, by decide +kernel⟩
theorem mv_X8_seed : MV yX8_seed cX8_seed 3 (some .int) 1 := ⟨wd_796, wd_797, wd_62, wd_798, by decide +kernel, by decide +kernel, by decide +kernel⟩
theorem mv_X8_keep : MV yX8_keep cX8_keep 2 (some .int) 1 := ⟨wd_800, wd_801, wd_62, wd_802, by decide +kernel, by decide +kernel, by decide +kernel⟩
theorem mv_X8_goBack : MV yX8_goBack cX8_goBack 2 (some .int) 1 := ⟨wd_804, wd_805, wd_62, wd_806, by decide +kernel, by decide +kernel, by decide +kernel⟩
theorem mv_X9_in : MS yX9_in cX9_in 3 (some .boolean) 3 := ⟨wd_939, wd_71, wd_940, by decide +kernel, by decide +kernel, by decide +kernel⟩
theorem mv_X9_has : MS yX9_has cX9_has 2 (some .boolean) 2 := ⟨wd_988, wd_71, wd_989, by decide +kernel, by decide +kernel, by decide +kernel⟩
theorem mv_X9_begin : MV yX9_begin cX9_begin 2 none 0 := ⟨wd_815, wd_28, wd_71, wd_816, by decide +kernel, by decide +kernel, by decide +kernel⟩
theorem mv_X9_isOne : MV yX9_isOne cX9_isOne 2 (some .boolean) 1 := ⟨wd_1036, wd_45, wd_71, wd_1037, by decide +kernel, by decide +kernel, by decide +kernel⟩
theorem mv_X9_isFact : MV yX9_isFact cX9_isFact 2 (some .boolean) 1 := ⟨wd_1023, wd_43, wd_71, wd_1024, by decide +kernel, by decide +kernel, by decide +kernel⟩
theorem mv_X9_isBridge : MV yX9_isBridge cX9_isBridge 2 (some .boolean) 1 := ⟨wd_1068, wd_50, wd_71, wd_1069, by decide +kernel, by decide +kernel, by decide +kernel⟩
theorem mv_X9_isSet : MV yX9_isSet cX9_isSet 2 (some .boolean) 1 := ⟨wd_1125, wd_55, wd_71, wd_1126, by decide +kernel, by decide +kernel, by decide +kernel⟩
theorem mv_X9_feed : MV yX9_feed cX9_feed 2 (some .int) 1 := ⟨wd_935, wd_936, wd_71, wd_937, by decide +kernel, by decide +kernel, by decide +kernel⟩
theorem mv_X9_nextToken : MV yX9_nextToken cX9_nextToken 1 none 0 := ⟨wd_953, wd_30, wd_71, wd_954, by decide +kernel, by decide +kernel, by decide +kernel⟩
theorem mv_X9_fails : MV yX9_fails cX9_fails 2 (some .boolean) 1 := ⟨wd_961, wd_32, wd_71, wd_962, by decide +kernel, by decide +kernel, by decide +kernel⟩
theorem mv_X9_isNumber : MV yX9_isNumber cX9_isNumber 3 (some .boolean) 2 := ⟨wd_965, wd_33, wd_71, wd_966, by decide +kernel, by decide +kernel, by decide +kernel⟩
theorem mv_X9_isEnd : MV yX9_isEnd cX9_isEnd 1 (some .boolean) 0 := ⟨wd_969, wd_34, wd_71, wd_970, by decide +kernel, by decide +kernel, by decide +kernel⟩
theorem mv_X9_isPeopleLine : MV yX9_isPeopleLine cX9_isPeopleLine 1 (some .boolean) 0 := ⟨wd_957, wd_31, wd_71, wd_958, by decide +kernel, by decide +kernel, by decide +kernel⟩
theorem mv_X9_isFactLine : MV yX9_isFactLine cX9_isFactLine 3 (some .boolean) 0 := ⟨wd_973, wd_35, wd_71, wd_974, by decide +kernel, by decide +kernel, by decide +kernel⟩
theorem mv_X9_isKnownLine : MV yX9_isKnownLine cX9_isKnownLine 2 (some .boolean) 0 := ⟨wd_977, wd_36, wd_71, wd_978, by decide +kernel, by decide +kernel, by decide +kernel⟩
theorem mv_X9_isPairLine : MV yX9_isPairLine cX9_isPairLine 6 (some .boolean) 0 := ⟨wd_981, wd_37, wd_71, wd_982, by decide +kernel, by decide +kernel, by decide +kernel⟩
theorem mv_X9_isQuietLine : MV yX9_isQuietLine cX9_isQuietLine 1 (some .boolean) 0 := ⟨wd_985, wd_38, wd_71, wd_986, by decide +kernel, by decide +kernel, by decide +kernel⟩
theorem mv_X9_isBridgeLine : MV yX9_isBridgeLine cX9_isBridgeLine 1 (some .boolean) 0 := ⟨wd_992, wd_39, wd_71, wd_993, by decide +kernel, by decide +kernel, by decide +kernel⟩
theorem mv_X9_isHoursLine : MV yX9_isHoursLine cX9_isHoursLine 1 (some .boolean) 0 := ⟨wd_996, wd_40, wd_71, wd_997, by decide +kernel, by decide +kernel, by decide +kernel⟩
theorem mv_X9_isRead : MV yX9_isRead cX9_isRead 2 (some .boolean) 0 := ⟨wd_949, wd_29, wd_71, wd_950, by decide +kernel, by decide +kernel, by decide +kernel⟩
theorem mv_X9_land : MV yX9_land cX9_land 4 (some .int) 0 := ⟨wd_944, wd_945, wd_71, wd_946, by decide +kernel, by decide +kernel, by decide +kernel⟩
theorem mv_X9_fault : MV yX9_fault cX9_fault 1 (some .int) 0 := ⟨wd_999, wd_1000, wd_71, wd_1001, by decide +kernel, by decide +kernel, by decide +kernel⟩
theorem mv_X9_personOf : MV yX9_personOf cX9_personOf 2 (some .int) 1 := ⟨wd_1012, wd_42, wd_71, wd_1013, by decide +kernel, by decide +kernel, by decide +kernel⟩
theorem mv_X9_gramsOf : MV yX9_gramsOf cX9_gramsOf 2 (some .int) 1 := ⟨wd_1056, wd_48, wd_71, wd_1057, by decide +kernel, by decide +kernel, by decide +kernel⟩
theorem mv_X9_isLie : MV yX9_isLie cX9_isLie 2 (some .boolean) 1 := ⟨wd_1060, wd_49, wd_71, wd_1061, by decide +kernel, by decide +kernel, by decide +kernel⟩
theorem mv_X9_knows : MS yX9_knows cX9_knows 3 (some .boolean) 3 := ⟨wd_1015, wd_71, wd_1016, by decide +kernel, by decide +kernel, by decide +kernel⟩
theorem mv_X9_knowersOf : MV yX9_knowersOf cX9_knowersOf 5 (some .int) 2 := ⟨wd_1028, wd_44, wd_71, wd_1029, by decide +kernel, by decide +kernel, by decide +kernel⟩
theorem mv_X9_headsOf : MV yX9_headsOf cX9_headsOf 5 (some .int) 2 := ⟨wd_1008, wd_41, wd_71, wd_1009, by decide +kernel, by decide +kernel, by decide +kernel⟩
theorem mv_X9_weightOf : MV yX9_weightOf cX9_weightOf 6 (some .int) 2 := ⟨wd_1052, wd_47, wd_71, wd_1053, by decide +kernel, by decide +kernel, by decide +kernel⟩
theorem mv_X9_friendsOf : MV yX9_friendsOf cX9_friendsOf 4 (some .int) 1 := ⟨wd_1040, wd_46, wd_71, wd_1041, by decide +kernel, by decide +kernel, by decide +kernel⟩
theorem mv_X9_copy : MS yX9_copy cX9_copy 5 none 4 := ⟨wd_1089, wd_71, wd_1090, by decide +kernel, by decide +kernel, by decide +kernel⟩
theorem mv_X9_tells : MV yX9_tells cX9_tells 6 none 1 := ⟨wd_1097, wd_53, wd_71, wd_1098, by decide +kernel, by decide +kernel, by decide +kernel⟩
theorem mv_X9_pass : MV yX9_pass cX9_pass 2 none 0 := ⟨wd_1093, wd_52, wd_71, wd_1094, by decide +kernel, by decide +kernel, by decide +kernel⟩
theorem mv_X9_told : MV yX9_told cX9_told 4 (some .int) 1 := ⟨wd_1003, wd_1004, wd_71, wd_1005, by decide +kernel, by decide +kernel, by decide +kernel⟩
theorem mv_X9_fact : MV yX9_fact cX9_fact 3 (some .int) 2 := ⟨wd_1018, wd_1019, wd_71, wd_1020, by decide +kernel, by decide +kernel, by decide +kernel⟩
theorem mv_X9_person : MV yX9_person cX9_person 6 (some .int) 2 := ⟨wd_1031, wd_1032, wd_71, wd_1033, by decide +kernel, by decide +kernel, by decide +kernel⟩
theorem mv_X9_since : MV yX9_since cX9_since 3 (some .int) 2 := ⟨wd_1043, wd_1044, wd_71, wd_1045, by decide +kernel, by decide +kernel, by decide +kernel⟩
theorem mv_X9_weight : MV yX9_weight cX9_weight 2 (some .int) 1 := ⟨wd_1047, wd_1048, wd_71, wd_1049, by decide +kernel, by decide +kernel, by decide +kernel⟩
theorem mv_X9_bridge : MV yX9_bridge cX9_bridge 2 (some .int) 1 := ⟨wd_1063, wd_1064, wd_71, wd_1065, by decide +kernel, by decide +kernel, by decide +kernel⟩
theorem mv_X9_tell : MV yX9_tell cX9_tell 3 (some .int) 2 := ⟨wd_1071, wd_1072, wd_71, wd_1073, by decide +kernel, by decide +kernel, by decide +kernel⟩
theorem mv_X9_forget : MV yX9_forget cX9_forget 3 (some .int) 2 := ⟨wd_1076, wd_1077, wd_71, wd_1078, by decide +kernel, by decide +kernel, by decide +kernel⟩
theorem mv_X9_barred : MV yX9_barred cX9_barred 2 (some .int) 1 := ⟨wd_1085, wd_51, wd_71, wd_1086, by decide +kernel, by decide +kernel, by decide +kernel⟩
theorem mv_X9_hour : MV yX9_hour cX9_hour 4 (some .int) 1 := ⟨wd_1080, wd_1081, wd_71, wd_1082, by decide +kernel, by decide +kernel, by decide +kernel⟩
theorem mv_X9_draw : MV yX9_draw cX9_draw 2 (some .int) 1 := ⟨wd_1105, wd_54, wd_71, wd_1106, by decide +kernel, by decide +kernel, by decide +kernel⟩
theorem mv_X9_drift : MV yX9_drift cX9_drift 6 (some .int) 1 := ⟨wd_1100, wd_1101, wd_71, wd_1102, by decide +kernel, by decide +kernel, by decide +kernel⟩
theorem mv_X9_heavy : MV yX9_heavy cX9_heavy 4 (some .int) 2 := ⟨wd_1112, wd_1113, wd_71, wd_1114, by decide +kernel, by decide +kernel, by decide +kernel⟩
theorem mv_X9_when : MV yX9_when cX9_when 4 (some .int) 2 := ⟨wd_1116, wd_1117, wd_71, wd_1118, by decide +kernel, by decide +kernel, by decide +kernel⟩
theorem mv_X9_least : MV yX9_least cX9_least 10 (some .int) 3 := ⟨wd_1120, wd_1121, wd_71, wd_1122, by decide +kernel, by decide +kernel, by decide +kernel⟩
theorem mv_X9_togetherOf : MV yX9_togetherOf cX9_togetherOf 4 (some .int) 1 := ⟨wd_1133, wd_56, wd_71, wd_1134, by decide +kernel, by decide +kernel, by decide +kernel⟩
theorem mv_X9_trips : MV yX9_trips cX9_trips 10 (some .int) 3 := ⟨wd_1128, wd_1129, wd_71, wd_1130, by decide +kernel, by decide +kernel, by decide +kernel⟩
theorem mv_X9_layWays : MV yX9_layWays cX9_layWays 8 none 3 := ⟨wd_1141, wd_57, wd_71, wd_1142, by decide +kernel, by decide +kernel, by decide +kernel⟩
theorem mv_X9_waysTo : MV yX9_waysTo cX9_waysTo 2 (some .long) 1 := ⟨wd_1145, wd_58, wd_71, wd_1146, by decide +kernel, by decide +kernel, by decide +kernel⟩
theorem mv_X9_counted : MV yX9_counted cX9_counted 8 (some .int) 4 := ⟨wd_1136, wd_1137, wd_71, wd_1138, by decide +kernel, by decide +kernel, by decide +kernel⟩
theorem mv_X9_lies : MV yX9_lies cX9_lies 12 (some .int) 3 := ⟨wd_1148, wd_1149, wd_71, wd_1150, by decide +kernel, by decide +kernel, by decide +kernel⟩
theorem mv_X9_canCome : MV yX9_canCome cX9_canCome 11 (some .boolean) 3 := ⟨wd_1160, wd_59, wd_71, wd_1161, by decide +kernel, by decide +kernel, by decide +kernel⟩
theorem mv_X9_bits : MS yX9_bits cX9_bits 3 (some .int) 1 := ⟨wd_1156, wd_71, wd_1157, by decide +kernel, by decide +kernel, by decide +kernel⟩
theorem mv_X9_apart : MV yX9_apart cX9_apart 6 (some .int) 3 := ⟨wd_1152, wd_1153, wd_71, wd_1154, by decide +kernel, by decide +kernel, by decide +kernel⟩
theorem mv_X9_forgotten : MV yX9_forgotten cX9_forgotten 10 (some .int) 3 := ⟨wd_1168, wd_60, wd_71, wd_1169, by decide +kernel, by decide +kernel, by decide +kernel⟩
theorem mv_X9_treaty : MV yX9_treaty cX9_treaty 5 (some .int) 3 := ⟨wd_1163, wd_1164, wd_71, wd_1165, by decide +kernel, by decide +kernel, by decide +kernel⟩
theorem mv_X9_odds : MV yX9_odds cX9_odds 10 (some .int) 3 := ⟨wd_1171, wd_1172, wd_71, wd_1173, by decide +kernel, by decide +kernel, by decide +kernel⟩
theorem mv_X9_write : MV yX9_write cX9_write 3 (some .int) 2 := ⟨wd_1177, wd_1178, wd_71, wd_1179, by decide +kernel, by decide +kernel, by decide +kernel⟩
theorem mv_X9_tear : MV yX9_tear cX9_tear 2 (some .int) 0 := ⟨wd_1181, wd_1182, wd_71, wd_1183, by decide +kernel, by decide +kernel, by decide +kernel⟩
theorem mv_X9_judge : MV yX9_judge cX9_judge 2 (some .int) 0 := ⟨wd_1185, wd_1186, wd_71, wd_1187, by decide +kernel, by decide +kernel, by decide +kernel⟩
theorem mv_X9_seed : MV yX9_seed cX9_seed 3 (some .int) 1 := ⟨wd_1189, wd_1190, wd_71, wd_1191, by decide +kernel, by decide +kernel, by decide +kernel⟩
theorem mv_X9_keep : MV yX9_keep cX9_keep 2 (some .int) 1 := ⟨wd_1193, wd_1194, wd_71, wd_1195, by decide +kernel, by decide +kernel, by decide +kernel⟩
theorem mv_X9_goBack : MV yX9_goBack cX9_goBack 2 (some .int) 1 := ⟨wd_1197, wd_1198, wd_71, wd_1199, by decide +kernel, by decide +kernel, by decide +kernel⟩
end
section
def zmax (a b : Int) : Int := if a < b then b else a
theorem v_mmax {G : GT} {X : CX} {Th : TH} {pc : Nat} {lv : List (Nat × Value)} {st : List Value} {cc : ByteArray} {nL : Nat} {own : String} {rm : Room} {l0 : Launch} (C : CT G l0 X cc nL own rm) {a b : Int} (ha : zR a) (hb3 : zR b) {index : Nat} (hw : Cond.methodLink own index Lib.Math.max.name ∈ lw_g) (w1 : Cond.static Lib.Math.max.name ∈ lw_g) (w2 : Cond.initialized "java/lang/Math" ∈ lw_g) (w3 : Cond.code Lib.Math.max.name Lib.Math.max.code 2 (some .int) ∈ lw_g) (hfr : 1 ≤ rm.frames) (hlo : (st.map fun v => v.category).sum + 13 ≤ rm.locals) (hd : decode cc pc = .ok (.invokestatic index, 3)) (k : V G X Th (pc + 3) lv (.int (zI (zmax a b)) :: st)) : V G X Th pc lv (.int (zI b) :: .int (zI a) :: st) := by
  obtain ⟨p, l, e, R, s, m, args, below, meth, c, nc, ns, Q⟩ := X
  obtain ⟨hx, hb, hml, hown, hts, hK, hR, hcc, hss, -⟩ := C
  intro H locs ls h1 h2 h3 h4 h5
  subst hR
  have k := k H locs ls h1 h2 h3 h4 h5
  have e9 : zI (zmax a b) = if zI a < zI b then zI b else zI a := by
    unfold zmax
    by_cases h : a < b
    · rw [if_pos h, if_pos ((zI_lt ha hb3).mpr h)]
    · rw [if_neg h, if_neg (fun q => h ((zI_lt ha hb3).mp q))]
  rw [e9] at k
  exact va_mmax hx hb h5.1.symm hown (hts _ hw) (hts _ w1) (hts _ w2) (hts _ w3) hfr hlo hcc hss hd k
def zmin (a b : Int) : Int := if b < a then b else a
theorem v_mmin {G : GT} {X : CX} {Th : TH} {pc : Nat} {lv : List (Nat × Value)} {st : List Value} {cc : ByteArray} {nL : Nat} {own : String} {rm : Room} {l0 : Launch} (C : CT G l0 X cc nL own rm) {a b : Int} (ha : zR a) (hb3 : zR b) {index : Nat} (hw : Cond.methodLink own index Lib.Math.min.name ∈ lw_g) (w1 : Cond.static Lib.Math.min.name ∈ lw_g) (w2 : Cond.initialized "java/lang/Math" ∈ lw_g) (w3 : Cond.code Lib.Math.min.name Lib.Math.min.code 2 (some .int) ∈ lw_g) (hfr : 1 ≤ rm.frames) (hlo : (st.map fun v => v.category).sum + 13 ≤ rm.locals) (hd : decode cc pc = .ok (.invokestatic index, 3)) (k : V G X Th (pc + 3) lv (.int (zI (zmin a b)) :: st)) : V G X Th pc lv (.int (zI b) :: .int (zI a) :: st) := by
  obtain ⟨p, l, e, R, s, m, args, below, meth, c, nc, ns, Q⟩ := X
  obtain ⟨hx, hb, hml, hown, hts, hK, hR, hcc, hss, -⟩ := C
  intro H locs ls h1 h2 h3 h4 h5
  subst hR
  have k := k H locs ls h1 h2 h3 h4 h5
  have e9 : zI (zmin a b) = if zI b < zI a then zI b else zI a := by
    unfold zmin
    by_cases h : b < a
    · rw [if_pos h, if_pos ((zI_lt hb3 ha).mpr h)]
    · rw [if_neg h, if_neg (fun q => h ((zI_lt hb3 ha).mp q))]
  rw [e9] at k
  exact va_mmin hx hb h5.1.symm hown (hts _ hw) (hts _ w1) (hts _ w2) (hts _ w3) hfr hlo hcc hss hd k
def h_J7_fill_53178_5 (a0 b0 n0 : Nat) (v1 : Int) (Q : TH → Prop) : Nat → Int → Int → TH → Prop
  | 0, _, _, _ => False
  | n + 1, v2, v3, T => zR v2 ∧ zR v3 ∧ (v3 ≤ v2 → (Q T)) ∧ (¬ (v3 ≤ v2) → (0 ≤ v2 ∧ v2 < n0 ∧ ∀ T1 : TH, T1 = up T a0 b0 v2 v1 → (h_J7_fill_53178_5 a0 b0 n0 v1 Q n) (v2 + 1) v3 T1))
def wp_J7_fill_53178 (a0 b0 n0 : Nat) (v1 : Int) (T : TH) (Q : TH → Prop) : Prop :=
  ∀ w1 : Int, w1 = (n0 : Int) → (∃ n : Nat, h_J7_fill_53178_5 a0 b0 n0 v1 Q n 0 w1 T)
set_option maxRecDepth 100000 in
theorem t_J7_fill_53178_5 {G : GT} {l0 : Launch} {X : CX} (C : CT G l0 X cJ7_fill_53178 4 RJ7 (rM 0 0)) {Q : TH → Prop} (E : EN G X none (QV G Q)) {a0 b0 n0 : Nat} {v1 : Int} (ha0 : arT (clsO a0) b0 = some (0, n0)) : ∀ (n : Nat) (v2 : Int) (v3 : Int) (T : TH), h_J7_fill_53178_5 a0 b0 n0 v1 Q n v2 v3 T → V G X T 5 [(0, .ref (gaa G a0 b0)), (1, .int (zI v1)), (2, .int (zI v2)), (3, .int (zI v3))] [] := by
  intro n
  induction n with
  | zero =>
    intro v2 v3 T h
    exact h.elim
  | succ n ih =>
    intro v2 v3 T h
    rw [h_J7_fill_53178_5] at h
    refine v_iload_n C 2 dJ7_fill_53178_5 rfl ?_
    refine v_iload_n C 3 dJ7_fill_53178_6 rfl ?_
    obtain ⟨e1, e2, e3, e4⟩ := h
    refine v_icmp_ge (tgt := 20) C dJ7_fill_53178_7 (by decide) e1 e2 (fun e5 => ?_) (fun e5 => ?_)
    · have h := e3 e5
      exact v_vret C E dJ7_fill_53178_20 h
    · have h := e4 e5
      refine v_aload_n C 0 dJ7_fill_53178_10 rfl ?_
      refine v_iload_n C 2 dJ7_fill_53178_11 rfl ?_
      refine v_iload_n C 1 dJ7_fill_53178_12 rfl ?_
      obtain ⟨e6, e7, h⟩ := h
      refine v_iast C ha0 dJ7_fill_53178_13 e6 e7 ?_
      have h := h _ rfl
      refine v_iinc C 2 dJ7_fill_53178_14 rfl (by decide) ?_
      refine v_goto (tgt := 5) C dJ7_fill_53178_17 (by decide) ?_
      exact v_sub [1, 2, 0, 3] rfl (ih _ _ _ h)
set_option maxRecDepth 100000 in
theorem s_J7_fill_53178 (G : GT) (l0 : Launch) {a0 b0 n0 : Nat} {v1 : Int} {T : TH} {Q : TH → Prop} (ha0 : arT (clsO a0) b0 = some (0, n0)) (h : wp_J7_fill_53178 a0 b0 n0 v1 T Q) : MT G l0 yJ7_fill_53178 cJ7_fill_53178 4 none 0 0 [.ref (gaa G a0 b0), .int (zI v1)] T (QV G Q) := by
  refine mt_of G l0 (by decide) (Nat.le_of_ble_eq_true rfl) (fun X C E => ?_)
  show V G X T 0 [(0, .ref (gaa G a0 b0)), (1, .int (zI v1))] []
  unfold wp_J7_fill_53178 at h
  refine v_iconst C dJ7_fill_53178_0 ?_
  refine v_istore_n C dJ7_fill_53178_1 rfl (by decide) ?_
  refine v_aload_n C 1 dJ7_fill_53178_2 rfl ?_
  refine v_alen C ha0 (by decide) dJ7_fill_53178_3 ?_
  refine v_istore_n C dJ7_fill_53178_4 rfl (by decide) ?_
  have h := h _ rfl
  obtain ⟨n9, h⟩ := h
  exact v_sub [2, 3, 1, 0] rfl (t_J7_fill_53178_5 C E ha0 n9 _ _ _ h)
def wp_J6_bitCount_0f7a4 (v0 : Int) (T : TH) (Q : Int → TH → Prop) : Prop :=
  ∀ w1 : Int, w1 = (v0 - (zand (zushr v0 1) 1431655765)) → ∀ w2 : Int, w2 = ((zand w1 858993459) + (zand (zushr w1 2) 858993459)) → ∀ w3 : Int, w3 = (zand (w2 + (zushr w2 4)) 252645135) → ∀ w4 : Int, w4 = (w3 + (zushr w3 8)) → ∀ w5 : Int, w5 = (w4 + (zushr w4 16)) → Q (zand w5 63) T
set_option maxRecDepth 100000 in
theorem s_J6_bitCount_0f7a4 (G : GT) (l0 : Launch) {v0 : Int} {T : TH} {Q : Int → TH → Prop} (h : wp_J6_bitCount_0f7a4 v0 T Q) : MT G l0 yJ6_bitCount_0f7a4 cJ6_bitCount_0f7a4 1 (some .int) 0 0 [.int (zI v0)] T (QI G Q) := by
  refine mt_of G l0 (by decide) (Nat.le_of_ble_eq_true rfl) (fun X C E => ?_)
  show V G X T 0 [(0, .int (zI v0))] []
  unfold wp_J6_bitCount_0f7a4 at h
  refine v_iload_n C 0 dJ6_bitCount_0f7a4_0 rfl ?_
  refine v_iload_n C 0 dJ6_bitCount_0f7a4_1 rfl ?_
  refine v_iconst C dJ6_bitCount_0f7a4_2 ?_
  refine v_iushr C dJ6_bitCount_0f7a4_3 ?_
  refine v_ldcw (n := 1431655765) C dJ6_bitCount_0f7a4_4 wd_484 (by decide) ?_
  refine v_iand C dJ6_bitCount_0f7a4_7 ?_
  refine v_isub C dJ6_bitCount_0f7a4_8 ?_
  refine v_istore_n C dJ6_bitCount_0f7a4_9 rfl (by decide) ?_
  have h := h _ rfl
  refine v_iload_n C 0 dJ6_bitCount_0f7a4_10 rfl ?_
  refine v_ldcw (n := 858993459) C dJ6_bitCount_0f7a4_11 wd_485 (by decide) ?_
  refine v_iand C dJ6_bitCount_0f7a4_14 ?_
  refine v_iload_n C 0 dJ6_bitCount_0f7a4_15 rfl ?_
  refine v_iconst C dJ6_bitCount_0f7a4_16 ?_
  refine v_iushr C dJ6_bitCount_0f7a4_17 ?_
  refine v_ldcw (n := 858993459) C dJ6_bitCount_0f7a4_18 wd_485 (by decide) ?_
  refine v_iand C dJ6_bitCount_0f7a4_21 ?_
  refine v_iadd C dJ6_bitCount_0f7a4_22 ?_
  refine v_istore_n C dJ6_bitCount_0f7a4_23 rfl (by decide) ?_
  have h := h _ rfl
  refine v_iload_n C 0 dJ6_bitCount_0f7a4_24 rfl ?_
  refine v_iload_n C 0 dJ6_bitCount_0f7a4_25 rfl ?_
  refine v_iconst C dJ6_bitCount_0f7a4_26 ?_
  refine v_iushr C dJ6_bitCount_0f7a4_27 ?_
  refine v_iadd C dJ6_bitCount_0f7a4_28 ?_
  refine v_ldcw (n := 252645135) C dJ6_bitCount_0f7a4_29 wd_486 (by decide) ?_
  refine v_iand C dJ6_bitCount_0f7a4_32 ?_
  refine v_istore_n C dJ6_bitCount_0f7a4_33 rfl (by decide) ?_
  have h := h _ rfl
  refine v_iload_n C 0 dJ6_bitCount_0f7a4_34 rfl ?_
  refine v_iload_n C 0 dJ6_bitCount_0f7a4_35 rfl ?_
  refine v_bipush C dJ6_bitCount_0f7a4_36 (by decide) ?_
  refine v_iushr C dJ6_bitCount_0f7a4_38 ?_
  refine v_iadd C dJ6_bitCount_0f7a4_39 ?_
  refine v_istore_n C dJ6_bitCount_0f7a4_40 rfl (by decide) ?_
  have h := h _ rfl
  refine v_iload_n C 0 dJ6_bitCount_0f7a4_41 rfl ?_
  refine v_iload_n C 0 dJ6_bitCount_0f7a4_42 rfl ?_
  refine v_bipush C dJ6_bitCount_0f7a4_43 (by decide) ?_
  refine v_iushr C dJ6_bitCount_0f7a4_45 ?_
  refine v_iadd C dJ6_bitCount_0f7a4_46 ?_
  refine v_istore_n C dJ6_bitCount_0f7a4_47 rfl (by decide) ?_
  have h := h _ rfl
  refine v_iload_n C 0 dJ6_bitCount_0f7a4_48 rfl ?_
  refine v_bipush C dJ6_bitCount_0f7a4_49 (by decide) ?_
  refine v_iand C dJ6_bitCount_0f7a4_51 ?_
  exact v_iret C E dJ6_bitCount_0f7a4_52 h
end
