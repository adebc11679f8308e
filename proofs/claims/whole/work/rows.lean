section
-- ===== PART A: goes FIRST, ahead of the names: the tables' words, and 'selects' of the private methods out of them =====
/-- a private method of a class that the tables say can be made, by its rows of tables_1 -/
def lw_okq (q : MethodName × Nat) : Prop := (q.1.cls ≠ "java/lang/invoke/MethodHandle" ∧ q.1.cls ≠ "java/lang/invoke/VarHandle") ∧ Cond.instantiable q.1.cls q.2 ∈ tables_1 ∧ Cond.privateMethod q.1 ∈ tables_1 ∧ Cond.instanceMethod q.1 ∈ tables_1
theorem lw_p0 : lw_okq (⟨"WitnessBench$Sheet", "writeEntry", "(LWitnessBench$Table;LWitnessBench$Words;IZ)V"⟩, 2) := ⟨⟨by decide +kernel, by decide +kernel⟩, List.mem_of_getElem? (i := 150) (by decide +kernel), List.mem_of_getElem? (i := 306) (by decide +kernel), List.mem_of_getElem? (i := 307) (by decide +kernel)⟩
theorem lw_p1 : lw_okq (⟨"WitnessBench$Sheet", "putNumber", "(I)V"⟩, 2) := ⟨⟨by decide +kernel, by decide +kernel⟩, List.mem_of_getElem? (i := 150) (by decide +kernel), List.mem_of_getElem? (i := 310) (by decide +kernel), List.mem_of_getElem? (i := 311) (by decide +kernel)⟩
theorem lw_p2 : lw_okq (⟨"WitnessBench$Sheet", "put", "(C)V"⟩, 2) := ⟨⟨by decide +kernel, by decide +kernel⟩, List.mem_of_getElem? (i := 150) (by decide +kernel), List.mem_of_getElem? (i := 314) (by decide +kernel), List.mem_of_getElem? (i := 315) (by decide +kernel)⟩
theorem lw_p3 : lw_okq (⟨"WitnessBench$Sheet", "putReading", "(LWitnessBench$Words;I)V"⟩, 2) := ⟨⟨by decide +kernel, by decide +kernel⟩, List.mem_of_getElem? (i := 150) (by decide +kernel), List.mem_of_getElem? (i := 318) (by decide +kernel), List.mem_of_getElem? (i := 319) (by decide +kernel)⟩
theorem lw_p4 : lw_okq (⟨"WitnessBench$Sheet", "putLetters", "(LWitnessBench$Letters;)V"⟩, 2) := ⟨⟨by decide +kernel, by decide +kernel⟩, List.mem_of_getElem? (i := 150) (by decide +kernel), List.mem_of_getElem? (i := 338) (by decide +kernel), List.mem_of_getElem? (i := 339) (by decide +kernel)⟩
theorem lw_p5 : lw_okq (⟨"WitnessBench$Sheet", "putGroup", "(LWitnessBench$Table;LWitnessBench$Words;II)V"⟩, 2) := ⟨⟨by decide +kernel, by decide +kernel⟩, List.mem_of_getElem? (i := 150) (by decide +kernel), List.mem_of_getElem? (i := 349) (by decide +kernel), List.mem_of_getElem? (i := 350) (by decide +kernel)⟩
theorem lw_p6 : lw_okq (⟨"WitnessBench$Rules", "ruleFor", "(LWitnessBench$Letters;I)I"⟩, 3) := ⟨⟨by decide +kernel, by decide +kernel⟩, List.mem_of_getElem? (i := 44) (by decide +kernel), List.mem_of_getElem? (i := 381) (by decide +kernel), List.mem_of_getElem? (i := 382) (by decide +kernel)⟩
theorem lw_p7 : lw_okq (⟨"java/lang/Throwable", "fillInStackTrace", "(I)Ljava/lang/Throwable;"⟩, 6) := ⟨⟨by decide +kernel, by decide +kernel⟩, List.mem_of_getElem? (i := 469) (by decide +kernel), List.mem_of_getElem? (i := 467) (by decide +kernel), List.mem_of_getElem? (i := 468) (by decide +kernel)⟩
theorem lw_p8 : lw_okq (⟨"WitnessBench$Words", "markAll", "()V"⟩, 9) := ⟨⟨by decide +kernel, by decide +kernel⟩, List.mem_of_getElem? (i := 63) (by decide +kernel), List.mem_of_getElem? (i := 590) (by decide +kernel), List.mem_of_getElem? (i := 591) (by decide +kernel)⟩
theorem lw_p9 : lw_okq (⟨"WitnessBench$Words", "makeEqual", "(II)V"⟩, 9) := ⟨⟨by decide +kernel, by decide +kernel⟩, List.mem_of_getElem? (i := 63) (by decide +kernel), List.mem_of_getElem? (i := 595) (by decide +kernel), List.mem_of_getElem? (i := 596) (by decide +kernel)⟩
theorem lw_p10 : lw_okq (⟨"WitnessBench", "checkWord", "(II)V"⟩, 12) := ⟨⟨by decide +kernel, by decide +kernel⟩, List.mem_of_getElem? (i := 22) (by decide +kernel), List.mem_of_getElem? (i := 627) (by decide +kernel), List.mem_of_getElem? (i := 628) (by decide +kernel)⟩
theorem lw_p11 : lw_okq (⟨"WitnessBench$Words", "edits", "(LWitnessBench$Letters;LWitnessBench$Letters;)I"⟩, 9) := ⟨⟨by decide +kernel, by decide +kernel⟩, List.mem_of_getElem? (i := 63) (by decide +kernel), List.mem_of_getElem? (i := 665) (by decide +kernel), List.mem_of_getElem? (i := 666) (by decide +kernel)⟩
theorem lw_p12 : lw_okq (⟨"WitnessBench$Joiner", "settle", "(III)V"⟩, 6) := ⟨⟨by decide +kernel, by decide +kernel⟩, List.mem_of_getElem? (i := 125) (by decide +kernel), List.mem_of_getElem? (i := 695) (by decide +kernel), List.mem_of_getElem? (i := 696) (by decide +kernel)⟩
theorem lw_p13 : lw_okq (⟨"WitnessBench$Joiner", "offer", "(III)V"⟩, 6) := ⟨⟨by decide +kernel, by decide +kernel⟩, List.mem_of_getElem? (i := 125) (by decide +kernel), List.mem_of_getElem? (i := 700) (by decide +kernel), List.mem_of_getElem? (i := 701) (by decide +kernel)⟩
theorem lw_p14 : lw_okq (⟨"WitnessBench$Joiner", "layPath", "()V"⟩, 6) := ⟨⟨by decide +kernel, by decide +kernel⟩, List.mem_of_getElem? (i := 125) (by decide +kernel), List.mem_of_getElem? (i := 704) (by decide +kernel), List.mem_of_getElem? (i := 705) (by decide +kernel)⟩
theorem lw_p15 : lw_okq (⟨"WitnessBench$Table", "hasWords", "(I)Z"⟩, 6) := ⟨⟨by decide +kernel, by decide +kernel⟩, List.mem_of_getElem? (i := 100) (by decide +kernel), List.mem_of_getElem? (i := 751) (by decide +kernel), List.mem_of_getElem? (i := 752) (by decide +kernel)⟩
def lw_privs_1 : List (MethodName × Nat) := [(⟨"WitnessBench$Sheet", "writeEntry", "(LWitnessBench$Table;LWitnessBench$Words;IZ)V"⟩, 2), (⟨"WitnessBench$Sheet", "putNumber", "(I)V"⟩, 2), (⟨"WitnessBench$Sheet", "put", "(C)V"⟩, 2), (⟨"WitnessBench$Sheet", "putReading", "(LWitnessBench$Words;I)V"⟩, 2), (⟨"WitnessBench$Sheet", "putLetters", "(LWitnessBench$Letters;)V"⟩, 2), (⟨"WitnessBench$Sheet", "putGroup", "(LWitnessBench$Table;LWitnessBench$Words;II)V"⟩, 2), (⟨"WitnessBench$Rules", "ruleFor", "(LWitnessBench$Letters;I)I"⟩, 3), (⟨"java/lang/Throwable", "fillInStackTrace", "(I)Ljava/lang/Throwable;"⟩, 6), (⟨"WitnessBench$Words", "markAll", "()V"⟩, 9), (⟨"WitnessBench$Words", "makeEqual", "(II)V"⟩, 9), (⟨"WitnessBench", "checkWord", "(II)V"⟩, 12), (⟨"WitnessBench$Words", "edits", "(LWitnessBench$Letters;LWitnessBench$Letters;)I"⟩, 9), (⟨"WitnessBench$Joiner", "settle", "(III)V"⟩, 6), (⟨"WitnessBench$Joiner", "offer", "(III)V"⟩, 6), (⟨"WitnessBench$Joiner", "layPath", "()V"⟩, 6), (⟨"WitnessBench$Table", "hasWords", "(I)Z"⟩, 6)]
theorem lw_r1 : ∀ q ∈ lw_privs_1, lw_okq q := List.forall_mem_cons.mpr ⟨lw_p0, List.forall_mem_cons.mpr ⟨lw_p1, List.forall_mem_cons.mpr ⟨lw_p2, List.forall_mem_cons.mpr ⟨lw_p3, List.forall_mem_cons.mpr ⟨lw_p4, List.forall_mem_cons.mpr ⟨lw_p5, List.forall_mem_cons.mpr ⟨lw_p6, List.forall_mem_cons.mpr ⟨lw_p7, List.forall_mem_cons.mpr ⟨lw_p8, List.forall_mem_cons.mpr ⟨lw_p9, List.forall_mem_cons.mpr ⟨lw_p10, List.forall_mem_cons.mpr ⟨lw_p11, List.forall_mem_cons.mpr ⟨lw_p12, List.forall_mem_cons.mpr ⟨lw_p13, List.forall_mem_cons.mpr ⟨lw_p14, List.forall_mem_cons.mpr ⟨lw_p15, fun _ h => absurd h List.not_mem_nil⟩⟩⟩⟩⟩⟩⟩⟩⟩⟩⟩⟩⟩⟩⟩⟩
theorem lw_p16 : lw_okq (⟨"WitnessBench", "checkPlace", "(I)V"⟩, 12) := ⟨⟨by decide +kernel, by decide +kernel⟩, List.mem_of_getElem? (i := 22) (by decide +kernel), List.mem_of_getElem? (i := 763) (by decide +kernel), List.mem_of_getElem? (i := 764) (by decide +kernel)⟩
theorem lw_p17 : lw_okq (⟨"WitnessBench", "checkJoined", "(I)V"⟩, 12) := ⟨⟨by decide +kernel, by decide +kernel⟩, List.mem_of_getElem? (i := 22) (by decide +kernel), List.mem_of_getElem? (i := 787) (by decide +kernel), List.mem_of_getElem? (i := 788) (by decide +kernel)⟩
theorem lw_p18 : lw_okq (⟨"WitnessBench", "checkSheet", "(I)V"⟩, 12) := ⟨⟨by decide +kernel, by decide +kernel⟩, List.mem_of_getElem? (i := 22) (by decide +kernel), List.mem_of_getElem? (i := 815) (by decide +kernel), List.mem_of_getElem? (i := 816) (by decide +kernel)⟩
theorem lw_p19 : lw_okq (⟨"WitnessBench$Reader", "readEntry", "(LWitnessBench$Sheet;LWitnessBench$Table;LWitnessBench$Words;)Z"⟩, 7) := ⟨⟨by decide +kernel, by decide +kernel⟩, List.mem_of_getElem? (i := 163) (by decide +kernel), List.mem_of_getElem? (i := 848) (by decide +kernel), List.mem_of_getElem? (i := 849) (by decide +kernel)⟩
theorem lw_p20 : lw_okq (⟨"WitnessBench$Reader", "readPlace", "(LWitnessBench$Sheet;LWitnessBench$Table;)Z"⟩, 7) := ⟨⟨by decide +kernel, by decide +kernel⟩, List.mem_of_getElem? (i := 163) (by decide +kernel), List.mem_of_getElem? (i := 852) (by decide +kernel), List.mem_of_getElem? (i := 853) (by decide +kernel)⟩
theorem lw_p21 : lw_okq (⟨"WitnessBench$Reader", "readSign", "(LWitnessBench$Sheet;C)Z"⟩, 7) := ⟨⟨by decide +kernel, by decide +kernel⟩, List.mem_of_getElem? (i := 163) (by decide +kernel), List.mem_of_getElem? (i := 862) (by decide +kernel), List.mem_of_getElem? (i := 863) (by decide +kernel)⟩
theorem lw_p22 : lw_okq (⟨"WitnessBench$Reader", "readLemma", "(LWitnessBench$Sheet;LWitnessBench$Table;LWitnessBench$Words;)Z"⟩, 7) := ⟨⟨by decide +kernel, by decide +kernel⟩, List.mem_of_getElem? (i := 163) (by decide +kernel), List.mem_of_getElem? (i := 866) (by decide +kernel), List.mem_of_getElem? (i := 867) (by decide +kernel)⟩
theorem lw_p23 : lw_okq (⟨"WitnessBench$Reader", "readLetters", "(LWitnessBench$Sheet;LWitnessBench$Letters;)Z"⟩, 7) := ⟨⟨by decide +kernel, by decide +kernel⟩, List.mem_of_getElem? (i := 163) (by decide +kernel), List.mem_of_getElem? (i := 873) (by decide +kernel), List.mem_of_getElem? (i := 874) (by decide +kernel)⟩
theorem lw_p24 : lw_okq (⟨"WitnessBench$Reader", "readGroup", "(LWitnessBench$Sheet;LWitnessBench$Table;)Z"⟩, 7) := ⟨⟨by decide +kernel, by decide +kernel⟩, List.mem_of_getElem? (i := 163) (by decide +kernel), List.mem_of_getElem? (i := 877) (by decide +kernel), List.mem_of_getElem? (i := 878) (by decide +kernel)⟩
theorem lw_p25 : lw_okq (⟨"WitnessBench$Reader", "readReading", "(LWitnessBench$Sheet;)Z"⟩, 7) := ⟨⟨by decide +kernel, by decide +kernel⟩, List.mem_of_getElem? (i := 163) (by decide +kernel), List.mem_of_getElem? (i := 881) (by decide +kernel), List.mem_of_getElem? (i := 882) (by decide +kernel)⟩
theorem lw_p26 : lw_okq (⟨"WitnessBench$Reader", "readWitnesses", "(LWitnessBench$Sheet;LWitnessBench$Table;I)Z"⟩, 7) := ⟨⟨by decide +kernel, by decide +kernel⟩, List.mem_of_getElem? (i := 163) (by decide +kernel), List.mem_of_getElem? (i := 885) (by decide +kernel), List.mem_of_getElem? (i := 886) (by decide +kernel)⟩
theorem lw_p27 : lw_okq (⟨"WitnessBench$Reader", "buildAll", "(LWitnessBench$Sheet;LWitnessBench$Table;LWitnessBench$Words;)V"⟩, 7) := ⟨⟨by decide +kernel, by decide +kernel⟩, List.mem_of_getElem? (i := 163) (by decide +kernel), List.mem_of_getElem? (i := 890) (by decide +kernel), List.mem_of_getElem? (i := 891) (by decide +kernel)⟩
theorem lw_p28 : lw_okq (⟨"WitnessBench$Reader", "buildReading", "(LWitnessBench$Sheet;I)V"⟩, 7) := ⟨⟨by decide +kernel, by decide +kernel⟩, List.mem_of_getElem? (i := 163) (by decide +kernel), List.mem_of_getElem? (i := 894) (by decide +kernel), List.mem_of_getElem? (i := 895) (by decide +kernel)⟩
theorem lw_p29 : lw_okq (⟨"WitnessBench$BlockFinder", "keep", "(III)V"⟩, 2) := ⟨⟨by decide +kernel, by decide +kernel⟩, List.mem_of_getElem? (i := 193) (by decide +kernel), List.mem_of_getElem? (i := 941) (by decide +kernel), List.mem_of_getElem? (i := 942) (by decide +kernel)⟩
theorem lw_p30 : lw_okq (⟨"WitnessBench$Family", "takeReadings", "(LWitnessBench$Table;LWitnessBench$Words;I)V"⟩, 3) := ⟨⟨by decide +kernel, by decide +kernel⟩, List.mem_of_getElem? (i := 206) (by decide +kernel), List.mem_of_getElem? (i := 988) (by decide +kernel), List.mem_of_getElem? (i := 989) (by decide +kernel)⟩
theorem lw_p31 : lw_okq (⟨"WitnessBench$Family", "startCosts", "()V"⟩, 3) := ⟨⟨by decide +kernel, by decide +kernel⟩, List.mem_of_getElem? (i := 206) (by decide +kernel), List.mem_of_getElem? (i := 996) (by decide +kernel), List.mem_of_getElem? (i := 997) (by decide +kernel)⟩
def lw_privs_2 : List (MethodName × Nat) := [(⟨"WitnessBench", "checkPlace", "(I)V"⟩, 12), (⟨"WitnessBench", "checkJoined", "(I)V"⟩, 12), (⟨"WitnessBench", "checkSheet", "(I)V"⟩, 12), (⟨"WitnessBench$Reader", "readEntry", "(LWitnessBench$Sheet;LWitnessBench$Table;LWitnessBench$Words;)Z"⟩, 7), (⟨"WitnessBench$Reader", "readPlace", "(LWitnessBench$Sheet;LWitnessBench$Table;)Z"⟩, 7), (⟨"WitnessBench$Reader", "readSign", "(LWitnessBench$Sheet;C)Z"⟩, 7), (⟨"WitnessBench$Reader", "readLemma", "(LWitnessBench$Sheet;LWitnessBench$Table;LWitnessBench$Words;)Z"⟩, 7), (⟨"WitnessBench$Reader", "readLetters", "(LWitnessBench$Sheet;LWitnessBench$Letters;)Z"⟩, 7), (⟨"WitnessBench$Reader", "readGroup", "(LWitnessBench$Sheet;LWitnessBench$Table;)Z"⟩, 7), (⟨"WitnessBench$Reader", "readReading", "(LWitnessBench$Sheet;)Z"⟩, 7), (⟨"WitnessBench$Reader", "readWitnesses", "(LWitnessBench$Sheet;LWitnessBench$Table;I)Z"⟩, 7), (⟨"WitnessBench$Reader", "buildAll", "(LWitnessBench$Sheet;LWitnessBench$Table;LWitnessBench$Words;)V"⟩, 7), (⟨"WitnessBench$Reader", "buildReading", "(LWitnessBench$Sheet;I)V"⟩, 7), (⟨"WitnessBench$BlockFinder", "keep", "(III)V"⟩, 2), (⟨"WitnessBench$Family", "takeReadings", "(LWitnessBench$Table;LWitnessBench$Words;I)V"⟩, 3), (⟨"WitnessBench$Family", "startCosts", "()V"⟩, 3)]
theorem lw_r2 : ∀ q ∈ lw_privs_2, lw_okq q := List.forall_mem_cons.mpr ⟨lw_p16, List.forall_mem_cons.mpr ⟨lw_p17, List.forall_mem_cons.mpr ⟨lw_p18, List.forall_mem_cons.mpr ⟨lw_p19, List.forall_mem_cons.mpr ⟨lw_p20, List.forall_mem_cons.mpr ⟨lw_p21, List.forall_mem_cons.mpr ⟨lw_p22, List.forall_mem_cons.mpr ⟨lw_p23, List.forall_mem_cons.mpr ⟨lw_p24, List.forall_mem_cons.mpr ⟨lw_p25, List.forall_mem_cons.mpr ⟨lw_p26, List.forall_mem_cons.mpr ⟨lw_p27, List.forall_mem_cons.mpr ⟨lw_p28, List.forall_mem_cons.mpr ⟨lw_p29, List.forall_mem_cons.mpr ⟨lw_p30, List.forall_mem_cons.mpr ⟨lw_p31, fun _ h => absurd h List.not_mem_nil⟩⟩⟩⟩⟩⟩⟩⟩⟩⟩⟩⟩⟩⟩⟩⟩
theorem lw_p32 : lw_okq (⟨"WitnessBench$Family", "depthOf", "(I)I"⟩, 3) := ⟨⟨by decide +kernel, by decide +kernel⟩, List.mem_of_getElem? (i := 206) (by decide +kernel), List.mem_of_getElem? (i := 1000) (by decide +kernel), List.mem_of_getElem? (i := 1001) (by decide +kernel)⟩
theorem lw_p33 : lw_okq (⟨"WitnessBench$Family", "handUp", "(I)I"⟩, 3) := ⟨⟨by decide +kernel, by decide +kernel⟩, List.mem_of_getElem? (i := 206) (by decide +kernel), List.mem_of_getElem? (i := 1004) (by decide +kernel), List.mem_of_getElem? (i := 1005) (by decide +kernel)⟩
theorem lw_p34 : lw_okq (⟨"WitnessBench$Family", "leastCost", "(I)I"⟩, 3) := ⟨⟨by decide +kernel, by decide +kernel⟩, List.mem_of_getElem? (i := 206) (by decide +kernel), List.mem_of_getElem? (i := 1008) (by decide +kernel), List.mem_of_getElem? (i := 1009) (by decide +kernel)⟩
theorem lw_p35 : lw_okq (⟨"WitnessBenchModel", "isJoined", "(I)Z"⟩, 47) := ⟨⟨by decide +kernel, by decide +kernel⟩, List.mem_of_getElem? (i := 1013) (by decide +kernel), List.mem_of_getElem? (i := 1180) (by decide +kernel), List.mem_of_getElem? (i := 1181) (by decide +kernel)⟩
theorem lw_p36 : lw_okq (⟨"WitnessBenchModel", "settle", "()V"⟩, 47) := ⟨⟨by decide +kernel, by decide +kernel⟩, List.mem_of_getElem? (i := 1013) (by decide +kernel), List.mem_of_getElem? (i := 1184) (by decide +kernel), List.mem_of_getElem? (i := 1185) (by decide +kernel)⟩
theorem lw_p37 : lw_okq (⟨"WitnessBenchModel", "isThere", "(I)Z"⟩, 47) := ⟨⟨by decide +kernel, by decide +kernel⟩, List.mem_of_getElem? (i := 1013) (by decide +kernel), List.mem_of_getElem? (i := 1188) (by decide +kernel), List.mem_of_getElem? (i := 1189) (by decide +kernel)⟩
theorem lw_p38 : lw_okq (⟨"WitnessBenchModel", "workForm", "(II)V"⟩, 47) := ⟨⟨by decide +kernel, by decide +kernel⟩, List.mem_of_getElem? (i := 1013) (by decide +kernel), List.mem_of_getElem? (i := 1192) (by decide +kernel), List.mem_of_getElem? (i := 1193) (by decide +kernel)⟩
theorem lw_p39 : lw_okq (⟨"WitnessBenchModel", "ruleAt", "(III)I"⟩, 47) := ⟨⟨by decide +kernel, by decide +kernel⟩, List.mem_of_getElem? (i := 1013) (by decide +kernel), List.mem_of_getElem? (i := 1196) (by decide +kernel), List.mem_of_getElem? (i := 1197) (by decide +kernel)⟩
theorem lw_p40 : lw_okq (⟨"WitnessBenchModel", "stands", "(IIII)Z"⟩, 47) := ⟨⟨by decide +kernel, by decide +kernel⟩, List.mem_of_getElem? (i := 1013) (by decide +kernel), List.mem_of_getElem? (i := 1200) (by decide +kernel), List.mem_of_getElem? (i := 1201) (by decide +kernel)⟩
theorem lw_p41 : lw_okq (⟨"WitnessBenchModel", "letter", "(II)I"⟩, 47) := ⟨⟨by decide +kernel, by decide +kernel⟩, List.mem_of_getElem? (i := 1013) (by decide +kernel), List.mem_of_getElem? (i := 1204) (by decide +kernel), List.mem_of_getElem? (i := 1205) (by decide +kernel)⟩
theorem lw_p42 : lw_okq (⟨"WitnessBenchModel", "alike", "(II)Z"⟩, 47) := ⟨⟨by decide +kernel, by decide +kernel⟩, List.mem_of_getElem? (i := 1013) (by decide +kernel), List.mem_of_getElem? (i := 1208) (by decide +kernel), List.mem_of_getElem? (i := 1209) (by decide +kernel)⟩
theorem lw_p43 : lw_okq (⟨"WitnessBenchModel", "isGap", "(I)Z"⟩, 47) := ⟨⟨by decide +kernel, by decide +kernel⟩, List.mem_of_getElem? (i := 1013) (by decide +kernel), List.mem_of_getElem? (i := 1212) (by decide +kernel), List.mem_of_getElem? (i := 1213) (by decide +kernel)⟩
theorem lw_p44 : lw_okq (⟨"WitnessBenchModel", "even", "(II)Z"⟩, 47) := ⟨⟨by decide +kernel, by decide +kernel⟩, List.mem_of_getElem? (i := 1013) (by decide +kernel), List.mem_of_getElem? (i := 1216) (by decide +kernel), List.mem_of_getElem? (i := 1217) (by decide +kernel)⟩
theorem lw_p45 : lw_okq (⟨"WitnessBenchModel", "isWord", "(II)Z"⟩, 47) := ⟨⟨by decide +kernel, by decide +kernel⟩, List.mem_of_getElem? (i := 1013) (by decide +kernel), List.mem_of_getElem? (i := 1228) (by decide +kernel), List.mem_of_getElem? (i := 1229) (by decide +kernel)⟩
theorem lw_p46 : lw_okq (⟨"WitnessBenchModel", "far", "(II)I"⟩, 47) := ⟨⟨by decide +kernel, by decide +kernel⟩, List.mem_of_getElem? (i := 1013) (by decide +kernel), List.mem_of_getElem? (i := 1240) (by decide +kernel), List.mem_of_getElem? (i := 1241) (by decide +kernel)⟩
theorem lw_p47 : lw_okq (⟨"WitnessBenchModel", "apart", "(II)I"⟩, 47) := ⟨⟨by decide +kernel, by decide +kernel⟩, List.mem_of_getElem? (i := 1013) (by decide +kernel), List.mem_of_getElem? (i := 1244) (by decide +kernel), List.mem_of_getElem? (i := 1245) (by decide +kernel)⟩
def lw_privs_3 : List (MethodName × Nat) := [(⟨"WitnessBench$Family", "depthOf", "(I)I"⟩, 3), (⟨"WitnessBench$Family", "handUp", "(I)I"⟩, 3), (⟨"WitnessBench$Family", "leastCost", "(I)I"⟩, 3), (⟨"WitnessBenchModel", "isJoined", "(I)Z"⟩, 47), (⟨"WitnessBenchModel", "settle", "()V"⟩, 47), (⟨"WitnessBenchModel", "isThere", "(I)Z"⟩, 47), (⟨"WitnessBenchModel", "workForm", "(II)V"⟩, 47), (⟨"WitnessBenchModel", "ruleAt", "(III)I"⟩, 47), (⟨"WitnessBenchModel", "stands", "(IIII)Z"⟩, 47), (⟨"WitnessBenchModel", "letter", "(II)I"⟩, 47), (⟨"WitnessBenchModel", "alike", "(II)Z"⟩, 47), (⟨"WitnessBenchModel", "isGap", "(I)Z"⟩, 47), (⟨"WitnessBenchModel", "even", "(II)Z"⟩, 47), (⟨"WitnessBenchModel", "isWord", "(II)Z"⟩, 47), (⟨"WitnessBenchModel", "far", "(II)I"⟩, 47), (⟨"WitnessBenchModel", "apart", "(II)I"⟩, 47)]
theorem lw_r3 : ∀ q ∈ lw_privs_3, lw_okq q := List.forall_mem_cons.mpr ⟨lw_p32, List.forall_mem_cons.mpr ⟨lw_p33, List.forall_mem_cons.mpr ⟨lw_p34, List.forall_mem_cons.mpr ⟨lw_p35, List.forall_mem_cons.mpr ⟨lw_p36, List.forall_mem_cons.mpr ⟨lw_p37, List.forall_mem_cons.mpr ⟨lw_p38, List.forall_mem_cons.mpr ⟨lw_p39, List.forall_mem_cons.mpr ⟨lw_p40, List.forall_mem_cons.mpr ⟨lw_p41, List.forall_mem_cons.mpr ⟨lw_p42, List.forall_mem_cons.mpr ⟨lw_p43, List.forall_mem_cons.mpr ⟨lw_p44, List.forall_mem_cons.mpr ⟨lw_p45, List.forall_mem_cons.mpr ⟨lw_p46, List.forall_mem_cons.mpr ⟨lw_p47, fun _ h => absurd h List.not_mem_nil⟩⟩⟩⟩⟩⟩⟩⟩⟩⟩⟩⟩⟩⟩⟩⟩
theorem lw_p48 : lw_okq (⟨"WitnessBenchModel", "least", "(II)I"⟩, 47) := ⟨⟨by decide +kernel, by decide +kernel⟩, List.mem_of_getElem? (i := 1013) (by decide +kernel), List.mem_of_getElem? (i := 1248) (by decide +kernel), List.mem_of_getElem? (i := 1249) (by decide +kernel)⟩
theorem lw_p49 : lw_okq (⟨"WitnessBenchModel", "workOut", "(I)V"⟩, 47) := ⟨⟨by decide +kernel, by decide +kernel⟩, List.mem_of_getElem? (i := 1013) (by decide +kernel), List.mem_of_getElem? (i := 1256) (by decide +kernel), List.mem_of_getElem? (i := 1257) (by decide +kernel)⟩
theorem lw_p50 : lw_okq (⟨"WitnessBenchModel", "match", "(III)I"⟩, 47) := ⟨⟨by decide +kernel, by decide +kernel⟩, List.mem_of_getElem? (i := 1013) (by decide +kernel), List.mem_of_getElem? (i := 1260) (by decide +kernel), List.mem_of_getElem? (i := 1261) (by decide +kernel)⟩
theorem lw_p51 : lw_okq (⟨"WitnessBenchModel", "cost", "(III)I"⟩, 47) := ⟨⟨by decide +kernel, by decide +kernel⟩, List.mem_of_getElem? (i := 1013) (by decide +kernel), List.mem_of_getElem? (i := 1264) (by decide +kernel), List.mem_of_getElem? (i := 1265) (by decide +kernel)⟩
theorem lw_p52 : lw_okq (⟨"WitnessBenchModel", "putIn", "(I)I"⟩, 47) := ⟨⟨by decide +kernel, by decide +kernel⟩, List.mem_of_getElem? (i := 1013) (by decide +kernel), List.mem_of_getElem? (i := 1268) (by decide +kernel), List.mem_of_getElem? (i := 1269) (by decide +kernel)⟩
theorem lw_p53 : lw_okq (⟨"WitnessBenchModel", "step", "(III)I"⟩, 47) := ⟨⟨by decide +kernel, by decide +kernel⟩, List.mem_of_getElem? (i := 1013) (by decide +kernel), List.mem_of_getElem? (i := 1272) (by decide +kernel), List.mem_of_getElem? (i := 1273) (by decide +kernel)⟩
theorem lw_p54 : lw_okq (⟨"WitnessBenchModel", "stepOf", "(IIII)I"⟩, 47) := ⟨⟨by decide +kernel, by decide +kernel⟩, List.mem_of_getElem? (i := 1013) (by decide +kernel), List.mem_of_getElem? (i := 1276) (by decide +kernel), List.mem_of_getElem? (i := 1277) (by decide +kernel)⟩
theorem lw_p55 : lw_okq (⟨"WitnessBenchModel", "open", "(II)V"⟩, 47) := ⟨⟨by decide +kernel, by decide +kernel⟩, List.mem_of_getElem? (i := 1013) (by decide +kernel), List.mem_of_getElem? (i := 1280) (by decide +kernel), List.mem_of_getElem? (i := 1281) (by decide +kernel)⟩
theorem lw_p56 : lw_okq (⟨"WitnessBenchModel", "move", "(II)V"⟩, 47) := ⟨⟨by decide +kernel, by decide +kernel⟩, List.mem_of_getElem? (i := 1013) (by decide +kernel), List.mem_of_getElem? (i := 1284) (by decide +kernel), List.mem_of_getElem? (i := 1285) (by decide +kernel)⟩
theorem lw_p57 : lw_okq (⟨"WitnessBenchModel", "isPlace", "(I)Z"⟩, 47) := ⟨⟨by decide +kernel, by decide +kernel⟩, List.mem_of_getElem? (i := 1013) (by decide +kernel), List.mem_of_getElem? (i := 1300) (by decide +kernel), List.mem_of_getElem? (i := 1301) (by decide +kernel)⟩
theorem lw_p58 : lw_okq (⟨"WitnessBenchModel", "placeOf", "(I)I"⟩, 47) := ⟨⟨by decide +kernel, by decide +kernel⟩, List.mem_of_getElem? (i := 1013) (by decide +kernel), List.mem_of_getElem? (i := 1308) (by decide +kernel), List.mem_of_getElem? (i := 1309) (by decide +kernel)⟩
theorem lw_p59 : lw_okq (⟨"WitnessBenchModel", "lemma", "(I)I"⟩, 47) := ⟨⟨by decide +kernel, by decide +kernel⟩, List.mem_of_getElem? (i := 1013) (by decide +kernel), List.mem_of_getElem? (i := 1324) (by decide +kernel), List.mem_of_getElem? (i := 1325) (by decide +kernel)⟩
theorem lw_p60 : lw_okq (⟨"WitnessBenchModel", "readsAlike", "(II)Z"⟩, 47) := ⟨⟨by decide +kernel, by decide +kernel⟩, List.mem_of_getElem? (i := 1013) (by decide +kernel), List.mem_of_getElem? (i := 1328) (by decide +kernel), List.mem_of_getElem? (i := 1329) (by decide +kernel)⟩
theorem lw_p61 : lw_okq (⟨"WitnessBenchModel", "sayEntry", "(IZ)V"⟩, 47) := ⟨⟨by decide +kernel, by decide +kernel⟩, List.mem_of_getElem? (i := 1013) (by decide +kernel), List.mem_of_getElem? (i := 1332) (by decide +kernel), List.mem_of_getElem? (i := 1333) (by decide +kernel)⟩
theorem lw_p62 : lw_okq (⟨"WitnessBenchModel", "say", "(I)V"⟩, 47) := ⟨⟨by decide +kernel, by decide +kernel⟩, List.mem_of_getElem? (i := 1013) (by decide +kernel), List.mem_of_getElem? (i := 1336) (by decide +kernel), List.mem_of_getElem? (i := 1337) (by decide +kernel)⟩
theorem lw_p63 : lw_okq (⟨"WitnessBenchModel", "sayReading", "(I)V"⟩, 47) := ⟨⟨by decide +kernel, by decide +kernel⟩, List.mem_of_getElem? (i := 1013) (by decide +kernel), List.mem_of_getElem? (i := 1340) (by decide +kernel), List.mem_of_getElem? (i := 1341) (by decide +kernel)⟩
def lw_privs_4 : List (MethodName × Nat) := [(⟨"WitnessBenchModel", "least", "(II)I"⟩, 47), (⟨"WitnessBenchModel", "workOut", "(I)V"⟩, 47), (⟨"WitnessBenchModel", "match", "(III)I"⟩, 47), (⟨"WitnessBenchModel", "cost", "(III)I"⟩, 47), (⟨"WitnessBenchModel", "putIn", "(I)I"⟩, 47), (⟨"WitnessBenchModel", "step", "(III)I"⟩, 47), (⟨"WitnessBenchModel", "stepOf", "(IIII)I"⟩, 47), (⟨"WitnessBenchModel", "open", "(II)V"⟩, 47), (⟨"WitnessBenchModel", "move", "(II)V"⟩, 47), (⟨"WitnessBenchModel", "isPlace", "(I)Z"⟩, 47), (⟨"WitnessBenchModel", "placeOf", "(I)I"⟩, 47), (⟨"WitnessBenchModel", "lemma", "(I)I"⟩, 47), (⟨"WitnessBenchModel", "readsAlike", "(II)Z"⟩, 47), (⟨"WitnessBenchModel", "sayEntry", "(IZ)V"⟩, 47), (⟨"WitnessBenchModel", "say", "(I)V"⟩, 47), (⟨"WitnessBenchModel", "sayReading", "(I)V"⟩, 47)]
theorem lw_r4 : ∀ q ∈ lw_privs_4, lw_okq q := List.forall_mem_cons.mpr ⟨lw_p48, List.forall_mem_cons.mpr ⟨lw_p49, List.forall_mem_cons.mpr ⟨lw_p50, List.forall_mem_cons.mpr ⟨lw_p51, List.forall_mem_cons.mpr ⟨lw_p52, List.forall_mem_cons.mpr ⟨lw_p53, List.forall_mem_cons.mpr ⟨lw_p54, List.forall_mem_cons.mpr ⟨lw_p55, List.forall_mem_cons.mpr ⟨lw_p56, List.forall_mem_cons.mpr ⟨lw_p57, List.forall_mem_cons.mpr ⟨lw_p58, List.forall_mem_cons.mpr ⟨lw_p59, List.forall_mem_cons.mpr ⟨lw_p60, List.forall_mem_cons.mpr ⟨lw_p61, List.forall_mem_cons.mpr ⟨lw_p62, List.forall_mem_cons.mpr ⟨lw_p63, fun _ h => absurd h List.not_mem_nil⟩⟩⟩⟩⟩⟩⟩⟩⟩⟩⟩⟩⟩⟩⟩⟩
theorem lw_p64 : lw_okq (⟨"WitnessBenchModel", "isReadBelow", "(III)Z"⟩, 47) := ⟨⟨by decide +kernel, by decide +kernel⟩, List.mem_of_getElem? (i := 1013) (by decide +kernel), List.mem_of_getElem? (i := 1344) (by decide +kernel), List.mem_of_getElem? (i := 1345) (by decide +kernel)⟩
theorem lw_p65 : lw_okq (⟨"WitnessBenchModel", "sayGroup", "(IIZ)V"⟩, 47) := ⟨⟨by decide +kernel, by decide +kernel⟩, List.mem_of_getElem? (i := 1013) (by decide +kernel), List.mem_of_getElem? (i := 1348) (by decide +kernel), List.mem_of_getElem? (i := 1349) (by decide +kernel)⟩
theorem lw_p66 : lw_okq (⟨"WitnessBenchModel", "readAll", "(I)V"⟩, 47) := ⟨⟨by decide +kernel, by decide +kernel⟩, List.mem_of_getElem? (i := 1013) (by decide +kernel), List.mem_of_getElem? (i := 1364) (by decide +kernel), List.mem_of_getElem? (i := 1365) (by decide +kernel)⟩
theorem lw_p67 : lw_okq (⟨"WitnessBenchModel", "next", "()V"⟩, 47) := ⟨⟨by decide +kernel, by decide +kernel⟩, List.mem_of_getElem? (i := 1013) (by decide +kernel), List.mem_of_getElem? (i := 1368) (by decide +kernel), List.mem_of_getElem? (i := 1369) (by decide +kernel)⟩
theorem lw_p68 : lw_okq (⟨"WitnessBenchModel", "many", "(III)I"⟩, 47) := ⟨⟨by decide +kernel, by decide +kernel⟩, List.mem_of_getElem? (i := 1013) (by decide +kernel), List.mem_of_getElem? (i := 1372) (by decide +kernel), List.mem_of_getElem? (i := 1373) (by decide +kernel)⟩
theorem lw_p69 : lw_okq (⟨"WitnessBenchModel", "isFrom", "(III)Z"⟩, 47) := ⟨⟨by decide +kernel, by decide +kernel⟩, List.mem_of_getElem? (i := 1013) (by decide +kernel), List.mem_of_getElem? (i := 1376) (by decide +kernel), List.mem_of_getElem? (i := 1377) (by decide +kernel)⟩
theorem lw_p70 : lw_okq (⟨"WitnessBenchModel", "numberAbove", "(I)I"⟩, 47) := ⟨⟨by decide +kernel, by decide +kernel⟩, List.mem_of_getElem? (i := 1013) (by decide +kernel), List.mem_of_getElem? (i := 1380) (by decide +kernel), List.mem_of_getElem? (i := 1381) (by decide +kernel)⟩
theorem lw_p71 : lw_okq (⟨"WitnessBenchModel", "pass", "(Z)V"⟩, 47) := ⟨⟨by decide +kernel, by decide +kernel⟩, List.mem_of_getElem? (i := 1013) (by decide +kernel), List.mem_of_getElem? (i := 1384) (by decide +kernel), List.mem_of_getElem? (i := 1385) (by decide +kernel)⟩
theorem lw_p72 : lw_okq (⟨"WitnessBenchModel", "keepWord", "(I)V"⟩, 47) := ⟨⟨by decide +kernel, by decide +kernel⟩, List.mem_of_getElem? (i := 1013) (by decide +kernel), List.mem_of_getElem? (i := 1388) (by decide +kernel), List.mem_of_getElem? (i := 1389) (by decide +kernel)⟩
theorem lw_p73 : lw_okq (⟨"WitnessBenchModel", "isLemma", "(I)Z"⟩, 47) := ⟨⟨by decide +kernel, by decide +kernel⟩, List.mem_of_getElem? (i := 1013) (by decide +kernel), List.mem_of_getElem? (i := 1392) (by decide +kernel), List.mem_of_getElem? (i := 1393) (by decide +kernel)⟩
theorem lw_p74 : lw_okq (⟨"WitnessBenchModel", "groups", "(I)I"⟩, 47) := ⟨⟨by decide +kernel, by decide +kernel⟩, List.mem_of_getElem? (i := 1013) (by decide +kernel), List.mem_of_getElem? (i := 1396) (by decide +kernel), List.mem_of_getElem? (i := 1397) (by decide +kernel)⟩
theorem lw_p75 : lw_okq (⟨"WitnessBenchModel", "siglaWith", "(I)I"⟩, 47) := ⟨⟨by decide +kernel, by decide +kernel⟩, List.mem_of_getElem? (i := 1013) (by decide +kernel), List.mem_of_getElem? (i := 1400) (by decide +kernel), List.mem_of_getElem? (i := 1401) (by decide +kernel)⟩
theorem lw_p76 : lw_okq (⟨"WitnessBenchModel", "keepText", "(I)V"⟩, 47) := ⟨⟨by decide +kernel, by decide +kernel⟩, List.mem_of_getElem? (i := 1013) (by decide +kernel), List.mem_of_getElem? (i := 1404) (by decide +kernel), List.mem_of_getElem? (i := 1405) (by decide +kernel)⟩
theorem lw_p77 : lw_okq (⟨"WitnessBenchModel", "isText", "(IZ)Z"⟩, 47) := ⟨⟨by decide +kernel, by decide +kernel⟩, List.mem_of_getElem? (i := 1013) (by decide +kernel), List.mem_of_getElem? (i := 1416) (by decide +kernel), List.mem_of_getElem? (i := 1417) (by decide +kernel)⟩
theorem lw_p78 : lw_okq (⟨"WitnessBenchModel", "isMoved", "(IIII)Z"⟩, 47) := ⟨⟨by decide +kernel, by decide +kernel⟩, List.mem_of_getElem? (i := 1013) (by decide +kernel), List.mem_of_getElem? (i := 1428) (by decide +kernel), List.mem_of_getElem? (i := 1429) (by decide +kernel)⟩
theorem lw_p79 : lw_okq (⟨"WitnessBenchModel", "changesAt", "(I)I"⟩, 47) := ⟨⟨by decide +kernel, by decide +kernel⟩, List.mem_of_getElem? (i := 1013) (by decide +kernel), List.mem_of_getElem? (i := 1444) (by decide +kernel), List.mem_of_getElem? (i := 1445) (by decide +kernel)⟩
def lw_privs_5 : List (MethodName × Nat) := [(⟨"WitnessBenchModel", "isReadBelow", "(III)Z"⟩, 47), (⟨"WitnessBenchModel", "sayGroup", "(IIZ)V"⟩, 47), (⟨"WitnessBenchModel", "readAll", "(I)V"⟩, 47), (⟨"WitnessBenchModel", "next", "()V"⟩, 47), (⟨"WitnessBenchModel", "many", "(III)I"⟩, 47), (⟨"WitnessBenchModel", "isFrom", "(III)Z"⟩, 47), (⟨"WitnessBenchModel", "numberAbove", "(I)I"⟩, 47), (⟨"WitnessBenchModel", "pass", "(Z)V"⟩, 47), (⟨"WitnessBenchModel", "keepWord", "(I)V"⟩, 47), (⟨"WitnessBenchModel", "isLemma", "(I)Z"⟩, 47), (⟨"WitnessBenchModel", "groups", "(I)I"⟩, 47), (⟨"WitnessBenchModel", "siglaWith", "(I)I"⟩, 47), (⟨"WitnessBenchModel", "keepText", "(I)V"⟩, 47), (⟨"WitnessBenchModel", "isText", "(IZ)Z"⟩, 47), (⟨"WitnessBenchModel", "isMoved", "(IIII)Z"⟩, 47), (⟨"WitnessBenchModel", "changesAt", "(I)I"⟩, 47)]
theorem lw_r5 : ∀ q ∈ lw_privs_5, lw_okq q := List.forall_mem_cons.mpr ⟨lw_p64, List.forall_mem_cons.mpr ⟨lw_p65, List.forall_mem_cons.mpr ⟨lw_p66, List.forall_mem_cons.mpr ⟨lw_p67, List.forall_mem_cons.mpr ⟨lw_p68, List.forall_mem_cons.mpr ⟨lw_p69, List.forall_mem_cons.mpr ⟨lw_p70, List.forall_mem_cons.mpr ⟨lw_p71, List.forall_mem_cons.mpr ⟨lw_p72, List.forall_mem_cons.mpr ⟨lw_p73, List.forall_mem_cons.mpr ⟨lw_p74, List.forall_mem_cons.mpr ⟨lw_p75, List.forall_mem_cons.mpr ⟨lw_p76, List.forall_mem_cons.mpr ⟨lw_p77, List.forall_mem_cons.mpr ⟨lw_p78, List.forall_mem_cons.mpr ⟨lw_p79, fun _ h => absurd h List.not_mem_nil⟩⟩⟩⟩⟩⟩⟩⟩⟩⟩⟩⟩⟩⟩⟩⟩
theorem lw_p80 : lw_okq (⟨"WitnessBenchModel", "note", "(I)V"⟩, 47) := ⟨⟨by decide +kernel, by decide +kernel⟩, List.mem_of_getElem? (i := 1013) (by decide +kernel), List.mem_of_getElem? (i := 1448) (by decide +kernel), List.mem_of_getElem? (i := 1449) (by decide +kernel)⟩
theorem lw_p81 : lw_okq (⟨"WitnessBenchModel", "tried", "(I)I"⟩, 47) := ⟨⟨by decide +kernel, by decide +kernel⟩, List.mem_of_getElem? (i := 1013) (by decide +kernel), List.mem_of_getElem? (i := 1452) (by decide +kernel), List.mem_of_getElem? (i := 1453) (by decide +kernel)⟩
def lw_privs_6 : List (MethodName × Nat) := [(⟨"WitnessBenchModel", "note", "(I)V"⟩, 47), (⟨"WitnessBenchModel", "tried", "(I)I"⟩, 47)]
theorem lw_r6 : ∀ q ∈ lw_privs_6, lw_okq q := List.forall_mem_cons.mpr ⟨lw_p80, List.forall_mem_cons.mpr ⟨lw_p81, fun _ h => absurd h List.not_mem_nil⟩⟩
def lw_privs : List (MethodName × Nat) := lw_privs_1 ++ (lw_privs_2 ++ (lw_privs_3 ++ (lw_privs_4 ++ (lw_privs_5 ++ (lw_privs_6)))))
def lw_tbl : List Cond := k2_sels lw_privs ++ tables_1
theorem lw_privs_ok : ∀ q ∈ lw_privs, lw_okq q := by
  show ∀ q ∈ lw_privs_1 ++ (lw_privs_2 ++ (lw_privs_3 ++ (lw_privs_4 ++ (lw_privs_5 ++ (lw_privs_6))))), lw_okq q
  exact List.forall_mem_append.mpr ⟨lw_r1, List.forall_mem_append.mpr ⟨lw_r2, List.forall_mem_append.mpr ⟨lw_r3, List.forall_mem_append.mpr ⟨lw_r4, List.forall_mem_append.mpr ⟨lw_r5, lw_r6⟩⟩⟩⟩⟩
end
section
/-! the classes, their fields; the four exceptions without fields -/
def ev_Let : String := "WitnessBench$Letters"
def ev_host : String := "WitnessBench"
def ev_nc : Nat := 11
def ev_ciL : Nat := 0
def ev_fl (l : List (String × String × String × Bool)) : u_T := fun k => (l[k]?).getD ("", "", "", false)
def ev_q0 : vw_C := (ev_Let, ev_fl [("WitnessBench$Letters", "row", "[C", true), ("WitnessBench$Letters", "length", "I", false)], 2)
def ev_q1 : vw_C := ("WitnessBench$Rules", ev_fl [("WitnessBench$Rules", "lefts", "[LWitnessBench$Letters;", true), ("WitnessBench$Rules", "rights", "[LWitnessBench$Letters;", true), ("WitnessBench$Rules", "count", "I", false)], 3)
def ev_q2 : vw_C := ("WitnessBench$Words", ev_fl [("WitnessBench$Words", "spellings", "[LWitnessBench$Letters;", true), ("WitnessBench$Words", "forms", "[LWitnessBench$Letters;", true), ("WitnessBench$Words", "counts", "[I", true), ("WitnessBench$Words", "alikeMarks", "[I", true), ("WitnessBench$Words", "equalMarks", "[I", true), ("WitnessBench$Words", "equalFirsts", "[I", true), ("WitnessBench$Words", "equalSeconds", "[I", true), ("WitnessBench$Words", "equalityCount", "I", false), ("WitnessBench$Words", "editRow", "[I", true)], 9)
def ev_q3 : vw_C := ("WitnessBench$Table", ev_fl [("WitnessBench$Table", "cells", "[I", true), ("WitnessBench$Table", "choices", "[I", true), ("WitnessBench$Table", "placeCount", "I", false), ("WitnessBench$Table", "joined", "[I", true), ("WitnessBench$Table", "joinedCount", "I", false), ("WitnessBench$Table", "baseWitness", "I", false)], 6)
def ev_q4 : vw_C := ("WitnessBench$Joiner", ev_fl [("WitnessBench$Joiner", "costs", "[I", true), ("WitnessBench$Joiner", "steps", "[I", true), ("WitnessBench$Joiner", "path", "[I", true), ("WitnessBench$Joiner", "pathLength", "I", false), ("WitnessBench$Joiner", "oldPlaces", "I", false), ("WitnessBench$Joiner", "newWords", "I", false)], 6)
def ev_q5 : vw_C := ("WitnessBench$Sheet", ev_fl [("WitnessBench$Sheet", "row", "[C", true), ("WitnessBench$Sheet", "length", "I", false)], 2)
def ev_q6 : vw_C := ("WitnessBench$Reader", ev_fl [("WitnessBench$Reader", "builtForms", "[LWitnessBench$Letters;", true), ("WitnessBench$Reader", "builtFormCount", "I", false), ("WitnessBench$Reader", "readingPlaces", "[I", true), ("WitnessBench$Reader", "sought", "I", false), ("WitnessBench$Reader", "next", "I", false), ("WitnessBench$Reader", "place", "I", false), ("WitnessBench$Reader", "seenWitnesses", "I", false)], 7)
def ev_q7 : vw_C := ("WitnessBench$BlockFinder", ev_fl [("WitnessBench$BlockFinder", "fields", "[I", true), ("WitnessBench$BlockFinder", "blockCount", "I", false)], 2)
def ev_q8 : vw_C := ("WitnessBench$Family", ev_fl [("WitnessBench$Family", "parents", "[I", true), ("WitnessBench$Family", "readings", "[I", true), ("WitnessBench$Family", "costs", "[I", true)], 3)
def ev_q9 : vw_C := ("WitnessBench", ev_fl [("WitnessBench", "draft", "LWitnessBench$Letters;", true), ("WitnessBench", "draftForm", "LWitnessBench$Letters;", true), ("WitnessBench", "rules", "LWitnessBench$Rules;", true), ("WitnessBench", "words", "LWitnessBench$Words;", true), ("WitnessBench", "table", "LWitnessBench$Table;", true), ("WitnessBench", "joiner", "LWitnessBench$Joiner;", true), ("WitnessBench", "sheet", "LWitnessBench$Sheet;", true), ("WitnessBench", "reader", "LWitnessBench$Reader;", true), ("WitnessBench", "finds", "[I", true), ("WitnessBench", "findCount", "I", false), ("WitnessBench", "blockFinder", "LWitnessBench$BlockFinder;", true), ("WitnessBench", "family", "LWitnessBench$Family;", true)], 12)
def ev_q10 : vw_C := ("WitnessBenchModel", ev_fl [("WitnessBenchModel", "thrown", "I", false), ("WitnessBenchModel", "draft", "[I", true), ("WitnessBenchModel", "drafted", "I", false), ("WitnessBenchModel", "sizes", "[I", true), ("WitnessBenchModel", "letters", "[I", true), ("WitnessBenchModel", "lengths", "[I", true), ("WitnessBenchModel", "forms", "[I", true), ("WitnessBenchModel", "formLengths", "[I", true), ("WitnessBenchModel", "group", "[I", true), ("WitnessBenchModel", "rules", "I", false), ("WitnessBenchModel", "lefts", "[I", true), ("WitnessBenchModel", "leftLengths", "[I", true), ("WitnessBenchModel", "rights", "[I", true), ("WitnessBenchModel", "rightLengths", "[I", true), ("WitnessBenchModel", "pairs", "I", false), ("WitnessBenchModel", "ones", "[I", true), ("WitnessBenchModel", "others", "[I", true), ("WitnessBenchModel", "text", "[I", true), ("WitnessBenchModel", "textLength", "I", false), ("WitnessBenchModel", "joined", "I", false), ("WitnessBenchModel", "order", "[I", true), ("WitnessBenchModel", "base", "I", false), ("WitnessBenchModel", "places", "I", false), ("WitnessBenchModel", "words", "[I", true), ("WitnessBenchModel", "choices", "[I", true), ("WitnessBenchModel", "parents", "[I", true), ("WitnessBenchModel", "costs", "[I", true), ("WitnessBenchModel", "edits", "[I", true), ("WitnessBenchModel", "outLength", "I", false), ("WitnessBenchModel", "out", "[I", true), ("WitnessBenchModel", "at", "I", false), ("WitnessBenchModel", "start", "I", false), ("WitnessBenchModel", "token", "I", false), ("WitnessBenchModel", "wrong", "Z", false), ("WitnessBenchModel", "built", "I", false), ("WitnessBenchModel", "builtLengths", "[I", true), ("WitnessBenchModel", "builtLetters", "[I", true), ("WitnessBenchModel", "fresh", "I", false), ("WitnessBenchModel", "freshLengths", "[I", true), ("WitnessBenchModel", "freshLetters", "[I", true), ("WitnessBenchModel", "finds", "I", false), ("WitnessBenchModel", "found", "[I", true), ("WitnessBenchModel", "blocks", "I", false), ("WitnessBenchModel", "block", "[I", true), ("WitnessBenchModel", "reads", "[I", true), ("WitnessBenchModel", "readings", "[I", true), ("WitnessBenchModel", "different", "I", false)], 47)
def ev_q11 : vw_C := ("java/lang/IllegalArgumentException", ev_fl [], 0)
def ev_q12 : vw_C := ("java/lang/IllegalStateException", ev_fl [], 0)
def ev_q13 : vw_C := ("java/lang/IndexOutOfBoundsException", ev_fl [], 0)
def ev_q14 : vw_C := ("java/lang/UnsupportedOperationException", ev_fl [], 0)
def ev_cl : List vw_C := [ev_q0, ev_q1, ev_q2, ev_q3, ev_q4, ev_q5, ev_q6, ev_q7, ev_q8, ev_q9, ev_q10, ev_q11, ev_q12, ev_q13, ev_q14]
theorem ev_clL : ev_cl[ev_ciL]? = some ev_q0 := rfl
def ev_sz (c : Nat) : Nat := if c < ev_nc then ((ev_cl[c]?).map (fun q => q.2.2)).getD 0 else 6
/-- the names of the classes that the law catches, by their entries; the texts, by theirs -/
def ev_cn (k : Nat) : String := (([(13, "java/lang/IllegalArgumentException"), (15, "java/lang/IllegalStateException"), (25, "java/lang/IndexOutOfBoundsException"), (27, "java/lang/UnsupportedOperationException")] : List (Nat × String)).lookup k).getD ""
def ev_tx (k : Nat) : String := (([(83, "not a letter a .. z"), (94, "the draft is full"), (101, "the draft has not so many letters"), (113, "the witness is joined"), (115, "the draft is too long for a word"), (123, "the witness is full"), (129, "the draft is no such rule"), (133, "no more rules"), (153, "a gap equals no word"), (158, "no more equalities"), (170, "the witness is joined, or has no words"), (179, "too many places"), (188, "no witness is joined"), (260, "not so many were found"), (263, "the witnesses are the same"), (270, "no such block"), (278, "a witness above itself"), (286, "no such witness"), (288, "no such word"), (290, "no such place"), (292, "the witness is not joined"), (294, "no such character")] : List (Nat × String)).lookup k).getD ""
def ev_nots : List Cond := [.not (.castable "java/lang/IllegalArgumentException" "java/lang/IllegalStateException"), .not (.castable "java/lang/IllegalArgumentException" "java/lang/IndexOutOfBoundsException"), .not (.castable "java/lang/IllegalArgumentException" "java/lang/UnsupportedOperationException"), .not (.castable "java/lang/IllegalStateException" "java/lang/IllegalArgumentException"), .not (.castable "java/lang/IllegalStateException" "java/lang/IndexOutOfBoundsException"), .not (.castable "java/lang/IllegalStateException" "java/lang/UnsupportedOperationException"), .not (.castable "java/lang/IndexOutOfBoundsException" "java/lang/IllegalArgumentException"), .not (.castable "java/lang/IndexOutOfBoundsException" "java/lang/IllegalStateException"), .not (.castable "java/lang/IndexOutOfBoundsException" "java/lang/UnsupportedOperationException"), .not (.castable "java/lang/UnsupportedOperationException" "java/lang/IllegalArgumentException"), .not (.castable "java/lang/UnsupportedOperationException" "java/lang/IllegalStateException"), .not (.castable "java/lang/UnsupportedOperationException" "java/lang/IndexOutOfBoundsException")]
end
section
/-! the small world: a heap that is a list; its k-th cell lies k behind the heap that the law was begun with -/
section EvWorld
abbrev ev_E : Type := (Nat × vp_A) ⊕ (Nat × List Value)
abbrev ev_H : Type := List ev_E
/-- launch, the law's first state, its arguments, the classes' numbers, the array classes' numbers, the script's address, how many cells and slots there may be in all, the script's length and numbers -/
abbrev ev_W : Type := Launch × State × Array Value × va_G × (Nat → ClassId) × Nat × Nat × Nat × Nat × (Nat → Int32)
/-- what a call comes to: a value or nothing, or the place of what it threw -/
abbrev ev_R : Type := Option Value ⊕ Nat
def ev_base (w : ev_W) : Nat := w.2.1.heap.size
def ev_A (w : ev_W) : Nat → Prop := fun q => ev_base w ≤ q
def ev_v (w : ev_W) (v : Value) : Value := match v with
  | .ref k => .ref (ev_base w + k)
  | .retAddr _ => .ref w.2.2.2.2.2.1
  | .int x => .int x
  | .long x => .long x
  | .float x => .float x
  | .double x => .double x
  | .null => .null
theorem ev_v_cat (w : ev_W) (v : Value) : (ev_v w v).category = v.category := by cases v <;> rfl
def ev_arr (w : ev_W) (x : vp_A) : vp_A := (x.1, match x.2 with
  | .inl f => .inl f
  | .inr (.inl f) => .inr (.inl f)
  | .inr (.inr (.inl f)) => .inr (.inr (.inl f))
  | .inr (.inr (.inr (.inl f))) => .inr (.inr (.inr (.inl f)))
  | .inr (.inr (.inr (.inr f))) => .inr (.inr (.inr (.inr (fun j => (f j).map (fun k => ev_base w + k))))))
def ev_e (w : ev_W) (x : ev_E) : va_E := match x with
  | .inl (k, a) => .inl (w.2.2.2.2.1 k, ev_arr w a)
  | .inr (c, fs) => .inr (c, fs.map (ev_v w))
def ev_ws (w : ev_W) (h : ev_H) : va_W := h.mapIdx (fun k x => (ev_base w + k, ev_e w x))
theorem ev_ws_len (w : ev_W) (h : ev_H) : (ev_ws w h).length = h.length := by simp [ev_ws]
theorem ev_ws_get {w : ev_W} {h : ev_H} {k : Nat} {x : ev_E} (hk : h[k]? = some x) : (ev_ws w h)[k]? = some (ev_base w + k, ev_e w x) := by
  simp [ev_ws, hk]
theorem ev_ws_at {w : ev_W} {h : ev_H} {k : Nat} {q : Nat × va_E} (hk : (ev_ws w h)[k]? = some q) : ∃ x, h[k]? = some x ∧ q = (ev_base w + k, ev_e w x) := by
  simp only [ev_ws, List.getElem?_mapIdx] at hk
  cases hx : h[k]? with
  | none => rw [hx] at hk; cases hk
  | some x => rw [hx] at hk; exact ⟨x, rfl, (Option.some.inj hk).symm⟩
theorem ev_ws_set (w : ev_W) (h : ev_H) (k : Nat) (x : ev_E) : ev_ws w (h.set k x) = (ev_ws w h).set k (ev_base w + k, ev_e w x) := by
  apply List.ext_getElem?
  intro i
  simp only [ev_ws, List.getElem?_mapIdx, List.getElem?_set, List.length_mapIdx]
  by_cases hik : k = i
  · subst hik
    by_cases hl : k < h.length
    · simp [hl]
    · simp [hl]
  · simp [hik]
theorem ev_ws_app (w : ev_W) (h : ev_H) (x : ev_E) : ev_ws w (h ++ [x]) = ev_ws w h ++ [(ev_base w + h.length, ev_e w x)] := by
  simp [ev_ws, List.mapIdx_append]
theorem ev_ws_D (w : ev_W) (h : ev_H) : va_D (ev_A w) (ev_ws w h) := by
  refine ⟨fun i j p q hi hj hpq => ?_, fun k q hk => ?_⟩
  · obtain ⟨x, -, rfl⟩ := ev_ws_at hi
    obtain ⟨y, -, rfl⟩ := ev_ws_at hj
    have h1 : ev_base w + i = ev_base w + j := hpq
    omega
  · obtain ⟨x, -, rfl⟩ := ev_ws_at hk
    show ev_base w ≤ ev_base w + k
    omega
/-- how many slots the cells have -/
def ev_c1 (x : ev_E) : Nat := match x with
  | .inl (_, a) => a.1
  | .inr (c, _) => ev_sz c
def ev_cost (h : ev_H) : Nat := (h.map ev_c1).sum
theorem ev_cost_app (h : ev_H) (x : ev_E) : ev_cost (h ++ [x]) = ev_cost h + ev_c1 x := by simp [ev_cost]
theorem ev_cost_set {h : ev_H} {k : Nat} {x y : ev_E} (hk : h[k]? = some x) (hc : ev_c1 y = ev_c1 x) : ev_cost (h.set k y) = ev_cost h := by
  induction h generalizing k with
  | nil => simp at hk
  | cons a t ih =>
    cases k with
    | zero =>
      simp only [List.getElem?_cons_zero, Option.some.injEq] at hk
      subst hk
      simp [ev_cost, hc]
    | succ k =>
      simp only [List.getElem?_cons_succ] at hk
      have h1 := ih hk
      simp only [ev_cost] at h1
      simp only [ev_cost, List.set_cons_succ, List.map_cons, List.sum_cons, h1]
/-- the heap H holds the small heap h, and nothing else is new -/
def ev_rep (w : ev_W) (h : ev_H) (H : Heap) : Prop :=
  va_P w.2.2.2.1 ev_cl (ev_ws w h) H ∧ H.size = ev_base w + h.length ∧ ∀ q : Nat, q < ev_base w → H[q]? = w.2.1.heap[q]?
/-- locals: what is known of them; all of one slot -/
def ev_lv (w : ev_W) (L : List (Option Value)) : List (Nat × Value) := (List.range L.length).filterMap (fun i => (L[i]?.join).map (fun v => (i, ev_v w v)))
theorem ev_lv_mem {w : ev_W} {L : List (Option Value)} {i : Nat} {v : Value} (h : L[i]? = some (some v)) : (i, ev_v w v) ∈ ev_lv w L := by
  refine List.mem_filterMap.mpr ⟨i, List.mem_range.mpr (List.getElem?_eq_some_iff.mp h).1, ?_⟩
  simp [h]
theorem ev_lv_of {w : ev_W} {L : List (Option Value)} {q : Nat × Value} (h : q ∈ ev_lv w L) : ∃ v, L[q.1]? = some (some v) ∧ q.2 = ev_v w v := by
  obtain ⟨i, -, hi⟩ := List.mem_filterMap.mp h
  cases hL : L[i]? with
  | none => simp [hL] at hi
  | some o =>
    cases o with
    | none => simp [hL] at hi
    | some v =>
      simp only [hL, Option.join_some, Option.map_some, Option.some.injEq] at hi
      subst hi
      exact ⟨v, hL, rfl⟩
def ev_ls (w : ev_W) (nL : Nat) (L : List (Option Value)) (ls : Array Slot) : Prop :=
  lv_has ls nL (ev_lv w L) ∧ ∀ (i : Nat) (v : Value), L[i]? = some (some v) → v.category = 1
theorem ev_ls.get {w : ev_W} {nL : Nat} {L : List (Option Value)} {ls : Array Slot} (h : ev_ls w nL L ls) {i : Nat} {v : Value} (hi : L[i]? = some (some v)) : ls[i]? = some (.val (ev_v w v)) :=
  h.1.2.2 _ (ev_lv_mem hi)
theorem ev_ls.put {w : ev_W} {nL : Nat} {L : List (Option Value)} {ls ls' : Array Slot} (h : ev_ls w nL L ls) {i : Nat} {v : Value} (hc : v.category = 1)
    (h' : lv_has ls' nL ((i, ev_v w v) :: (ev_lv w L).filter (fun q => !(q.1 == i) && !(q.1 + 1 == i && q.2.category == 2)))) : ev_ls w nL (L.set i (some v)) ls' := by
  have key : ∀ (j : Nat) (u : Value), (L.set i (some v))[j]? = some (some u) → (j = i ∧ u = v) ∨ (j ≠ i ∧ L[j]? = some (some u)) := by
    intro j u hj
    by_cases hji : i = j
    · subst hji
      rw [List.getElem?_set_self'] at hj
      cases hL : L[i]? with
      | none => rw [hL] at hj; cases hj
      | some o => rw [hL] at hj; simp at hj; exact Or.inl ⟨rfl, hj.symm⟩
    · rw [List.getElem?_set_ne hji] at hj
      exact Or.inr ⟨fun e => hji e.symm, hj⟩
  refine ⟨⟨h'.1, h'.2.1, fun q hq => ?_⟩, fun j u hj => ?_⟩
  · obtain ⟨u, hu, hq2⟩ := ev_lv_of hq
    obtain ⟨qi, qv⟩ := q
    dsimp only at hu hq2
    subst hq2
    rcases key qi u hu with ⟨rfl, rfl⟩ | ⟨hne, hL⟩
    · exact h'.2.2 _ List.mem_cons_self
    · refine h'.2.2 _ (List.mem_cons_of_mem _ (List.mem_filter.mpr ⟨ev_lv_mem hL, ?_⟩))
      have h1 : u.category = 1 := h.2 _ _ hL
      have h2 : (ev_v w u).category = 1 := by rw [ev_v_cat]; exact h1
      simp [hne, h2]
  · rcases key j u hj with ⟨rfl, rfl⟩ | ⟨hne, hL⟩
    · exact hc
    · exact h.2 _ _ hL
end EvWorld
end
section
/-! the judgement: a frame of a method over a small heap comes to its end with Q; a row an instruction -/
section EvG
/-- name, bytes, locals, return type, handlers, and the listing: place, instruction, two numbers of its link -/
abbrev ev_M : Type := MethodName × ByteArray × Nat × Option FieldType × List (Nat × Nat × Nat × Nat) × List (Nat × Instr × Nat × Nat)
def ev_len (i : Instr) (a : Nat) : Nat := match i with
  | .bipush _ => 2 | .iload _ => 2 | .istore _ => 2 | .aload _ => 2 | .astore _ => 2 | .newarray _ => 2 | .ldc _ => 2
  | .ldc_w _ => 3 | .sipush _ => 3 | .iinc _ _ => 3 | .ifCond _ _ => 3 | .if_icmp _ _ => 3 | .goto _ => 3 | .getfield _ => 3 | .putfield _ => 3
  | .invokevirtual _ => 3 | .invokespecial _ => 3 | .invokestatic _ => 3 | .new _ => 3 | .anewarray _ => 3
  | .tableswitch _ _ _ _ => a
  | _ => 1
def ev_ins (M : ev_M) (pc : Nat) : Option (Instr × Nat × Nat) := (M.2.2.2.2.2.find? (fun q => q.1 == pc)).map (fun q => q.2)
def ev_dec (M : ev_M) : Bool := M.2.2.2.2.2.all (fun q => decide (decode M.2.1 q.1 = .ok (q.2.1, ev_len q.2.1 q.2.2.1)))
theorem ev_ins_mem {M : ev_M} {pc : Nat} {x : Instr × Nat × Nat} (hi : ev_ins M pc = some x) : (pc, x) ∈ M.2.2.2.2.2 := by
  unfold ev_ins at hi
  cases hf : M.2.2.2.2.2.find? (fun q => q.1 == pc) with
  | none => rw [hf] at hi; cases hi
  | some q =>
    rw [hf] at hi
    have h1 : q.1 = pc := by simpa using List.find?_some hf
    have h2 : q.2 = x := Option.some.inj hi
    have h3 : q = (pc, x) := by rw [← h1, ← h2]
    rw [← h3]
    exact List.mem_of_find?_eq_some hf
theorem ev_dec_at {M : ev_M} {pc : Nat} {i : Instr} {a b : Nat} (hM : ev_dec M = true) (hi : ev_ins M pc = some (i, a, b)) : decode M.2.1 pc = .ok (i, ev_len i a) := by
  have h := List.all_eq_true.mp hM _ (ev_ins_mem hi)
  exact of_decide_eq_true h
/-- what stays the same while a method runs -/
def ev_fx (w : ev_W) (M : ev_M) (p : Program) (s : State) (m : MethodId) (meth : Method) (c : Code) : Prop :=
  p.tables.exec = Jvm.exec ∧ c.code = M.2.1 ∧ c.maxLocals = M.2.2.1 ∧ meth.sig.returnType = M.2.2.2.1 ∧ meth.locks = false ∧ s.vm.findClass M.1.cls = some m.cls ∧ meth.name = M.1.name ∧
  c.exceptionTable.toList.map (fun h => (h.startPc, h.endPc, h.handlerPc, h.catchType)) = M.2.2.2.2.1 ∧ w.2.1.WarmedH s.vm
/-- the room of a method that needs d.1 frames and d.2 words, begun with the small heap h0 -/
def ev_fit (w : ev_W) (d : Nat × Nat) (h0 : ev_H) (R : Room) : Prop := d.1 ≤ R.frames ∧ d.2 ≤ R.locals ∧ w.2.2.2.2.2.2.1 ≤ h0.length + R.cells ∧ w.2.2.2.2.2.2.2.1 ≤ ev_cost h0 + R.slots
def ev_out (w : ev_W) (r : ev_R) (h' : ev_H) (o : Outcome) : Prop := match r with
  | .inl v => o = .returned (v.map (ev_v w))
  | .inr k => o = .threw (ev_base w + k) ∧ ∃ c, h'[k]? = some (.inr (c, []))
def ev_end (w : ev_W) (h0 : ev_H) (Q : ev_R → ev_H → Prop) (s : State) (o : Outcome) (t : State) : Prop :=
  ∃ (r : ev_R) (h' : ev_H), Q r h' ∧ ev_out w r h' o ∧ ev_rep w h' t.heap ∧ h0.length ≤ h'.length ∧ ev_cost h0 ≤ ev_cost h' ∧ h'.length ≤ w.2.2.2.2.2.2.1 ∧ ev_cost h' ≤ w.2.2.2.2.2.2.2.1 ∧ s.WarmedH t.vm ∧
    ∃ L : List Loc, s.sameButNew ({ t with vm := s.vm } : State) L (h'.length - h0.length) (ev_cost h' - ev_cost h0) ∧ ∀ z ∈ L, ev_A w z.base
def ev_PQ (w : ev_W) (h0 : ev_H) (Q : ev_R → ev_H → Prop) (below : List Frame) (s : State) : State → Prop := fun t =>
  ∃ o, t.status = .running ∧ Ended t below o ∧ ev_end w h0 Q s o t
def ev_cx (w : ev_W) (M : ev_M) (d : Nat × Nat) (h0 : ev_H) (p : Program) (R : Room) (s : State) (m : MethodId) (meth : Method) (c : Code) (h : ev_H) (H : Heap) (locs : List Loc) (L : List (Option Value)) (ls : Array Slot) : Prop :=
  ev_fx w M p s m meth c ∧ ev_rep w h0 s.heap ∧ ev_fit w d h0 R ∧ va_P w.2.2.2.1 ev_cl (ev_ws w h) H ∧ va_S (ev_A w) s.heap H locs ∧ ev_ls w M.2.2.1 L ls ∧ h0.length ≤ h.length ∧ ev_cost h0 ≤ ev_cost h ∧ h.length ≤ w.2.2.2.2.2.2.1 ∧ ev_cost h ≤ w.2.2.2.2.2.2.2.1
def ev_G (w : ev_W) (M : ev_M) (d : Nat × Nat) (h0 : ev_H) (Q : ev_R → ev_H → Prop) (pc : Nat) (L : List (Option Value)) (st : List Value) (h : ev_H) : Prop :=
  ∀ (p : Program) (e : Env) (R : Room) (s : State) (m : MethodId) (args : Array Value) (below : List Frame) (meth : Method) (c : Code) (H : Heap) (locs : List Loc) (ls : Array Slot),
    ev_cx w M d h0 p R s m meth c h H locs L ls →
    W p w.1 e R s m args below meth c H locs (h.length - h0.length) (ev_cost h - ev_cost h0) (ev_PQ w h0 Q below s) (F0 m pc ls (st.map (ev_v w)))
variable {w : ev_W} {M : ev_M} {d : Nat × Nat} {h0 : ev_H} {Q : ev_R → ev_H → Prop} {pc : Nat} {L : List (Option Value)} {st : List Value} {h : ev_H} {a b : Nat}
theorem ev_cx.stored {p : Program} {R : Room} {s : State} {m : MethodId} {meth : Method} {c : Code} {H : Heap} {locs : List Loc} {ls ls' : Array Slot} (C : ev_cx w M d h0 p R s m meth c h H locs L ls) {i : Nat} {v : Value} (hc : v.category = 1)
    (h' : lv_has ls' M.2.2.1 ((i, ev_v w v) :: (ev_lv w L).filter (fun q => !(q.1 == i) && !(q.1 + 1 == i && q.2.category == 2)))) : ev_cx w M d h0 p R s m meth c h H locs (L.set i (some v)) ls' := by
  obtain ⟨c1, c2, c3, c4, c5, c6, c7⟩ := C
  exact ⟨c1, c2, c3, c4, c5, c6.put hc h', c7⟩
theorem ev_iconst (hM : ev_dec M = true) {n : Int} (hi : ev_ins M pc = some (.iconst n, a, b)) (k : ev_G w M d h0 Q (pc + 1) L (.int (Int32.ofInt n) :: st) h) : ev_G w M d h0 Q pc L st h := by
  intro p e R s m args below meth c H locs ls C
  exact lv_iconst C.1.1 C.1.2.1 (ev_dec_at hM hi) rfl (k p e R s m args below meth c H locs ls C)
theorem ev_bipush (hM : ev_dec M = true) {n : Int} (hi : ev_ins M pc = some (.bipush n, a, b)) (k : ev_G w M d h0 Q (pc + 2) L (.int (Int8.ofInt n).toInt32 :: st) h) : ev_G w M d h0 Q pc L st h := by
  intro p e R s m args below meth c H locs ls C
  exact lv_bipush C.1.1 C.1.2.1 (ev_dec_at hM hi) rfl (k p e R s m args below meth c H locs ls C)
theorem ev_sipush (hM : ev_dec M = true) {n : Int} (hi : ev_ins M pc = some (.sipush n, a, b)) (k : ev_G w M d h0 Q (pc + 3) L (.int (Int16.ofInt n).toInt32 :: st) h) : ev_G w M d h0 Q pc L st h := by
  intro p e R s m args below meth c H locs ls C
  exact lv_sipush C.1.1 C.1.2.1 (ev_dec_at hM hi) rfl (k p e R s m args below meth c H locs ls C)
theorem ev_iload_n (hM : ev_dec M = true) {i : Fin 4} {x : Int32} (hi : ev_ins M pc = some (.iload_n i, a, b)) (hl : L[(i : Nat)]? = some (some (.int x))) (k : ev_G w M d h0 Q (pc + 1) L (.int x :: st) h) : ev_G w M d h0 Q pc L st h := by
  intro p e R s m args below meth c H locs ls C
  exact lv_iload_n C.1.1 C.1.2.1 (ev_dec_at hM hi) rfl (C.2.2.2.2.2.1.get hl) (k p e R s m args below meth c H locs ls C)
theorem ev_iload (hM : ev_dec M = true) {i : Nat} {x : Int32} (hi : ev_ins M pc = some (.iload i, a, b)) (hl : L[i]? = some (some (.int x))) (k : ev_G w M d h0 Q (pc + 2) L (.int x :: st) h) : ev_G w M d h0 Q pc L st h := by
  intro p e R s m args below meth c H locs ls C
  exact lv_iload C.1.1 C.1.2.1 (ev_dec_at hM hi) (C.2.2.2.2.2.1.get hl) (k p e R s m args below meth c H locs ls C)
theorem ev_aload_n (hM : ev_dec M = true) {i : Fin 4} {x : Nat} (hi : ev_ins M pc = some (.aload_n i, a, b)) (hl : L[(i : Nat)]? = some (some (.ref x))) (k : ev_G w M d h0 Q (pc + 1) L (.ref x :: st) h) : ev_G w M d h0 Q pc L st h := by
  intro p e R s m args below meth c H locs ls C
  exact lv_aload_n C.1.1 C.1.2.1 (ev_dec_at hM hi) rfl (C.2.2.2.2.2.1.get hl) (k p e R s m args below meth c H locs ls C)
theorem ev_aload (hM : ev_dec M = true) {i : Nat} {x : Nat} (hi : ev_ins M pc = some (.aload i, a, b)) (hl : L[i]? = some (some (.ref x))) (k : ev_G w M d h0 Q (pc + 2) L (.ref x :: st) h) : ev_G w M d h0 Q pc L st h := by
  intro p e R s m args below meth c H locs ls C
  exact lv_aload C.1.1 C.1.2.1 (ev_dec_at hM hi) (C.2.2.2.2.2.1.get hl) (k p e R s m args below meth c H locs ls C)
theorem ev_aload_nS (hM : ev_dec M = true) {i : Fin 4} {x : Nat} (hi : ev_ins M pc = some (.aload_n i, a, b)) (hl : L[(i : Nat)]? = some (some (.retAddr x))) (k : ev_G w M d h0 Q (pc + 1) L (.retAddr x :: st) h) : ev_G w M d h0 Q pc L st h := by
  intro p e R s m args below meth c H locs ls C
  exact lv_aload_n C.1.1 C.1.2.1 (ev_dec_at hM hi) rfl (C.2.2.2.2.2.1.get hl) (k p e R s m args below meth c H locs ls C)
theorem ev_aloadS (hM : ev_dec M = true) {i : Nat} {x : Nat} (hi : ev_ins M pc = some (.aload i, a, b)) (hl : L[i]? = some (some (.retAddr x))) (k : ev_G w M d h0 Q (pc + 2) L (.retAddr x :: st) h) : ev_G w M d h0 Q pc L st h := by
  intro p e R s m args below meth c H locs ls C
  exact lv_aload C.1.1 C.1.2.1 (ev_dec_at hM hi) (C.2.2.2.2.2.1.get hl) (k p e R s m args below meth c H locs ls C)
theorem ev_istore_n (hM : ev_dec M = true) {i : Fin 4} {x : Int32} (hi : ev_ins M pc = some (.istore_n i, a, b)) (hn : (i : Nat) < M.2.2.1) (k : ev_G w M d h0 Q (pc + 1) (L.set (i : Nat) (some (.int x))) st h) : ev_G w M d h0 Q pc L (.int x :: st) h := by
  intro p e R s m args below meth c H locs ls C
  exact lv_istore_n C.1.1 C.1.2.1 (ev_dec_at hM hi) rfl C.2.2.2.2.2.1.1 hn rfl (fun ls' h' => k p e R s m args below meth c H locs ls' (C.stored (v := .int x) rfl h'))
theorem ev_istore (hM : ev_dec M = true) {i : Nat} {x : Int32} (hi : ev_ins M pc = some (.istore i, a, b)) (hn : i < M.2.2.1) (k : ev_G w M d h0 Q (pc + 2) (L.set i (some (.int x))) st h) : ev_G w M d h0 Q pc L (.int x :: st) h := by
  intro p e R s m args below meth c H locs ls C
  exact lv_istore C.1.1 C.1.2.1 (ev_dec_at hM hi) C.2.2.2.2.2.1.1 hn rfl (fun ls' h' => k p e R s m args below meth c H locs ls' (C.stored (v := .int x) rfl h'))
theorem ev_astore_n (hM : ev_dec M = true) {i : Fin 4} {x : Nat} (hi : ev_ins M pc = some (.astore_n i, a, b)) (hn : (i : Nat) < M.2.2.1) (k : ev_G w M d h0 Q (pc + 1) (L.set (i : Nat) (some (.ref x))) st h) : ev_G w M d h0 Q pc L (.ref x :: st) h := by
  intro p e R s m args below meth c H locs ls C
  exact lv_astore_n C.1.1 C.1.2.1 (ev_dec_at hM hi) rfl C.2.2.2.2.2.1.1 hn rfl (fun ls' h' => k p e R s m args below meth c H locs ls' (C.stored (v := .ref x) rfl h'))
theorem ev_astore (hM : ev_dec M = true) {i : Nat} {x : Nat} (hi : ev_ins M pc = some (.astore i, a, b)) (hn : i < M.2.2.1) (k : ev_G w M d h0 Q (pc + 2) (L.set i (some (.ref x))) st h) : ev_G w M d h0 Q pc L (.ref x :: st) h := by
  intro p e R s m args below meth c H locs ls C
  exact lv_astore C.1.1 C.1.2.1 (ev_dec_at hM hi) C.2.2.2.2.2.1.1 hn rfl (fun ls' h' => k p e R s m args below meth c H locs ls' (C.stored (v := .ref x) rfl h'))
theorem ev_astore_nS (hM : ev_dec M = true) {i : Fin 4} {x : Nat} (hi : ev_ins M pc = some (.astore_n i, a, b)) (hn : (i : Nat) < M.2.2.1) (k : ev_G w M d h0 Q (pc + 1) (L.set (i : Nat) (some (.retAddr x))) st h) : ev_G w M d h0 Q pc L (.retAddr x :: st) h := by
  intro p e R s m args below meth c H locs ls C
  exact lv_astore_n C.1.1 C.1.2.1 (ev_dec_at hM hi) rfl C.2.2.2.2.2.1.1 hn rfl (fun ls' h' => k p e R s m args below meth c H locs ls' (C.stored (v := .retAddr x) rfl h'))
theorem ev_astoreS (hM : ev_dec M = true) {i : Nat} {x : Nat} (hi : ev_ins M pc = some (.astore i, a, b)) (hn : i < M.2.2.1) (k : ev_G w M d h0 Q (pc + 2) (L.set i (some (.retAddr x))) st h) : ev_G w M d h0 Q pc L (.retAddr x :: st) h := by
  intro p e R s m args below meth c H locs ls C
  exact lv_astore C.1.1 C.1.2.1 (ev_dec_at hM hi) C.2.2.2.2.2.1.1 hn rfl (fun ls' h' => k p e R s m args below meth c H locs ls' (C.stored (v := .retAddr x) rfl h'))
theorem ev_iinc (hM : ev_dec M = true) {i : Nat} {n : Int} {x : Int32} (hi : ev_ins M pc = some (.iinc i n, a, b)) (hl : L[i]? = some (some (.int x))) (hn : i < M.2.2.1) (k : ev_G w M d h0 Q (pc + 3) (L.set i (some (.int (x + Int32.ofInt n)))) st h) : ev_G w M d h0 Q pc L st h := by
  intro p e R s m args below meth c H locs ls C
  obtain ⟨j, hj⟩ := List.getElem?_of_mem (ev_lv_mem (w := w) hl)
  exact lv_iinc (k := j) (x := x) C.1.1 C.1.2.1 (ev_dec_at hM hi) C.2.2.2.2.2.1.1 hj rfl hn rfl (fun ls' h' => k p e R s m args below meth c H locs ls' (C.stored (v := .int (x + Int32.ofInt n)) rfl h'))
theorem ev_iadd (hM : ev_dec M = true) {x y : Int32} (hi : ev_ins M pc = some (.iadd, a, b)) (k : ev_G w M d h0 Q (pc + 1) L (.int (x + y) :: st) h) : ev_G w M d h0 Q pc L (.int y :: .int x :: st) h := by
  intro p e R s m args below meth c H locs ls C
  exact lv_iadd C.1.1 C.1.2.1 (ev_dec_at hM hi) (k p e R s m args below meth c H locs ls C)
theorem ev_isub (hM : ev_dec M = true) {x y : Int32} (hi : ev_ins M pc = some (.isub, a, b)) (k : ev_G w M d h0 Q (pc + 1) L (.int (x - y) :: st) h) : ev_G w M d h0 Q pc L (.int y :: .int x :: st) h := by
  intro p e R s m args below meth c H locs ls C
  exact lv_isub C.1.1 C.1.2.1 (ev_dec_at hM hi) (k p e R s m args below meth c H locs ls C)
theorem ev_imul (hM : ev_dec M = true) {x y : Int32} (hi : ev_ins M pc = some (.imul, a, b)) (k : ev_G w M d h0 Q (pc + 1) L (.int (x * y) :: st) h) : ev_G w M d h0 Q pc L (.int y :: .int x :: st) h := by
  intro p e R s m args below meth c H locs ls C
  exact lv_imul C.1.1 C.1.2.1 (ev_dec_at hM hi) (k p e R s m args below meth c H locs ls C)
theorem ev_iand (hM : ev_dec M = true) {x y : Int32} (hi : ev_ins M pc = some (.iand, a, b)) (k : ev_G w M d h0 Q (pc + 1) L (.int (x &&& y) :: st) h) : ev_G w M d h0 Q pc L (.int y :: .int x :: st) h := by
  intro p e R s m args below meth c H locs ls C
  exact lv_iand C.1.1 C.1.2.1 (ev_dec_at hM hi) (k p e R s m args below meth c H locs ls C)
theorem ev_ior (hM : ev_dec M = true) {x y : Int32} (hi : ev_ins M pc = some (.ior, a, b)) (k : ev_G w M d h0 Q (pc + 1) L (.int (x ||| y) :: st) h) : ev_G w M d h0 Q pc L (.int y :: .int x :: st) h := by
  intro p e R s m args below meth c H locs ls C
  exact lv_ior C.1.1 C.1.2.1 (ev_dec_at hM hi) (k p e R s m args below meth c H locs ls C)
theorem ev_ishl (hM : ev_dec M = true) {x y : Int32} (hi : ev_ins M pc = some (.ishl, a, b)) (k : ev_G w M d h0 Q (pc + 1) L (.int (x <<< (y &&& 31)) :: st) h) : ev_G w M d h0 Q pc L (.int y :: .int x :: st) h := by
  intro p e R s m args below meth c H locs ls C
  exact lv_ishl C.1.1 C.1.2.1 (ev_dec_at hM hi) (k p e R s m args below meth c H locs ls C)
theorem ev_ishr (hM : ev_dec M = true) {x y : Int32} (hi : ev_ins M pc = some (.ishr, a, b)) (k : ev_G w M d h0 Q (pc + 1) L (.int (x >>> (y &&& 31)) :: st) h) : ev_G w M d h0 Q pc L (.int y :: .int x :: st) h := by
  intro p e R s m args below meth c H locs ls C
  exact lv_ishr C.1.1 C.1.2.1 (ev_dec_at hM hi) (k p e R s m args below meth c H locs ls C)
theorem ev_idiv (hM : ev_dec M = true) {x y : Int32} (hi : ev_ins M pc = some (.idiv, a, b)) (hne : ¬ y = 0) (k : ev_G w M d h0 Q (pc + 1) L (.int (x / y) :: st) h) : ev_G w M d h0 Q pc L (.int y :: .int x :: st) h := by
  intro p e R s m args below meth c H locs ls C
  exact lv_idiv C.1.1 C.1.2.1 (ev_dec_at hM hi) hne (k p e R s m args below meth c H locs ls C)
theorem ev_irem (hM : ev_dec M = true) {x y : Int32} (hi : ev_ins M pc = some (.irem, a, b)) (hne : ¬ y = 0) (k : ev_G w M d h0 Q (pc + 1) L (.int (x - x / y * y) :: st) h) : ev_G w M d h0 Q pc L (.int y :: .int x :: st) h := by
  intro p e R s m args below meth c H locs ls C
  exact lv_irem C.1.1 C.1.2.1 (ev_dec_at hM hi) hne (k p e R s m args below meth c H locs ls C)
theorem ev_ineg (hM : ev_dec M = true) {x : Int32} (hi : ev_ins M pc = some (.ineg, a, b)) (k : ev_G w M d h0 Q (pc + 1) L (.int (-x) :: st) h) : ev_G w M d h0 Q pc L (.int x :: st) h := by
  intro p e R s m args below meth c H locs ls C
  exact lv_ineg C.1.1 C.1.2.1 (ev_dec_at hM hi) (k p e R s m args below meth c H locs ls C)
theorem ev_i2c (hM : ev_dec M = true) {x : Int32} (hi : ev_ins M pc = some (.i2c, a, b)) (k : ev_G w M d h0 Q (pc + 1) L (.int (x.toUInt32 % 65536).toInt32 :: st) h) : ev_G w M d h0 Q pc L (.int x :: st) h := by
  intro p e R s m args below meth c H locs ls C
  exact lv_i2c C.1.1 C.1.2.1 (ev_dec_at hM hi) rfl (k p e R s m args below meth c H locs ls C)
theorem ev_i2l (hM : ev_dec M = true) {x : Int32} (hi : ev_ins M pc = some (.i2l, a, b)) (k : ev_G w M d h0 Q (pc + 1) L (.long x.toInt64 :: st) h) : ev_G w M d h0 Q pc L (.int x :: st) h := by
  intro p e R s m args below meth c H locs ls C
  exact lv_i2l C.1.1 C.1.2.1 (ev_dec_at hM hi) rfl (k p e R s m args below meth c H locs ls C)
theorem ev_lcmp (hM : ev_dec M = true) {x y : Int64} (hi : ev_ins M pc = some (.lcmp, a, b)) (k : ev_G w M d h0 Q (pc + 1) L (.int (lg_cmp x y) :: st) h) : ev_G w M d h0 Q pc L (.long y :: .long x :: st) h := by
  intro p e R s m args below meth c H locs ls C
  exact W.lcmp C.1.1 C.1.2.1 (ev_dec_at hM hi) (k p e R s m args below meth c H locs ls C)
theorem ev_dup (hM : ev_dec M = true) {v : Value} (hi : ev_ins M pc = some (.dup, a, b)) (hv : v.category = 1) (k : ev_G w M d h0 Q (pc + 1) L (v :: v :: st) h) : ev_G w M d h0 Q pc L (v :: st) h := by
  intro p e R s m args below meth c H locs ls C
  exact lv_dup C.1.1 C.1.2.1 (ev_dec_at hM hi) ((ev_v_cat w v).trans hv) (k p e R s m args below meth c H locs ls C)
theorem ev_pop (hM : ev_dec M = true) {v : Value} (hi : ev_ins M pc = some (.pop, a, b)) (hv : v.category = 1) (k : ev_G w M d h0 Q (pc + 1) L st h) : ev_G w M d h0 Q pc L (v :: st) h := by
  intro p e R s m args below meth c H locs ls C
  exact lv_pop C.1.1 C.1.2.1 (ev_dec_at hM hi) ((ev_v_cat w v).trans hv) (k p e R s m args below meth c H locs ls C)
theorem ev_dup_x1 (hM : ev_dec M = true) {v u : Value} (hi : ev_ins M pc = some (.dup_x1, a, b)) (hv : v.category = 1) (hu : u.category = 1) (k : ev_G w M d h0 Q (pc + 1) L (v :: u :: v :: st) h) : ev_G w M d h0 Q pc L (v :: u :: st) h := by
  intro p e R s m args below meth c H locs ls C
  exact lv_dup_x1 C.1.1 C.1.2.1 (ev_dec_at hM hi) ((ev_v_cat w v).trans hv) ((ev_v_cat w u).trans hu) (k p e R s m args below meth c H locs ls C)
theorem ev_dup2 (hM : ev_dec M = true) {v u : Value} (hi : ev_ins M pc = some (.dup2, a, b)) (hv : v.category = 1) (hu : u.category = 1) (k : ev_G w M d h0 Q (pc + 1) L (v :: u :: v :: u :: st) h) : ev_G w M d h0 Q pc L (v :: u :: st) h := by
  intro p e R s m args below meth c H locs ls C
  exact lv_dup2_11 C.1.1 C.1.2.1 (ev_dec_at hM hi) ((ev_v_cat w v).trans hv) ((ev_v_cat w u).trans hu) (k p e R s m args below meth c H locs ls C)
/-- the conditions of the branches -/
def ev_c0 (c : Jvm.ClassFile.Cond) (x : Int32) : Bool := match c with
  | .eq => decide (x = 0) | .ne => decide (¬ x = 0) | .lt => decide (x < 0) | .ge => decide (0 ≤ x) | .gt => decide (0 < x) | .le => decide (x ≤ 0)
def ev_c2 (c : Jvm.ClassFile.Cond) (x y : Int32) : Bool := match c with
  | .eq => decide (x = y) | .ne => decide (¬ x = y) | .lt => decide (x < y) | .ge => decide (y ≤ x) | .gt => decide (y < x) | .le => decide (x ≤ y)
theorem ev_goto (hM : ev_dec M = true) {off : Int} {tgt : Nat} (hi : ev_ins M pc = some (.goto off, a, b)) (ht : (pc : Int) + off = (tgt : Int)) (k : ev_G w M d h0 Q tgt L st h) : ev_G w M d h0 Q pc L st h := by
  intro p e R s m args below meth c H locs ls C
  exact lv_goto C.1.1 C.1.2.1 (ev_dec_at hM hi) ht (k p e R s m args below meth c H locs ls C)
theorem ev_if (hM : ev_dec M = true) {x : Int32} {cd : Jvm.ClassFile.Cond} {off : Int} {tgt : Nat} (hi : ev_ins M pc = some (.ifCond cd off, a, b)) (ht : (pc : Int) + off = (tgt : Int)) (kt : ev_c0 cd x = true → ev_G w M d h0 Q tgt L st h) (kf : ev_c0 cd x = false → ev_G w M d h0 Q (pc + 3) L st h) : ev_G w M d h0 Q pc L (.int x :: st) h := by
  intro p e R s m args below meth c H locs ls C
  cases cd
  · exact lv_if_eq C.1.1 C.1.2.1 (ev_dec_at hM hi) ht (fun q => kt (decide_eq_true q) p e R s m args below meth c H locs ls C) (fun q => kf (decide_eq_false q) p e R s m args below meth c H locs ls C)
  · exact lv_if_ne C.1.1 C.1.2.1 (ev_dec_at hM hi) ht (fun q => kt (decide_eq_true q) p e R s m args below meth c H locs ls C) (fun q => kf (decide_eq_false (fun z => z q)) p e R s m args below meth c H locs ls C)
  · exact lv_if_lt C.1.1 C.1.2.1 (ev_dec_at hM hi) ht (fun q => kt (decide_eq_true q) p e R s m args below meth c H locs ls C) (fun q => kf (decide_eq_false q) p e R s m args below meth c H locs ls C)
  · exact lv_if_ge C.1.1 C.1.2.1 (ev_dec_at hM hi) ht (fun q => kt (decide_eq_true q) p e R s m args below meth c H locs ls C) (fun q => kf (decide_eq_false q) p e R s m args below meth c H locs ls C)
  · exact lv_if_gt C.1.1 C.1.2.1 (ev_dec_at hM hi) ht (fun q => kt (decide_eq_true q) p e R s m args below meth c H locs ls C) (fun q => kf (decide_eq_false q) p e R s m args below meth c H locs ls C)
  · exact lv_if_le C.1.1 C.1.2.1 (ev_dec_at hM hi) ht (fun q => kt (decide_eq_true q) p e R s m args below meth c H locs ls C) (fun q => kf (decide_eq_false q) p e R s m args below meth c H locs ls C)
theorem ev_icmp (hM : ev_dec M = true) {x y : Int32} {cd : Jvm.ClassFile.Cond} {off : Int} {tgt : Nat} (hi : ev_ins M pc = some (.if_icmp cd off, a, b)) (ht : (pc : Int) + off = (tgt : Int)) (kt : ev_c2 cd x y = true → ev_G w M d h0 Q tgt L st h) (kf : ev_c2 cd x y = false → ev_G w M d h0 Q (pc + 3) L st h) : ev_G w M d h0 Q pc L (.int y :: .int x :: st) h := by
  intro p e R s m args below meth c H locs ls C
  cases cd
  · exact lv_icmp_eq C.1.1 C.1.2.1 (ev_dec_at hM hi) ht (fun q => kt (decide_eq_true q) p e R s m args below meth c H locs ls C) (fun q => kf (decide_eq_false q) p e R s m args below meth c H locs ls C)
  · exact lv_icmp_ne C.1.1 C.1.2.1 (ev_dec_at hM hi) ht (fun q => kt (decide_eq_true q) p e R s m args below meth c H locs ls C) (fun q => kf (decide_eq_false (fun z => z q)) p e R s m args below meth c H locs ls C)
  · exact lv_icmp_lt C.1.1 C.1.2.1 (ev_dec_at hM hi) ht (fun q => kt (decide_eq_true q) p e R s m args below meth c H locs ls C) (fun q => kf (decide_eq_false q) p e R s m args below meth c H locs ls C)
  · exact lv_icmp_ge C.1.1 C.1.2.1 (ev_dec_at hM hi) ht (fun q => kt (decide_eq_true q) p e R s m args below meth c H locs ls C) (fun q => kf (decide_eq_false q) p e R s m args below meth c H locs ls C)
  · exact lv_icmp_gt C.1.1 C.1.2.1 (ev_dec_at hM hi) ht (fun q => kt (decide_eq_true q) p e R s m args below meth c H locs ls C) (fun q => kf (decide_eq_false q) p e R s m args below meth c H locs ls C)
  · exact lv_icmp_le C.1.1 C.1.2.1 (ev_dec_at hM hi) ht (fun q => kt (decide_eq_true q) p e R s m args below meth c H locs ls C) (fun q => kf (decide_eq_false q) p e R s m args below meth c H locs ls C)
theorem ev_tableIn (hM : ev_dec M = true) {x : Int32} {dflt lo hi' off : Int} {offs : Array Int} {tgt : Nat} (hi : ev_ins M pc = some (.tableswitch dflt lo hi' offs, a, b)) (h1 : ¬ x.toInt < lo) (h2 : ¬ hi' < x.toInt) (ho : offs[(x.toInt - lo).toNat]? = some off) (ht : (pc : Int) + off = (tgt : Int)) (k : ev_G w M d h0 Q tgt L st h) : ev_G w M d h0 Q pc L (.int x :: st) h := by
  intro p e R s m args below meth c H locs ls C
  exact lv_tableIn C.1.1 C.1.2.1 (ev_dec_at hM hi) h1 h2 ho ht (k p e R s m args below meth c H locs ls C)
theorem ev_tableOut (hM : ev_dec M = true) {x : Int32} {dflt lo hi' : Int} {offs : Array Int} {tgt : Nat} (hi : ev_ins M pc = some (.tableswitch dflt lo hi' offs, a, b)) (h1 : x.toInt < lo ∨ hi' < x.toInt) (ht : (pc : Int) + dflt = (tgt : Int)) (k : ev_G w M d h0 Q tgt L st h) : ev_G w M d h0 Q pc L (.int x :: st) h := by
  intro p e R s m args below meth c H locs ls C
  exact lv_tableOut C.1.1 C.1.2.1 (ev_dec_at hM hi) h1 ht (k p e R s m args below meth c H locs ls C)
end EvG
end
section
/-! the rows that read and write the heap, and those that make cells -/
section EvHeap
def ev_has (x : Cond) : Bool := decide (x ∈ lw_tbl) && goodWord x
def ev_Tg : List Cond := lw_tbl.filter goodWord
theorem ev_has_mem {x : Cond} (hx : ev_has x = true) : x ∈ ev_Tg := by
  simp only [ev_has, Bool.and_eq_true, decide_eq_true_eq] at hx
  exact List.mem_filter.mpr ⟨hx.1, hx.2⟩
def ev_tys (w : ev_W) : List (ClassId × FieldType) := [(w.2.2.2.2.1 0, .int), (w.2.2.2.2.1 1, .char), (w.2.2.2.2.1 2, .long), (w.2.2.2.2.1 3, .object ev_Let)]
/-- what is known of the world: the tables' words, the classes, no traces, the script -/
def ev_ok (w : ev_W) : Prop := (∀ x ∈ lw_tbl, x.before w.2.2.1 w.2.1 = true) ∧ va_K w.2.2.2.1 ev_cl (ev_tys w) w.2.1 ∧ w.1.stackTraces = false ∧
  va_X w.2.2.2.2.2.1 w.2.2.2.2.2.2.2.2.1 w.2.2.2.2.2.2.2.2.2 w.2.1 w.2.1.heap ∧ w.2.2.2.2.2.1 < w.2.1.heap.size
theorem ev_word {w : ev_W} (ok : ev_ok w) {s : State} (hW : w.2.1.WarmedH s.vm) {x : Cond} (hx : ev_has x = true) (args : Array Value) : x.before args s = true := by
  simp only [ev_has, Bool.and_eq_true, decide_eq_true_eq] at hx
  exact word_at hW (good_of_word hx.2) (ok.1 x hx.1)
theorem ev_hts {w : ev_W} (ok : ev_ok w) {s : State} (hW : w.2.1.WarmedH s.vm) {args : Array Value} : ∀ x ∈ ev_Tg, x.before args s = true := fun x hx =>
  word_at hW (good_of_word (List.mem_filter.mp hx).2) (ok.1 x (List.mem_filter.mp hx).1)
def ev_fty (q : vw_C) (k : Nat) : FieldType := (parseFieldDescriptor (q.2.1 k).2.2.1).getD .int
def ev_clq (q : vw_C) : Bool := (u_ws q.1 q.2.1 q.2.2).all ev_has && (List.range q.2.2).all (fun k => decide (parseFieldDescriptor (q.2.1 k).2.2.1 = some (ev_fty q k))) &&
  (List.range q.2.2).all (fun a => (List.range q.2.2).all (fun b => decide (a = b) || decide ((q.2.1 a).2.1 ≠ (q.2.1 b).2.1)))
theorem ev_clq_in {q : vw_C} (h : ev_clq q = true) : ∀ x ∈ u_ws q.1 q.2.1 q.2.2, x ∈ ev_Tg := by
  simp only [ev_clq, Bool.and_eq_true] at h
  exact fun x hx => ev_has_mem (List.all_eq_true.mp h.1.1 x hx)
theorem ev_clq_ty {q : vw_C} (h : ev_clq q = true) : ∀ k, k < q.2.2 → parseFieldDescriptor (q.2.1 k).2.2.1 = some (ev_fty q k) := by
  simp only [ev_clq, Bool.and_eq_true] at h
  exact fun k hk => of_decide_eq_true (List.all_eq_true.mp h.1.2 k (List.mem_range.mpr hk))
theorem ev_clq_nm {q : vw_C} (h : ev_clq q = true) : ∀ a, a < q.2.2 → ∀ b, b < q.2.2 → a ≠ b → (q.2.1 a).2.1 ≠ (q.2.1 b).2.1 := by
  simp only [ev_clq, Bool.and_eq_true] at h
  intro a ha b hb hne
  have h1 := List.all_eq_true.mp (List.all_eq_true.mp h.2 a (List.mem_range.mpr ha)) b (List.mem_range.mpr hb)
  simp only [Bool.or_eq_true, decide_eq_true_eq] at h1
  exact h1.resolve_left hne
theorem ev_cl_all : ev_cl.all ev_clq = true := by decide +kernel
end EvHeap
end
section
section EvHeap2
theorem ev_cl_q {ci : Nat} {q : vw_C} (hc : ev_cl[ci]? = some q) : ev_clq q = true := List.all_eq_true.mp ev_cl_all q (List.mem_of_getElem? hc)
/-- a field's link -/
def ev_lkf (own : String) (idx ci k : Nat) : Bool := match ev_cl[ci]? with
  | none => false
  | some q => decide (k < q.2.2) && (ev_has (.fieldLink own idx (q.2.1 k).1 (q.2.1 k).2.1 (q.2.1 k).2.2.1) || ev_has (.fieldLinkNest own idx (q.2.1 k).1 (q.2.1 k).2.1 (q.2.1 k).2.2.1 ev_host))
theorem ev_lkf_of {own : String} {idx ci k : Nat} (h : ev_lkf own idx ci k = true) : ∃ q : vw_C, ev_cl[ci]? = some q ∧ k < q.2.2 ∧
    (ev_has (.fieldLink own idx (q.2.1 k).1 (q.2.1 k).2.1 (q.2.1 k).2.2.1) = true ∨ ev_has (.fieldLinkNest own idx (q.2.1 k).1 (q.2.1 k).2.1 (q.2.1 k).2.2.1 ev_host) = true) := by
  unfold ev_lkf at h
  cases hc : ev_cl[ci]? with
  | none => rw [hc] at h; cases h
  | some q =>
    rw [hc] at h
    simp only [Bool.and_eq_true, Bool.or_eq_true, decide_eq_true_eq] at h
    exact ⟨q, rfl, h.1, h.2⟩
variable {w : ev_W} {M : ev_M} {d : Nat × Nat} {h0 : ev_H} {Q : ev_R → ev_H → Prop} {pc : Nat} {L : List (Option Value)} {st : List Value} {h : ev_H} {a b : Nat}
theorem ev_fx.warm {p : Program} {s : State} {m : MethodId} {meth : Method} {c : Code} (F : ev_fx w M p s m meth c) : w.2.1.WarmedH s.vm := F.2.2.2.2.2.2.2.2
theorem ev_fx.own {p : Program} {s : State} {m : MethodId} {meth : Method} {c : Code} (F : ev_fx w M p s m meth c) : s.vm.findClass M.1.cls = some m.cls := F.2.2.2.2.2.1
theorem ev_getf (ok : ev_ok w) (hM : ev_dec M = true) {idx ci k x : Nat} {fs : List Value} {v : Value} (hi : ev_ins M pc = some (.getfield idx, ci, k)) (hlk : ev_lkf M.1.cls idx ci k = true) (hcell : h[x]? = some (.inr (ci, fs))) (hv : fs[k]? = some v)
    (kk : ev_G w M d h0 Q (pc + 3) L (v :: st) h) : ev_G w M d h0 Q pc L (.ref x :: st) h := by
  intro p e R s m args below meth c H locs ls C
  obtain ⟨⟨R0, T0, N0⟩, hc, hk, hl⟩ := ev_lkf_of hlk
  have hW := C.1.warm
  have hv' : (fs.map (ev_v w))[k]? = some (ev_v w v) := by rw [List.getElem?_map, hv]; rfl
  rcases hl with hl | hl
  · exact va_get C.1.1 C.1.2.1 (ev_hts ok hW) (ev_clq_in (ev_cl_q hc)) C.1.own (va_K.moved hW.alike ok.2.1) C.2.2.2.1 x (ev_ws_get hcell) hc k hk (ev_word ok hW hl args) (fun _ z => z) hv' (ev_dec_at hM hi) (kk p e R s m args below meth c H locs ls C)
  · exact va_getN C.1.1 C.1.2.1 (ev_hts ok hW) (ev_clq_in (ev_cl_q hc)) C.1.own (va_K.moved hW.alike ok.2.1) C.2.2.2.1 x (ev_ws_get hcell) hc k hk (ev_word ok hW hl args) (fun _ z => z) hv' (ev_dec_at hM hi) (kk p e R s m args below meth c H locs ls C)
/-- behind a store: the same heap but for one cell -/
theorem ev_G_set {x : Nat} {y y' : ev_E} (kk : ev_G w M d h0 Q pc L st (h.set x y')) (hx : h[x]? = some y) (hc : ev_c1 y' = ev_c1 y) {p : Program} {e : Env} {R : Room} {s : State} {m : MethodId} {args : Array Value} {below : List Frame} {meth : Method} {c : Code} {H H1 : Heap} {locs locs1 : List Loc} {ls : Array Slot}
    (C : ev_cx w M d h0 p R s m meth c h H locs L ls) (hP1 : va_P w.2.2.2.1 ev_cl ((ev_ws w h).set x (ev_base w + x, ev_e w y')) H1) (hS1 : va_S (ev_A w) s.heap H1 locs1) :
    W p w.1 e R s m args below meth c H1 locs1 (h.length - h0.length) (ev_cost h - ev_cost h0) (ev_PQ w h0 Q below s) (F0 m pc ls (st.map (ev_v w))) := by
  obtain ⟨c1, c2, c3, c4, c5, c6, c7, c8, c9, c10⟩ := C
  have h1 := kk p e R s m args below meth c H1 locs1 ls ⟨c1, c2, c3, by rw [ev_ws_set]; exact hP1, hS1, c6, by rw [List.length_set]; exact c7, by rw [ev_cost_set hx hc]; exact c8, by rw [List.length_set]; exact c9, by rw [ev_cost_set hx hc]; exact c10⟩
  rw [List.length_set, ev_cost_set hx hc] at h1
  exact h1
/-- what a field of a type takes -/
def ev_fitv (ty : FieldType) (v : Value) : Bool := match ty, v with
  | .int, .int _ => true
  | .boolean, .int x => decide (x = 0) || decide (x = 1)
  | .object _, .ref _ => true
  | .array _, .ref _ => true
  | _, _ => false
theorem ev_fitv_of {ty : FieldType} {v : Value} (hf : ev_fitv ty v = true) : narrow ty (ev_v w v) = ev_v w v ∧ fits ty (ev_v w v) = true := by
  cases ty <;> cases v <;> first | (exact ⟨rfl, rfl⟩) | (simp [ev_fitv] at hf; done) | skip
  all_goals
    simp only [ev_fitv, Bool.or_eq_true, decide_eq_true_eq] at hf
    rcases hf with rfl | rfl <;> exact ⟨rfl, rfl⟩
theorem ev_putf (ok : ev_ok w) (hM : ev_dec M = true) {idx ci k x : Nat} {q : vw_C} {fs : List Value} {v : Value} (hi : ev_ins M pc = some (.putfield idx, ci, k)) (hlk : ev_lkf M.1.cls idx ci k = true) (hq : ev_cl[ci]? = some q)
    (hfin : (q.2.1 k).2.2.2 = false ∨ ((q.2.1 k).2.2.2 = true ∧ M.1.name = "<init>" ∧ (q.2.1 k).1 = M.1.cls ∧ ev_has (.fieldLink M.1.cls idx (q.2.1 k).1 (q.2.1 k).2.1 (q.2.1 k).2.2.1) = true)) (hfit : ev_fitv (ev_fty q k) v = true) (hcell : h[x]? = some (.inr (ci, fs))) (hkl : k < fs.length)
    (kk : ev_G w M d h0 Q (pc + 3) L st (h.set x (.inr (ci, fs.set k v)))) : ev_G w M d h0 Q pc L (v :: .ref x :: st) h := by
  intro p e R s m args below meth c H locs ls C
  obtain ⟨q', hc, hk, hl⟩ := ev_lkf_of hlk
  cases hq.symm.trans hc
  have hW := C.1.warm
  have hcq := ev_cl_q hq
  obtain ⟨hnar, hfits⟩ := ev_fitv_of (w := w) hfit
  have hkl' : k < (fs.map (ev_v w)).length := by rw [List.length_map]; exact hkl
  have key : ∀ (H1 : Heap) (locs1 : List Loc), va_P w.2.2.2.1 ev_cl ((ev_ws w h).set x (ev_base w + x, .inr (ci, (fs.map (ev_v w)).set k (ev_v w v)))) H1 → va_D (ev_A w) ((ev_ws w h).set x (ev_base w + x, .inr (ci, (fs.map (ev_v w)).set k (ev_v w v)))) → va_S (ev_A w) s.heap H1 locs1 →
      W p w.1 e R s m args below meth c H1 locs1 (h.length - h0.length) (ev_cost h - ev_cost h0) (ev_PQ w h0 Q below s) (F0 m (pc + 3) ls (st.map (ev_v w))) := by
    intro H1 locs1 hP1 _ hS1
    refine ev_G_set kk hcell rfl C ?_ hS1
    show va_P w.2.2.2.1 ev_cl ((ev_ws w h).set x (ev_base w + x, .inr (ci, (fs.set k v).map (ev_v w)))) H1
    rw [List.map_set]
    exact hP1
  obtain ⟨R0, T0, N0⟩ := q
  rcases hfin with hfin | ⟨hfin, hnm, hdecl, hl⟩
  · rcases hl with hl | hl
    · exact va_put C.1.1 C.1.2.1 (ev_hts ok hW) (ev_clq_in hcq) (ev_fty (R0, T0, N0)) (ev_clq_ty hcq) (ev_clq_nm hcq) C.1.own (va_K.moved hW.alike ok.2.1) C.2.2.2.1 (ev_ws_D w h) C.2.2.2.2.1 x (ev_ws_get hcell) hq k hk (ev_word ok hW hl args) (fun _ z => z) hfin (ev_clq_ty hcq k hk) hnar hfits hkl' (ev_dec_at hM hi) key
    · exact va_putN C.1.1 C.1.2.1 (ev_hts ok hW) (ev_clq_in hcq) (ev_fty (R0, T0, N0)) (ev_clq_ty hcq) (ev_clq_nm hcq) C.1.own (va_K.moved hW.alike ok.2.1) C.2.2.2.1 (ev_ws_D w h) C.2.2.2.2.1 x (ev_ws_get hcell) hq k hk (ev_word ok hW hl args) (fun _ z => z) hfin (ev_clq_ty hcq k hk) hnar hfits hkl' (ev_dec_at hM hi) key
  · exact va_putF C.1.1 C.1.2.1 (ev_hts ok hW) (ev_clq_in hcq) (ev_fty (R0, T0, N0)) (ev_clq_ty hcq) (ev_clq_nm hcq) C.1.own (va_K.moved hW.alike ok.2.1) C.2.2.2.1 (ev_ws_D w h) C.2.2.2.2.1 x (ev_ws_get hcell) hq k hk (ev_word ok hW hl args) (fun _ z => z) hfin (C.1.2.2.2.2.2.2.1.trans hnm) hdecl (ev_clq_ty hcq k hk) hnar hfits hkl' (ev_dec_at hM hi) key
theorem ev_iald (ok : ev_ok w) (hM : ev_dec M = true) {x n : Nat} {f : Nat → Int32} {i : Int32} (hi : ev_ins M pc = some (.iaload, a, b)) (hcell : h[x]? = some (.inl (0, n, .inl f))) (hin : vp_in i n) (kk : ev_G w M d h0 Q (pc + 1) L (.int (f i.toNatClampNeg) :: st) h) : ev_G w M d h0 Q pc L (.int i :: .ref x :: st) h := by
  intro p e R s m args below meth c H locs ls C
  exact va_iald C.1.1 C.1.2.1 (va_K.moved C.1.warm.alike ok.2.1) C.2.2.2.1 x 0 (ev_ws_get hcell) rfl hin (ev_dec_at hM hi) (kk p e R s m args below meth c H locs ls C)
theorem ev_cald (ok : ev_ok w) (hM : ev_dec M = true) {x n : Nat} {f : Nat → Int32} {i : Int32} (hi : ev_ins M pc = some (.caload, a, b)) (hcell : h[x]? = some (.inl (1, n, .inl f))) (hin : vp_in i n) (kk : ev_G w M d h0 Q (pc + 1) L (.int (f i.toNatClampNeg) :: st) h) : ev_G w M d h0 Q pc L (.int i :: .ref x :: st) h := by
  intro p e R s m args below meth c H locs ls C
  exact va_cald C.1.1 C.1.2.1 (va_K.moved C.1.warm.alike ok.2.1) C.2.2.2.1 x 1 (ev_ws_get hcell) rfl hin (ev_dec_at hM hi) (kk p e R s m args below meth c H locs ls C)
theorem ev_lald (ok : ev_ok w) (hM : ev_dec M = true) {x n : Nat} {f : Nat → Int64} {i : Int32} (hi : ev_ins M pc = some (.laload, a, b)) (hcell : h[x]? = some (.inl (2, n, .inr (.inl f)))) (hin : vp_in i n) (kk : ev_G w M d h0 Q (pc + 1) L (.long (f i.toNatClampNeg) :: st) h) : ev_G w M d h0 Q pc L (.int i :: .ref x :: st) h := by
  intro p e R s m args below meth c H locs ls C
  exact va_lald C.1.1 C.1.2.1 (va_K.moved C.1.warm.alike ok.2.1) C.2.2.2.1 x 2 (ev_ws_get hcell) rfl hin (ev_dec_at hM hi) (kk p e R s m args below meth c H locs ls C)
theorem ev_iast (ok : ev_ok w) (hM : ev_dec M = true) {x n : Nat} {f : Nat → Int32} {i : Int32} {v : Int32} (hi : ev_ins M pc = some (.iastore, a, b)) (hcell : h[x]? = some (.inl (0, n, .inl f))) (hin : vp_in i n) (kk : ev_G w M d h0 Q (pc + 1) L st (h.set x (.inl (0, n, .inl (upd f i.toNatClampNeg v))))) : ev_G w M d h0 Q pc L (.int v :: .int i :: .ref x :: st) h := by
  intro p e R s m args below meth c H locs ls C
  exact va_iast C.1.1 C.1.2.1 (va_K.moved C.1.warm.alike ok.2.1) C.2.2.2.1 (ev_ws_D w h) C.2.2.2.2.1 x 0 (ev_ws_get hcell) rfl hin (ev_dec_at hM hi) (fun H1 locs1 hP1 _ hS1 => ev_G_set kk hcell rfl C hP1 hS1)
theorem ev_cast (ok : ev_ok w) (hM : ev_dec M = true) {x n : Nat} {f : Nat → Int32} {i : Int32} {v : Int32} (hi : ev_ins M pc = some (.castore, a, b)) (hcell : h[x]? = some (.inl (1, n, .inl f))) (hin : vp_in i n) (kk : ev_G w M d h0 Q (pc + 1) L st (h.set x (.inl (1, n, .inl (upd f i.toNatClampNeg (vp_nar .char v)))))) : ev_G w M d h0 Q pc L (.int v :: .int i :: .ref x :: st) h := by
  intro p e R s m args below meth c H locs ls C
  exact va_cast C.1.1 C.1.2.1 (va_K.moved C.1.warm.alike ok.2.1) C.2.2.2.1 (ev_ws_D w h) C.2.2.2.2.1 x 1 (ev_ws_get hcell) rfl hin (ev_dec_at hM hi) (fun H1 locs1 hP1 _ hS1 => ev_G_set kk hcell rfl C hP1 hS1)
theorem ev_last (ok : ev_ok w) (hM : ev_dec M = true) {x n : Nat} {f : Nat → Int64} {i : Int32} {v : Int64} (hi : ev_ins M pc = some (.lastore, a, b)) (hcell : h[x]? = some (.inl (2, n, .inr (.inl f)))) (hin : vp_in i n) (kk : ev_G w M d h0 Q (pc + 1) L st (h.set x (.inl (2, n, .inr (.inl (vp_updL f i.toNatClampNeg v)))))) : ev_G w M d h0 Q pc L (.long v :: .int i :: .ref x :: st) h := by
  intro p e R s m args below meth c H locs ls C
  exact va_last C.1.1 C.1.2.1 (va_K.moved C.1.warm.alike ok.2.1) C.2.2.2.1 (ev_ws_D w h) C.2.2.2.2.1 x 2 (ev_ws_get hcell) rfl hin (ev_dec_at hM hi) (fun H1 locs1 hP1 _ hS1 => ev_G_set kk hcell rfl C hP1 hS1)
theorem ev_v_rf (r : Option Nat) : ev_v w (va_rf r) = va_rf (r.map (fun k => ev_base w + k)) := by cases r <;> rfl
theorem ev_aald (ok : ev_ok w) (hM : ev_dec M = true) {x n : Nat} {f : Nat → Option Nat} {i : Int32} (hi : ev_ins M pc = some (.aaload, a, b)) (hcell : h[x]? = some (.inl (3, n, .inr (.inr (.inr (.inr f)))))) (hin : vp_in i n) (kk : ev_G w M d h0 Q (pc + 1) L (va_rf (f i.toNatClampNeg) :: st) h) : ev_G w M d h0 Q pc L (.int i :: .ref x :: st) h := by
  intro p e R s m args below meth c H locs ls C
  refine va_aldq C.1.1 C.1.2.1 (va_K.moved C.1.warm.alike ok.2.1) C.2.2.2.1 x 3 (ev_ws_get hcell) rfl hin (ev_dec_at hM hi) ?_
  have h1 := kk p e R s m args below meth c H locs ls C
  rw [List.map_cons, ev_v_rf] at h1
  exact h1
theorem ev_aast (ok : ev_ok w) (hM : ev_dec M = true) {x n y ci : Nat} {q : vw_C} {fs : List Value} {f : Nat → Option Nat} {i : Int32} (hi : ev_ins M pc = some (.aastore, a, b)) (hcell : h[x]? = some (.inl (3, n, .inr (.inr (.inr (.inr f)))))) (hy : h[y]? = some (.inr (ci, fs))) (hq : ev_cl[ci]? = some q) (hqn : q.1 = ev_Let) (hin : vp_in i n)
    (kk : ev_G w M d h0 Q (pc + 1) L st (h.set x (.inl (3, n, .inr (.inr (.inr (.inr (va_up f i.toNatClampNeg (some y))))))))) : ev_G w M d h0 Q pc L (.ref y :: .int i :: .ref x :: st) h := by
  intro p e R s m args below meth c H locs ls C
  refine va_astq (r := q) C.1.1 C.1.2.1 (va_K.moved C.1.warm.alike ok.2.1) C.2.2.2.1 (ev_ws_D w h) C.2.2.2.2.1 x 3 y ci (ev_ws_get hcell) (by rw [hqn]; rfl) (ev_ws_get hy) hq hin (ev_dec_at hM hi) (fun H1 locs1 hP1 _ hS1 => ?_)
  refine ev_G_set kk hcell rfl C ?_ hS1
  have e1 : (fun j => (va_up f i.toNatClampNeg (some y) j).map (fun k => ev_base w + k)) = va_up (fun j => (f j).map (fun k => ev_base w + k)) i.toNatClampNeg (some (ev_base w + y)) := by
    funext j
    unfold va_up
    split <;> rfl
  show va_P w.2.2.2.1 ev_cl ((ev_ws w h).set x (ev_base w + x, .inl (w.2.2.2.2.1 3, n, .inr (.inr (.inr (.inr (fun j => (va_up f i.toNatClampNeg (some y) j).map (fun k => ev_base w + k)))))))) H1
  rw [e1]
  exact hP1
theorem ev_alen (ok : ev_ok w) (hM : ev_dec M = true) {x t : Nat} {z : vp_A} (ht : t < 4) (hi : ev_ins M pc = some (.arraylength, a, b)) (hcell : h[x]? = some (.inl (t, z))) (kk : ev_G w M d h0 Q (pc + 1) L (.int (Int32.ofNat z.1) :: st) h) : ev_G w M d h0 Q pc L (.ref x :: st) h := by
  intro p e R s m args below meth c H locs ls C
  have hK := va_K.moved C.1.warm.alike ok.2.1
  match t, ht, hcell with
  | 0, _, hcell => exact va_alen C.1.1 C.1.2.1 hK C.2.2.2.1 x 0 (ev_ws_get hcell) rfl rfl (ev_dec_at hM hi) (kk p e R s m args below meth c H locs ls C)
  | 1, _, hcell => exact va_alen C.1.1 C.1.2.1 hK C.2.2.2.1 x 1 (ev_ws_get hcell) rfl rfl (ev_dec_at hM hi) (kk p e R s m args below meth c H locs ls C)
  | 2, _, hcell => exact va_alen C.1.1 C.1.2.1 hK C.2.2.2.1 x 2 (ev_ws_get hcell) rfl rfl (ev_dec_at hM hi) (kk p e R s m args below meth c H locs ls C)
  | 3, _, hcell => exact va_alen C.1.1 C.1.2.1 hK C.2.2.2.1 x 3 (ev_ws_get hcell) rfl rfl (ev_dec_at hM hi) (kk p e R s m args below meth c H locs ls C)
theorem ev_scr (ok : ev_ok w) {p : Program} {R : Room} {s : State} {m : MethodId} {meth : Method} {c : Code} {H : Heap} {locs : List Loc} {ls : Array Slot} (C : ev_cx w M d h0 p R s m meth c h H locs L ls) :
    va_X w.2.2.2.2.2.1 w.2.2.2.2.2.2.2.2.1 w.2.2.2.2.2.2.2.2.2 s s.heap ∧ w.2.2.2.2.2.1 < s.heap.size ∧ ¬ ev_A w w.2.2.2.2.2.1 := by
  have h1 := C.2.1.2.1
  have hb : w.2.2.2.2.2.1 < ev_base w := ok.2.2.2.2
  exact ⟨(ok.2.2.2.1.moved C.1.warm.alike).kept (C.2.1.2.2 _ hb), by omega, by unfold ev_A; omega⟩
theorem ev_sld (ok : ev_ok w) (hM : ev_dec M = true) {x : Nat} {i : Int32} (hi : ev_ins M pc = some (.iaload, a, b)) (hin : vp_in i w.2.2.2.2.2.2.2.2.1) (kk : ev_G w M d h0 Q (pc + 1) L (.int (w.2.2.2.2.2.2.2.2.2 i.toNatClampNeg) :: st) h) : ev_G w M d h0 Q pc L (.int i :: .retAddr x :: st) h := by
  intro p e R s m args below meth c H locs ls C
  obtain ⟨h1, h2, h3⟩ := ev_scr ok C
  exact va_sld C.1.1 C.1.2.1 h1 h2 h3 C.2.2.2.2.1 hin (ev_dec_at hM hi) (kk p e R s m args below meth c H locs ls C)
theorem ev_slen (ok : ev_ok w) (hM : ev_dec M = true) {x : Nat} (hi : ev_ins M pc = some (.arraylength, a, b)) (kk : ev_G w M d h0 Q (pc + 1) L (.int (Int32.ofNat w.2.2.2.2.2.2.2.2.1) :: st) h) : ev_G w M d h0 Q pc L (.retAddr x :: st) h := by
  intro p e R s m args below meth c H locs ls C
  obtain ⟨h1, h2, h3⟩ := ev_scr ok C
  exact va_slen C.1.1 C.1.2.1 h1 h2 h3 C.2.2.2.2.1 (ev_dec_at hM hi) (kk p e R s m args below meth c H locs ls C)
/-- behind a new cell: it lies just behind the others -/
theorem ev_G_app {y : ev_E} (hcap1 : h.length + 1 ≤ w.2.2.2.2.2.2.1) (hcap2 : ev_cost h + ev_c1 y ≤ w.2.2.2.2.2.2.2.1) (kk : ev_G w M d h0 Q pc L (.ref h.length :: st) (h ++ [y])) {p : Program} {e : Env} {R : Room} {s : State} {m : MethodId} {args : Array Value} {below : List Frame} {meth : Method} {c : Code} {H H1 : Heap} {locs : List Loc} {ls : Array Slot} {x n : Nat} (hn : n = ev_c1 y)
    (C : ev_cx w M d h0 p R s m meth c h H locs L ls) (hP1 : va_P w.2.2.2.1 ev_cl (ev_ws w h ++ [(x, ev_e w y)]) H1) (hD1 : va_D (ev_A w) (ev_ws w h ++ [(x, ev_e w y)])) (hS1 : va_S (ev_A w) s.heap H1 locs) :
    W p w.1 e R s m args below meth c H1 locs (h.length - h0.length + 1) (ev_cost h - ev_cost h0 + n) (ev_PQ w h0 Q below s) (F0 m pc ls (.ref x :: st.map (ev_v w))) := by
  obtain ⟨c1, c2, c3, c4, c5, c6, c7, c8, c9, c10⟩ := C
  subst hn
  intro T hT X
  have hz := X.heapSize
  have hs := c2.2.1
  have hlast : (ev_ws w h ++ [(x, ev_e w y)])[h.length]? = some (x, ev_e w y) := by
    rw [List.getElem?_append_right (by rw [ev_ws_len]; exact Nat.le_refl _), ev_ws_len, Nat.sub_self]; rfl
  have hlt : x < H1.size := (hP1 h.length _ hlast).lt
  have hge : ev_base w ≤ x := hD1.2 h.length _ hlast
  have hne : ∀ j, j < h.length → x ≠ ev_base w + j := by
    intro j hj hxj
    obtain ⟨z, hz'⟩ : ∃ z, h[j]? = some z := ⟨_, List.getElem?_eq_getElem hj⟩
    have h2 : (ev_ws w h ++ [(x, ev_e w y)])[j]? = some (ev_base w + j, ev_e w z) := by
      rw [List.getElem?_append_left (by rw [ev_ws_len]; exact hj)]; exact ev_ws_get hz'
    have h3 := hD1.1 h.length j _ _ hlast h2 hxj
    omega
  have hx : x = ev_base w + h.length := by
    rw [hT] at hz
    rcases Nat.lt_or_ge (x - ev_base w) h.length with hl | hl
    · exact absurd (by omega) (hne (x - ev_base w) hl)
    · omega
  subst hx
  have h1 := kk p e R s m args below meth c H1 locs ls ⟨c1, c2, c3, by rw [ev_ws_app]; exact hP1, hS1, c6, by rw [List.length_append]; exact Nat.le_trans c7 (Nat.le_add_right _ _), by rw [ev_cost_app]; exact Nat.le_trans c8 (Nat.le_add_right _ _), by rw [List.length_append]; exact hcap1, by rw [ev_cost_app]; exact hcap2⟩
  have e1 : (h ++ [y]).length - h0.length = h.length - h0.length + 1 := by rw [List.length_append, List.length_singleton]; omega
  have e2 : ev_cost (h ++ [y]) - ev_cost h0 = ev_cost h - ev_cost h0 + ev_c1 y := by rw [ev_cost_app]; omega
  rw [e1, e2] at h1
  exact h1 T hT X
theorem ev_cx.room {p : Program} {R : Room} {s : State} {m : MethodId} {meth : Method} {c : Code} {H : Heap} {locs : List Loc} {ls : Array Slot} (C : ev_cx w M d h0 p R s m meth c h H locs L ls) {n : Nat} (h1 : h.length + 1 ≤ w.2.2.2.2.2.2.1) (h2 : ev_cost h + n ≤ w.2.2.2.2.2.2.2.1) :
    h.length - h0.length + 1 ≤ R.cells ∧ ev_cost h - ev_cost h0 + n ≤ R.slots := by
  obtain ⟨-, -, ⟨-, -, f3, f4⟩, -, -, -, c7, c8, -, -⟩ := C
  omega
theorem ev_cx.A {p : Program} {R : Room} {s : State} {m : MethodId} {meth : Method} {c : Code} {H : Heap} {locs : List Loc} {ls : Array Slot} (C : ev_cx w M d h0 p R s m meth c h H locs L ls) : ∀ q, s.heap.size ≤ q → ev_A w q := by
  intro q hq
  have h1 := C.2.1.2.1
  show ev_base w ≤ q
  omega
def ev_dft (q : vw_C) : List Value := (List.range q.2.2).map (fun j => defaultValue (ev_fty q j))
theorem ev_v_dft (ty : FieldType) : ev_v w (defaultValue ty) = defaultValue ty := by cases ty <;> rfl
theorem ev_dft_map (q : vw_C) : (ev_dft q).map (ev_v w) = ev_dft q := by
  simp [ev_dft, ev_v_dft]
theorem ev_dft_V (q : vw_C) : ∀ j, j < q.2.2 → defaultValue (ev_fty q j) = vp_V (ev_dft q) j := by
  intro j hj
  simp [vp_V, ev_dft, hj]
theorem ev_new (ok : ev_ok w) (hM : ev_dec M = true) {idx ci : Nat} {q : vw_C} (hi : ev_ins M pc = some (.new idx, ci, b)) (hq : ev_cl[ci]? = some q) (hn : q.2.2 = ev_sz ci) (hl : ev_has (.classLink M.1.cls idx q.1) = true) (hin : ev_has (.instantiable q.1 q.2.2) = true) (hii : ev_has (.initialized q.1) = true)
    (h1 : h.length + 1 ≤ w.2.2.2.2.2.2.1) (h2 : ev_cost h + q.2.2 ≤ w.2.2.2.2.2.2.2.1) (kk : ev_G w M d h0 Q (pc + 3) L (.ref h.length :: st) (h ++ [.inr (ci, ev_dft q)])) : ev_G w M d h0 Q pc L st h := by
  intro p e R s m args below meth c H locs ls C
  have hW := C.1.warm
  have hcq := ev_cl_q hq
  obtain ⟨r1, r2⟩ := C.room h1 h2
  have hA := C.A
  obtain ⟨R0, T0, N0⟩ := q
  refine va_new (fs := ev_dft (R0, T0, N0)) C.1.1 C.1.2.1 (ev_hts ok hW) (ev_clq_in hcq) (ev_fty (R0, T0, N0)) (ev_clq_ty hcq) C.1.own (ev_word ok hW hl args) (ev_word ok hW hin args) (ev_word ok hW hii args) (va_K.moved hW.alike ok.2.1) C.2.2.2.1 (ev_ws_D w h) C.2.2.2.2.1 hA hq (ev_dft_V (R0, T0, N0)) r1 r2 (ev_dec_at hM hi) (fun x H1 hP1 hD1 hS1 => ?_)
  have e1 : ev_e w (.inr (ci, ev_dft (R0, T0, N0))) = .inr (ci, ev_dft (R0, T0, N0)) := by
    show Sum.inr (ci, (ev_dft (R0, T0, N0)).map (ev_v w)) = _
    rw [ev_dft_map]
  exact ev_G_app h1 (by show ev_cost h + ev_sz ci ≤ _; rw [← hn]; exact h2) kk (y := .inr (ci, ev_dft (R0, T0, N0))) hn C (by rw [e1]; exact hP1) (by rw [e1]; exact hD1) hS1
theorem ev_RA_eq {U : State} {cA cB : ClassId} {ty : FieldType} (h1 : va_RA U cA ty) (h2 : va_RA U cB ty) : cA = cB := by
  cases ty with
  | object C =>
    obtain ⟨_, _, _, _, _, q1⟩ := h1
    obtain ⟨_, _, _, _, _, q2⟩ := h2
    exact Option.some.inj (q1.symm.trans q2)
  | _ => exact Option.some.inj (Eq.trans (Eq.symm h1) h2)
theorem ev_tyN {U : State} {D : va_G} {tys : List (ClassId × FieldType)} {cA cB : ClassId} {ty : FieldType} {t : Nat} (hK : va_K D ev_cl (tys ++ [(cA, ty)]) U) (ht : tys[t]? = some (cB, ty)) : cA = cB := by
  have h1 := (hK.2 tys.length (cA, ty) (by rw [List.getElem?_append_right (Nat.le_refl _), Nat.sub_self]; rfl)).2
  have h2 := (hK.2 t (cB, ty) (by rw [List.getElem?_append_left (List.getElem?_eq_some_iff.mp ht).1]; exact ht)).2
  exact ev_RA_eq h1 h2
theorem ev_newR (ok : ev_ok w) (hM : ev_dec M = true) {idx : Nat} {n : Int32} (hi : ev_ins M pc = some (.anewarray idx, a, b)) (hl : ev_has (.classLink M.1.cls idx ev_Let) = true) (ho : ev_has (.arrayOver (.object ev_Let)) = true) (hn : ¬ n < 0) (hb : n.toNatClampNeg ≤ 10000) (h1 : h.length + 1 ≤ w.2.2.2.2.2.2.1) (h2 : ev_cost h + n.toNatClampNeg ≤ w.2.2.2.2.2.2.2.1)
    (kk : ev_G w M d h0 Q (pc + 3) L (.ref h.length :: st) (h ++ [.inl (3, n.toNatClampNeg, .inr (.inr (.inr (.inr (fun _ => none)))))])) : ev_G w M d h0 Q pc L (.int n :: st) h := by
  intro p e R s m args below meth c H locs ls C
  have hW := C.1.warm
  obtain ⟨r1, r2⟩ := C.room h1 h2
  refine va_newq C.1.1 C.1.2.1 C.1.own (ev_word ok hW hl args) (ev_word ok hW ho #[]) (va_K.moved hW.alike ok.2.1) C.2.2.2.1 (ev_ws_D w h) C.2.2.2.2.1 C.A hn rfl (by omega) r1 r2 (ev_dec_at hM hi) (fun x cA H1 hK1 hP1 hD1 hS1 => ?_)
  obtain rfl : cA = w.2.2.2.2.1 3 := ev_tyN (t := 3) hK1 rfl
  exact ev_G_app h1 h2 kk (y := .inl (3, n.toNatClampNeg, .inr (.inr (.inr (.inr (fun _ => none)))))) rfl C hP1 hD1 hS1
end EvHeap2
end
section
section EvNew
variable {w : ev_W} {M : ev_M} {d : Nat × Nat} {h0 : ev_H} {Q : ev_R → ev_H → Prop} {pc : Nat} {L : List (Option Value)} {st : List Value} {h : ev_H} {a b : Nat}
theorem ev_a0I (N : Nat) : ∀ cA : ClassId, vp_cell cA (N, .inl (fun _ => 0)) = arrV cA N (fun _ => defaultValue .int) := fun cA => by rw [vp_cell_i]; rfl
theorem ev_a0C (N : Nat) : ∀ cA : ClassId, vp_cell cA (N, .inl (fun _ => 0)) = arrV cA N (fun _ => defaultValue .char) := fun cA => by rw [vp_cell_i]; rfl
theorem ev_a0L (N : Nat) : ∀ cA : ClassId, vp_cell cA (N, .inr (.inl (fun _ => 0))) = arrV cA N (fun _ => defaultValue .long) := fun cA => by rw [vp_cell_l]; rfl
theorem ev_newI (ok : ev_ok w) (hM : ev_dec M = true) {n : Int32} (hi : ev_ins M pc = some (.newarray .int, a, b)) (hl : ev_has (.arrayClass .int) = true) (hn : ¬ n < 0) (hb : n.toNatClampNeg ≤ 10000) (h1 : h.length + 1 ≤ w.2.2.2.2.2.2.1) (h2 : ev_cost h + n.toNatClampNeg ≤ w.2.2.2.2.2.2.2.1)
    (kk : ev_G w M d h0 Q (pc + 2) L (.ref h.length :: st) (h ++ [.inl (0, n.toNatClampNeg, .inl (fun _ => 0))])) : ev_G w M d h0 Q pc L (.int n :: st) h := by
  intro p e R s m args below meth c H locs ls C
  have hW := C.1.warm
  obtain ⟨r1, r2⟩ := C.room h1 h2
  have e4 : componentBytes FieldType.int = 4 := rfl
  have hb4 : n.toNatClampNeg * componentBytes FieldType.int ≤ 536870912 := by rw [e4]; omega
  generalize hN : n.toNatClampNeg = N at hb4 r2 h2 kk ⊢
  refine va_newa (atype := .int) (ty := .int) (N' := N) (a0 := (N, .inl (fun _ => 0))) C.1.1 C.1.2.1 (ev_word ok hW hl args) rfl (va_K.moved hW.alike ok.2.1) C.2.2.2.1 (ev_ws_D w h) C.2.2.2.2.1 C.A (ev_a0I N) hn hN hb4 r1 r2 (ev_dec_at hM hi) (fun x cA H1 hK1 hP1 hD1 hS1 => ?_)
  obtain rfl : cA = w.2.2.2.2.1 0 := ev_tyN (t := 0) hK1 rfl
  exact ev_G_app h1 h2 kk (y := .inl (0, N, .inl (fun _ => 0))) rfl C hP1 hD1 hS1
theorem ev_newC (ok : ev_ok w) (hM : ev_dec M = true) {n : Int32} (hi : ev_ins M pc = some (.newarray .char, a, b)) (hl : ev_has (.arrayClass .char) = true) (hn : ¬ n < 0) (hb : n.toNatClampNeg ≤ 10000) (h1 : h.length + 1 ≤ w.2.2.2.2.2.2.1) (h2 : ev_cost h + n.toNatClampNeg ≤ w.2.2.2.2.2.2.2.1)
    (kk : ev_G w M d h0 Q (pc + 2) L (.ref h.length :: st) (h ++ [.inl (1, n.toNatClampNeg, .inl (fun _ => 0))])) : ev_G w M d h0 Q pc L (.int n :: st) h := by
  intro p e R s m args below meth c H locs ls C
  have hW := C.1.warm
  obtain ⟨r1, r2⟩ := C.room h1 h2
  have e4 : componentBytes FieldType.char = 2 := rfl
  have hb4 : n.toNatClampNeg * componentBytes FieldType.char ≤ 536870912 := by rw [e4]; omega
  generalize hN : n.toNatClampNeg = N at hb4 r2 h2 kk ⊢
  refine va_newa (atype := .char) (ty := .char) (N' := N) (a0 := (N, .inl (fun _ => 0))) C.1.1 C.1.2.1 (ev_word ok hW hl args) rfl (va_K.moved hW.alike ok.2.1) C.2.2.2.1 (ev_ws_D w h) C.2.2.2.2.1 C.A (ev_a0C N) hn hN hb4 r1 r2 (ev_dec_at hM hi) (fun x cA H1 hK1 hP1 hD1 hS1 => ?_)
  obtain rfl : cA = w.2.2.2.2.1 1 := ev_tyN (t := 1) hK1 rfl
  exact ev_G_app h1 h2 kk (y := .inl (1, N, .inl (fun _ => 0))) rfl C hP1 hD1 hS1
theorem ev_newL (ok : ev_ok w) (hM : ev_dec M = true) {n : Int32} (hi : ev_ins M pc = some (.newarray .long, a, b)) (hl : ev_has (.arrayClass .long) = true) (hn : ¬ n < 0) (hb : n.toNatClampNeg ≤ 10000) (h1 : h.length + 1 ≤ w.2.2.2.2.2.2.1) (h2 : ev_cost h + n.toNatClampNeg ≤ w.2.2.2.2.2.2.2.1)
    (kk : ev_G w M d h0 Q (pc + 2) L (.ref h.length :: st) (h ++ [.inl (2, n.toNatClampNeg, .inr (.inl (fun _ => 0)))])) : ev_G w M d h0 Q pc L (.int n :: st) h := by
  intro p e R s m args below meth c H locs ls C
  have hW := C.1.warm
  obtain ⟨r1, r2⟩ := C.room h1 h2
  have e4 : componentBytes FieldType.long = 8 := rfl
  have hb4 : n.toNatClampNeg * componentBytes FieldType.long ≤ 536870912 := by rw [e4]; omega
  generalize hN : n.toNatClampNeg = N at hb4 r2 h2 kk ⊢
  refine va_newa (atype := .long) (ty := .long) (N' := N) (a0 := (N, .inr (.inl (fun _ => 0)))) C.1.1 C.1.2.1 (ev_word ok hW hl args) rfl (va_K.moved hW.alike ok.2.1) C.2.2.2.1 (ev_ws_D w h) C.2.2.2.2.1 C.A (ev_a0L N) hn hN hb4 r1 r2 (ev_dec_at hM hi) (fun x cA H1 hK1 hP1 hD1 hS1 => ?_)
  obtain rfl : cA = w.2.2.2.2.1 2 := ev_tyN (t := 2) hK1 rfl
  exact ev_G_app h1 h2 kk (y := .inl (2, N, .inr (.inl (fun _ => 0)))) rfl C hP1 hD1 hS1
end EvNew
end
