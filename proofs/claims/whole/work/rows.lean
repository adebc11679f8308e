section
-- ===== PART A: goes FIRST, ahead of the names: the tables' words, and 'selects' of the private methods out of them =====
/-- a private method of a class that the tables say can be made, by its rows of tables_1 -/
def lw_okq (q : MethodName × Nat) : Prop := (q.1.cls ≠ "java/lang/invoke/MethodHandle" ∧ q.1.cls ≠ "java/lang/invoke/VarHandle") ∧ Cond.instantiable q.1.cls q.2 ∈ tables_1 ∧ Cond.privateMethod q.1 ∈ tables_1 ∧ Cond.instanceMethod q.1 ∈ tables_1
theorem lw_p0 : lw_okq (⟨"WitnessBench$Sheet", "writeEntry", "(LWitnessBench$Table;LWitnessBench$Words;IZ)V"⟩, 2) := ⟨⟨by decide +kernel, by decide +kernel⟩, List.mem_of_getElem? (i := 150) (by decide +kernel), List.mem_of_getElem? (i := 306) (by decide +kernel), List.mem_of_getElem? (i := 307) (by decide +kernel)⟩
theorem lw_p1 : lw_okq (⟨"WitnessBench$Sheet", "putNumber", "(I)V"⟩, 2) := ⟨⟨by decide +kernel, by decide +kernel⟩, List.mem_of_getElem? (i := 150) (by decide +kernel), List.mem_of_getElem? (i := 310) (by decide +kernel), List.mem_of_getElem? (i := 311) (by decide +kernel)⟩
theorem lw_p2 : lw_okq (⟨"WitnessBench$Sheet", "put", "(C)V"⟩, 2) := ⟨⟨by decide +kernel, by decide +kernel⟩, List.mem_of_getElem? (i := 150) (by decide +kernel), List.mem_of_getElem? (i := 314) (by decide +kernel), List.mem_of_getElem? (i := 315) (by decide +kernel)⟩
theorem lw_p3 : lw_okq (⟨"WitnessBench$Sheet", "putReading", "(LWitnessBench$Words;I)V"⟩, 2) := ⟨⟨by decide +kernel, by decide +kernel⟩, List.mem_of_getElem? (i := 150) (by decide +kernel), List.mem_of_getElem? (i := 318) (by decide +kernel), List.mem_of_getElem? (i := 319) (by decide +kernel)⟩
theorem lw_p4 : lw_okq (⟨"WitnessBench$Sheet", "putLetters", "(LWitnessBench$Letters;)V"⟩, 2) := ⟨⟨by decide +kernel, by decide +kernel⟩, List.mem_of_getElem? (i := 150) (by decide +kernel), List.mem_of_getElem? (i := 338) (by decide +kernel), List.mem_of_getElem? (i := 339) (by decide +kernel)⟩
theorem lw_p5 : lw_okq (⟨"WitnessBench$Sheet", "putGroup", "(LWitnessBench$Table;LWitnessBench$Words;II)V"⟩, 2) := ⟨⟨by decide +kernel, by decide +kernel⟩, List.mem_of_getElem? (i := 150) (by decide +kernel), List.mem_of_getElem? (i := 349) (by decide +kernel), List.mem_of_getElem? (i := 350) (by decide +kernel)⟩
theorem lw_p6 : lw_okq (⟨"WitnessBench$Rules", "ruleFor", "(LWitnessBench$Letters;I)I"⟩, 3) := ⟨⟨by decide +kernel, by decide +kernel⟩, List.mem_of_getElem? (i := 44) (by decide +kernel), List.mem_of_getElem? (i := 381) (by decide +kernel), List.mem_of_getElem? (i := 382) (by decide +kernel)⟩
theorem lw_p7 : lw_okq (⟨"java/lang/Throwable", "fillInStackTrace", "(I)Ljava/lang/Throwable;"⟩, 6) := ⟨⟨by decide +kernel, by decide +kernel⟩, List.mem_of_getElem? (i := 469) (by decide +kernel), List.mem_of_getElem? (i := 467) (by decide +kernel), List.mem_of_getElem? (i := 468) (by decide +kernel)⟩
theorem lw_p8 : lw_okq (⟨"WitnessBench$Words", "markAll", "()V"⟩, 9) := ⟨⟨by decide +kernel, by decide +kernel⟩, List.mem_of_getElem? (i := 63) (by decide +kernel), List.mem_of_getElem? (i := 590) (by decide +kernel), List.mem_of_getElem? (i := 591) (by decide +kernel)⟩
theorem lw_p9 : lw_okq (⟨"WitnessBench$Words", "makeEqual", "(II)V"⟩, 9) := ⟨⟨by decide +kernel, by decide +kernel⟩, List.mem_of_getElem? (i := 63) (by decide +kernel), List.mem_of_getElem? (i := 595) (by decide +kernel), List.mem_of_getElem? (i := 596) (by decide +kernel)⟩
theorem lw_p10 : lw_okq (⟨"WitnessBench", "checkWord", "(II)V"⟩, 12) := ⟨⟨by decide +kernel, by decide +kernel⟩, List.mem_of_getElem? (i := 22) (by decide +kernel), List.mem_of_getElem? (i := 627) (by decide +kernel), List.mem_of_getElem? (i := 628) (by decide +kernel)⟩
theorem lw_p11 : lw_okq (⟨"WitnessBench$Words", "edits", "(LWitnessBench$Letters;LWitnessBench$Letters;)I"⟩, 9) := ⟨⟨by decide +kernel, by decide +kernel⟩, List.mem_of_getElem? (i := 63) (by decide +kernel), List.mem_of_getElem? (i := 665) (by decide +kernel), List.mem_of_getElem? (i := 666) (by decide +kernel)⟩
theorem lw_p12 : lw_okq (⟨"WitnessBench$Joiner", "settle", "(III)V"⟩, 6) := ⟨⟨by decide +kernel, by decide +kernel⟩, List.mem_of_getElem? (i := 125) (by decide +kernel), List.mem_of_getElem? (i := 695) (by decide +kernel), List.mem_of_getElem? (i := 696) (by decide +kernel)⟩
theorem lw_p13 : lw_okq (⟨"WitnessBench$Joiner", "offer", "(III)V"⟩, 6) := ⟨⟨by decide +kernel, by decide +kernel⟩, List.mem_of_getElem? (i := 125) (by decide +kernel), List.mem_of_getElem? (i := 700) (by decide +kernel), List.mem_of_getElem? (i := 701) (by decide +kernel)⟩
theorem lw_p14 : lw_okq (⟨"WitnessBench$Joiner", "layPath", "()V"⟩, 6) := ⟨⟨by decide +kernel, by decide +kernel⟩, List.mem_of_getElem? (i := 125) (by decide +kernel), List.mem_of_getElem? (i := 704) (by decide +kernel), List.mem_of_getElem? (i := 705) (by decide +kernel)⟩
theorem lw_p15 : lw_okq (⟨"WitnessBench$Table", "hasWords", "(I)Z"⟩, 6) := ⟨⟨by decide +kernel, by decide +kernel⟩, List.mem_of_getElem? (i := 100) (by decide +kernel), List.mem_of_getElem? (i := 751) (by decide +kernel), List.mem_of_getElem? (i := 752) (by decide +kernel)⟩
def lw_privs_1 : List (MethodName × Nat) := [(⟨"WitnessBench$Sheet", "writeEntry", "(LWitnessBench$Table;LWitnessBench$Words;IZ)V"⟩, 2), (⟨"WitnessBench$Sheet", "putNumber", "(I)V"⟩, 2), (⟨"WitnessBench$Sheet", "put", "(C)V"⟩, 2), (⟨"WitnessBench$Sheet", "putReading", "(LWitnessBench$Words;I)V"⟩, 2), (⟨"WitnessBench$Sheet", "putLetters", "(LWitnessBench$Letters;)V"⟩, 2), (⟨"WitnessBench$Sheet", "putGroup", "(LWitnessBench$Table;LWitnessBench$Words;II)V"⟩, 2), (⟨"WitnessBench$Rules", "ruleFor", "(LWitnessBench$Letters;I)I"⟩, 3), (⟨"java/lang/Throwable", "fillInStackTrace", "(I)Ljava/lang/Throwable;"⟩, 6), (⟨"WitnessBench$Words", "markAll", "()V"⟩, 9), (⟨"WitnessBench$Words", "makeEqual", "(II)V"⟩, 9), (⟨"WitnessBench", "checkWord", "(II)V"⟩, 12), (⟨"WitnessBench$Words", "edits", "(LWitnessBench$Letters;LWitnessBench$Letters;)I"⟩, 9), (⟨"WitnessBench$Joiner", "settle", "(III)V"⟩, 6), (⟨"WitnessBench$Joiner", "offer", "(III)V"⟩, 6), (⟨"WitnessBench$Joiner", "layPath", "()V"⟩, 6), (⟨"WitnessBench$Table", "hasWords", "(I)Z"⟩, 6)]
theorem lw_r1 : ∀ q ∈ lw_privs_1, lw_okq q := List.forall_mem_cons.mpr ⟨lw_p0, List.forall_mem_cons.mpr ⟨lw_p1, List.forall_mem_cons.mpr ⟨lw_p2, List.forall_mem_cons.mpr ⟨lw_p3, List.forall_mem_cons.mpr ⟨lw_p4, List.forall_mem_cons.mpr ⟨lw_p5, List.forall_mem_cons.mpr ⟨lw_p6, List.forall_mem_cons.mpr ⟨lw_p7, List.forall_mem_cons.mpr ⟨lw_p8, List.forall_mem_cons.mpr ⟨lw_p9, List.forall_mem_cons.mpr ⟨lw_p10, List.forall_mem_cons.mpr ⟨lw_p11, List.forall_mem_cons.mpr ⟨lw_p12, List.forall_mem_cons.mpr ⟨lw_p13, List.forall_mem_cons.mpr ⟨lw_p14, List.forall_mem_cons.mpr ⟨lw_p15, fun _ h => absurd h List.not_mem_nil⟩⟩⟩⟩⟩⟩⟩⟩⟩⟩⟩⟩⟩⟩⟩⟩
theorem lw_p16 : lw_okq (⟨"WitnessBench", "checkPlace", "(I)V"⟩, 12) := ⟨⟨by decide +kernel, by decide +kernel⟩, List.mem_of_getElem? (i := 22) (by decide +kernel), List.mem_of_getElem? (i := 763) (by decide +kernel), List.mem_of_getElem? (i := 764) (by decide +kernel)⟩
theorem lw_p17 : lw_okq (⟨"WitnessBench", "checkJoined", "(I)V"⟩, 12) := ⟨⟨by decide +kernel, by decide +kernel⟩, List.mem_of_getElem? (i := 22) (by decide +kernel), List.mem_of_getElem? (i := 787) (by decide +kernel), List.mem_of_getElem? (i := 788) (by decide +kernel)⟩
theorem lw_p18 : lw_okq (⟨"WitnessBench", "checkSheet", "(I)V"⟩, 12) := ⟨⟨by decide +kernel, by decide +kernel⟩, List.mem_of_getElem? (i := 22) (by decide +kernel), List.mem_of_getElem? (i := 815) (by decide +kernel), List.mem_of_getElem? (i := 816) (by decide +kernel)⟩
theorem lw_p19 : lw_okq (⟨"WitnessBench$Reader", "readEntry", "(LWitnessBench$Sheet;LWitnessBench$Table;LWitnessBench$Words;)Z"⟩, 7) := ⟨⟨by decide +kernel, by decide +kernel⟩, List.mem_of_getElem? (i := 163) (by decide +kernel), List.mem_of_getElem? (i := 848) (by decide +kernel), List.mem_of_getElem? (i := 849) (by decide +kernel)⟩
theorem lw_p20 : lw_okq (⟨"WitnessBench$Reader", "readPlace", "(LWitnessBench$Sheet;LWitnessBench$Table;)Z"⟩, 7) := ⟨⟨by decide +kernel, by decide +kernel⟩, List.mem_of_getElem? (i := 163) (by decide +kernel), List.mem_of_getElem? (i := 852) (by decide +kernel), List.mem_of_getElem? (i := 853) (by decide +kernel)⟩
theorem lw_p21 : lw_okq (⟨"WitnessBench$Reader", "readSign", "(LWitnessBench$Sheet;C)Z"⟩, 7) := ⟨⟨by decide +kernel, by decide +kernel⟩, List.mem_of_getElem? (i := 163) (by decide +kernel), List.mem_of_getElem? (i := 862) (by decide +kernel), List.mem_of_getElem? (i := 863) (by decide +kernel)⟩
theorem lw_p22 : lw_okq (⟨"WitnessBench$Reader", "readLemma", "(LWitnessBench$Sheet;LWitnessBench$Table;LWitnessBench$Words;)Z"⟩, 7) := ⟨⟨by decide +kernel, by decide +kernel⟩, List.mem_of_getElem? (i := 163) (by decide +kernel), List.mem_of_getElem? (i := 866) (by decide +kernel), List.mem_of_getElem? (i := 867) (by decide +kernel)⟩
theorem lw_p23 : lw_okq (⟨"WitnessBench$Reader", "readLetters", "(LWitnessBench$Sheet;LWitnessBench$Letters;)Z"⟩, 7) := ⟨⟨by decide +kernel, by decide +kernel⟩, List.mem_of_getElem? (i := 163) (by decide +kernel), List.mem_of_getElem? (i := 873) (by decide +kernel), List.mem_of_getElem? (i := 874) (by decide +kernel)⟩
theorem lw_p24 : lw_okq (⟨"WitnessBench$Reader", "readGroup", "(LWitnessBench$Sheet;LWitnessBench$Table;)Z"⟩, 7) := ⟨⟨by decide +kernel, by decide +kernel⟩, List.mem_of_getElem? (i := 163) (by decide +kernel), List.mem_of_getElem? (i := 877) (by decide +kernel), List.mem_of_getElem? (i := 878) (by decide +kernel)⟩
theorem lw_p25 : lw_okq (⟨"WitnessBench$Reader", "readReading", "(LWitnessBench$Sheet;)Z"⟩, 7) := ⟨⟨by decide +kernel, by decide +kernel⟩, List.mem_of_getElem? (i := 163) (by decide +kernel), List.mem_of_getElem? (i := 881) (by decide +kernel), List.mem_of_getElem? (i := 882) (by decide +kernel)⟩
theorem lw_p26 : lw_okq (⟨"WitnessBench$Reader", "readWitnesses", "(LWitnessBench$Sheet;LWitnessBench$Table;I)Z"⟩, 7) := ⟨⟨by decide +kernel, by decide +kernel⟩, List.mem_of_getElem? (i := 163) (by decide +kernel), List.mem_of_getElem? (i := 885) (by decide +kernel), List.mem_of_getElem? (i := 886) (by decide +kernel)⟩
theorem lw_p27 : lw_okq (⟨"WitnessBench$Reader", "buildAll", "(LWitnessBench$Sheet;LWitnessBench$Table;LWitnessBench$Words;)V"⟩, 7) := ⟨⟨by decide +kernel, by decide +kernel⟩, List.mem_of_getElem? (i := 163) (by decide +kernel), List.mem_of_getElem? (i := 890) (by decide +kernel), List.mem_of_getElem? (i := 891) (by decide +kernel)⟩
theorem lw_p28 : lw_okq (⟨"WitnessBench$Reader", "buildReading", "(LWitnessBench$Sheet;I)V"⟩, 7) := ⟨⟨by decide +kernel, by decide +kernel⟩, List.mem_of_getElem? (i := 163) (by decide +kernel), List.mem_of_getElem? (i := 894) (by decide +kernel), List.mem_of_getElem? (i := 895) (by decide +kernel)⟩
theorem lw_p29 : lw_okq (⟨"WitnessBench$BlockFinder", "keep", "(III)V"⟩, 2) := ⟨⟨by decide +kernel, by decide +kernel⟩, List.mem_of_getElem? (i := 193) (by decide +kernel), List.mem_of_getElem? (i := 941) (by decide +kernel), List.mem_of_getElem? (i := 942) (by decide +kernel)⟩
theorem lw_p30 : lw_okq (⟨"WitnessBench$Family", "takeReadings", "(LWitnessBench$Table;LWitnessBench$Words;I)V"⟩, 3) := ⟨⟨by decide +kernel, by decide +kernel⟩, List.mem_of_getElem? (i := 206) (by decide +kernel), List.mem_of_getElem? (i := 988) (by decide +kernel), List.mem_of_getElem? (i := 989) (by decide +kernel)⟩
theorem lw_p31 : lw_okq (⟨"WitnessBench$Family", "startCosts", "()V"⟩, 3) := ⟨⟨by decide +kernel, by decide +kernel⟩, List.mem_of_getElem? (i := 206) (by decide +kernel), List.mem_of_getElem? (i := 996) (by decide +kernel), List.mem_of_getElem? (i := 997) (by decide +kernel)⟩
def lw_privs_2 : List (MethodName × Nat) := [(⟨"WitnessBench", "checkPlace", "(I)V"⟩, 12), (⟨"WitnessBench", "checkJoined", "(I)V"⟩, 12), (⟨"WitnessBench", "checkSheet", "(I)V"⟩, 12), (⟨"WitnessBench$Reader", "readEntry", "(LWitnessBench$Sheet;LWitnessBench$Table;LWitnessBench$Words;)Z"⟩, 7), (⟨"WitnessBench$Reader", "readPlace", "(LWitnessBench$Sheet;LWitnessBench$Table;)Z"⟩, 7), (⟨"WitnessBench$Reader", "readSign", "(LWitnessBench$Sheet;C)Z"⟩, 7), (⟨"WitnessBench$Reader", "readLemma", "(LWitnessBench$Sheet;LWitnessBench$Table;LWitnessBench$Words;)Z"⟩, 7), (⟨"WitnessBench$Reader", "readLetters", "(LWitnessBench$Sheet;LWitnessBench$Letters;)Z"⟩, 7), (⟨"WitnessBench$Reader", "readGroup", "(LWitnessBench$Sheet;LWitnessBench$Table;)Z"⟩, 7), (⟨"WitnessBench$Reader", "readReading", "(LWitnessBench$Sheet;)Z"⟩, 7), (⟨"WitnessBench$Reader", "readWitnesses", "(LWitnessBench$Sheet;LWitnessBench$Table;I)Z"⟩, 7), (⟨"WitnessBench$Reader", "buildAll", "(LWitnessBench$Sheet;LWitnessBench$Table;LWitnessBench$Words;)V"⟩, 7), (⟨"WitnessBench$Reader", "buildReading", "(LWitnessBench$Sheet;I)V"⟩, 7), (⟨"WitnessBench$BlockFinder", "keep", "(III)V"⟩, 2), (⟨"WitnessBench$Family", "takeReadings", "(LWitnessBench$Table;LWitnessBench$Words;I)V"⟩, 3), (⟨"WitnessBench$Family", "startCosts", "()V"⟩, 3)]
theorem lw_r2 : ∀ q ∈ lw_privs_2, lw_okq q := List.forall_mem_cons.mpr ⟨lw_p16, List.forall_mem_cons.mpr ⟨lw_p17, List.forall_mem_cons.mpr ⟨lw_p18, List.forall_mem_cons.mpr ⟨lw_p19, List.forall_mem_cons.mpr ⟨lw_p20, List.forall_mem_cons.mpr ⟨lw_p21, List.forall_mem_cons.mpr ⟨lw_p22, List.forall_mem_cons.mpr ⟨lw_p23, List.forall_mem_cons.mpr ⟨lw_p24, List.forall_mem_cons.mpr ⟨lw_p25, List.forall_mem_cons.mpr ⟨lw_p26, List.forall_mem_cons.mpr ⟨lw_p27, List.forall_mem_cons.mpr ⟨lw_p28, List.forall_mem_cons.mpr ⟨lw_p29, List.forall_mem_cons.mpr ⟨lw_p30, List.forall_mem_cons.mpr ⟨lw_p31, fun _ h => absurd h List.not_mem_nil⟩⟩⟩⟩⟩⟩⟩⟩⟩⟩⟩⟩⟩⟩⟩⟩
theorem lw_p32 : lw_okq (⟨"WitnessBench$Family", "depthOf", "(I)I"⟩, 3) := ⟨⟨by decide +kernel, by decide +kernel⟩, List.mem_of_getElem? (i := 206) (by decide +kernel), List.mem_of_getElem? (i := 1000) (by decide +kernel), List.mem_of_getElem? (i := 1001) (by decide +kernel)⟩
theorem lw_p33 : lw_okq (⟨"WitnessBench$Family", "handUp", "(I)I"⟩, 3) := ⟨⟨by decide +kernel, by decide +kernel⟩, List.mem_of_getElem? (i := 206) (by decide +kernel), List.mem_of_getElem? (i := 1004) (by decide +kernel), List.mem_of_getElem? (i := 1005) (by decide +kernel)⟩
theorem lw_p34 : lw_okq (⟨"WitnessBench$Family", "leastCost", "(I)I"⟩, 3) := ⟨⟨by decide +kernel, by decide +kernel⟩, List.mem_of_getElem? (i := 206) (by decide +kernel), List.mem_of_getElem? (i := 1008) (by decide +kernel), List.mem_of_getElem? (i := 1009) (by decide +kernel)⟩
theorem lw_p35 : lw_okq (⟨"WitnessBenchModel", "isJoined", "(I)Z"⟩, 47) := ⟨⟨by decide +kernel, by decide +kernel⟩, List.mem_of_getElem? (i := 1013) (by decide +kernel), List.mem_of_getElem? (i := 1180) (by decide +kernel), List.mem_of_getElem? (i := 1181) (by decide +kernel)⟩
theorem lw_p36 : lw_okq (⟨"WitnessBenchModel", "settle", "()V"⟩, 47) := ⟨⟨by decide +kernel, by decide +kernel⟩, List.mem_of_getElem? (i := 1013) (by decide +kernel), List.mem_of_getElem? (i := 1184) (by decide +kernel), List.mem_of_getElem? (i := 1185) (by decide +kernel)⟩
theorem lw_p37 : lw_okq (⟨"WitnessBenchModel", "isThere", "(I)Z"⟩, 47) := ⟨⟨by decide +kernel, by decide +kernel⟩, List.mem_of_getElem? (i := 1013) (by decide +kernel), List.mem_of_getElem? (i := 1188) (by decide +kernel), List.mem_of_getElem? (i := 1189) (by decide +kernel)⟩
theorem lw_p38 : lw_okq (⟨"WitnessBenchModel", "workForm", "(II)V"⟩, 47) := ⟨⟨by decide +kernel, by decide +kernel⟩, List.mem_of_getElem? (i := 1013) (by decide +kernel), List.mem_of_getElem? (i := 1192) (by decide +kernel), List.mem_of_getElem? (i := 1193) (by decide +kernel)⟩
theorem lw_p39 : lw_okq (⟨"WitnessBenchModel", "ruleAt", "(III)I"⟩, 47) := ⟨⟨by decide +kernel, by decide +kernel⟩, List.mem_of_getElem? (i := 1013) (by decide +kernel), List.mem_of_getElem? (i := 1196) (by decide +kernel), List.mem_of_getElem? (i := 1197) (by decide +kernel)⟩
theorem lw_p40 : lw_okq (⟨"WitnessBenchModel", "stands", "(IIII)Z"⟩, 47) := ⟨⟨by decide +kernel, by decide +kernel⟩, List.mem_of_getElem? (i := 1013) (by decide +kernel), List.mem_of_getElem? (i := 1200) (by decide +kernel), List.mem_of_getElem? (i := 1201) (by decide +kernel)⟩
theorem lw_p41 : lw_okq (⟨"WitnessBenchModel", "letter", "(II)I"⟩, 47) := ⟨⟨by decide +kernel, by decide +kernel⟩, List.mem_of_getElem? (i := 1013) (by decide +kernel), List.mem_of_getElem? (i := 1204) (by decide +kernel), List.mem_of_getElem? (i := 1205) (by decide +kernel)⟩
theorem lw_p42 : lw_okq (⟨"WitnessBenchModel", "alike", "(II)Z"⟩, 47) := ⟨⟨by decide +kernel, by decide +kernel⟩, List.mem_of_getElem? (i := 1013) (by decide +kernel), List.mem_of_getElem? (i := 1208) (by decide +kernel), List.mem_of_getElem? (i := 1209) (by decide +kernel)⟩
theorem lw_p43 : lw_okq (⟨"WitnessBenchModel", "isGap", "(I)Z"⟩, 47) := ⟨⟨by decide +kernel, by decide +kernel⟩, List.mem_of_getElem? (i := 1013) (by decide +kernel), List.mem_of_getElem? (i := 1212) (by decide +kernel), List.mem_of_getElem? (i := 1213) (by decide +kernel)⟩
theorem lw_p44 : lw_okq (⟨"WitnessBenchModel", "even", "(II)Z"⟩, 47) := ⟨⟨by decide +kernel, by decide +kernel⟩, List.mem_of_getElem? (i := 1013) (by decide +kernel), List.mem_of_getElem? (i := 1216) (by decide +kernel), List.mem_of_getElem? (i := 1217) (by decide +kernel)⟩
theorem lw_p45 : lw_okq (⟨"WitnessBenchModel", "isWord", "(II)Z"⟩, 47) := ⟨⟨by decide +kernel, by decide +kernel⟩, List.mem_of_getElem? (i := 1013) (by decide +kernel), List.mem_of_getElem? (i := 1228) (by decide +kernel), List.mem_of_getElem? (i := 1229) (by decide +kernel)⟩
theorem lw_p46 : lw_okq (⟨"WitnessBenchModel", "far", "(II)I"⟩, 47) := ⟨⟨by decide +kernel, by decide +kernel⟩, List.mem_of_getElem? (i := 1013) (by decide +kernel), List.mem_of_getElem? (i := 1240) (by decide +kernel), List.mem_of_getElem? (i := 1241) (by decide +kernel)⟩
theorem lw_p47 : lw_okq (⟨"WitnessBenchModel", "apart", "(II)I"⟩, 47) := ⟨⟨by decide +kernel, by decide +kernel⟩, List.mem_of_getElem? (i := 1013) (by decide +kernel), List.mem_of_getElem? (i := 1244) (by decide +kernel), List.mem_of_getElem? (i := 1245) (by decide +kernel)⟩
def lw_privs_3 : List (MethodName × Nat) := [(⟨"WitnessBench$Family", "depthOf", "(I)I"⟩, 3), (⟨"WitnessBench$Family", "handUp", "(I)I"⟩, 3), (⟨"WitnessBench$Family", "leastCost", "(I)I"⟩, 3), (⟨"WitnessBenchModel", "isJoined", "(I)Z"⟩, 47), (⟨"WitnessBenchModel", "settle", "()V"⟩, 47), (⟨"WitnessBenchModel", "isThere", "(I)Z"⟩, 47), (⟨"WitnessBenchModel", "workForm", "(II)V"⟩, 47), (⟨"WitnessBenchModel", "ruleAt", "(III)I"⟩, 47), (⟨"WitnessBenchModel", "stands", "(IIII)Z"⟩, 47), (⟨"WitnessBenchModel", "letter", "(II)I"⟩, 47), (⟨"WitnessBenchModel", "alike", "(II)Z"⟩, 47), (⟨"WitnessBenchModel", "isGap", "(I)Z"⟩, 47), (⟨"WitnessBenchModel", "even", "(II)Z"⟩, 47), (⟨"WitnessBenchModel", "isWord", "(II)Z"⟩, 47), (⟨"WitnessBenchModel", "far", "(II)I"⟩, 47), (⟨"WitnessBenchModel", "apart", "(II)I"⟩, 47)]
theorem lw_r3 : ∀ q ∈ lw_privs_3, lw_okq q := List.forall_mem_cons.mpr ⟨lw_p32, List.forall_mem_cons.mpr ⟨lw_p33, List.forall_mem_cons.mpr ⟨lw_p34, List.forall_mem_cons.mpr ⟨lw_p35, List.forall_mem_cons.mpr ⟨lw_p36, List.forall_mem_cons.mpr ⟨lw_p37, List.forall_mem_cons.mpr ⟨lw_p38, List.forall_mem_cons.mpr ⟨lw_p39, List.forall_mem_cons.mpr ⟨lw_p40, List.forall_mem_cons.mpr ⟨lw_p41, List.forall_mem_cons.mpr ⟨lw_p42, List.forall_mem_cons.mpr ⟨lw_p43, List.forall_mem_cons.mpr ⟨lw_p44, List.forall_mem_cons.mpr ⟨lw_p45, List.forall_mem_cons.mpr ⟨lw_p46, List.forall_mem_cons.mpr ⟨lw_p47, fun _ h => absurd h List.not_mem_nil⟩⟩⟩⟩⟩⟩⟩⟩⟩⟩⟩⟩⟩⟩⟩⟩
theorem lw_p48 : lw_okq (⟨"WitnessBenchModel", "least", "(II)I"⟩, 47) := ⟨⟨by decide +kernel, by decide +kernel⟩, List.mem_of_getElem? (i := 1013) (by decide +kernel), List.mem_of_getElem? (i := 1248) (by decide +kernel), List.mem_of_getElem? (i := 1249) (by decide +kernel)⟩
theorem lw_p49 : lw_okq (⟨"WitnessBenchModel", "workOut", "(I)V"⟩, 47) := ⟨⟨by decide +kernel, by decide +kernel⟩, List.mem_of_getElem? (i := 1013) (by decide +kernel), List.mem_of_getElem? (i := 1256) (by decide +kernel), List.mem_of_getElem? (i := 1257) (by decide +kernel)⟩
theorem lw_p50 : lw_okq (⟨"WitnessBenchModel", "match", "(III)I"⟩, 47) := ⟨⟨by decide +kernel, by decide +kernel⟩, List.mem_of_getElem? (i := 1013) (by decide +kernel), List.mem_of_getElem? (i := 1260) (by decide +kernel), List.mem_of_getElem? (i := 1261) (by decide +kernel)⟩
theorem lw_p51 : lw_okq (⟨"WitnessBenchModel", "cost", "(III)I"⟩, 47) := ⟨⟨by decide +kernel, by decide +kernel⟩, List.mem_of_getElem? (i := 1013) (by decide +kernel), List.mem_of_getElem? (i := 1264) (by decide +kernel), List.mem_of_getElem? (i := 1265) (by decide +kernel)⟩
theorem lw_p52 : lw_okq (⟨"WitnessBenchModel", "putIn", "(I)I"⟩, 47) := ⟨⟨by decide +kernel, by decide +kernel⟩, List.mem_of_getElem? (i := 1013) (by decide +kernel), List.mem_of_getElem? (i := 1268) (by decide +kernel), List.mem_of_getElem? (i := 1269) (by decide +kernel)⟩
theorem lw_p53 : lw_okq (⟨"WitnessBenchModel", "step", "(III)I"⟩, 47) := ⟨⟨by decide +kernel, by decide +kernel⟩, List.mem_of_getElem? (i := 1013) (by decide +kernel), List.mem_of_getElem? (i := 1272) (by decide +kernel), List.mem_of_getElem? (i := 1273) (by decide +kernel)⟩
theorem lw_p54 : lw_okq (⟨"WitnessBenchModel", "stepOf", "(IIII)I"⟩, 47) := ⟨⟨by decide +kernel, by decide +kernel⟩, List.mem_of_getElem? (i := 1013) (by decide +kernel), List.mem_of_getElem? (i := 1276) (by decide +kernel), List.mem_of_getElem? (i := 1277) (by decide +kernel)⟩
theorem lw_p55 : lw_okq (⟨"WitnessBenchModel", "open", "(II)V"⟩, 47) := ⟨⟨by decide +kernel, by decide +kernel⟩, List.mem_of_getElem? (i := 1013) (by decide +kernel), List.mem_of_getElem? (i := 1280) (by decide +kernel), List.mem_of_getElem? (i := 1281) (by decide +kernel)⟩
theorem lw_p56 : lw_okq (⟨"WitnessBenchModel", "move", "(II)V"⟩, 47) := ⟨⟨by decide +kernel, by decide +kernel⟩, List.mem_of_getElem? (i := 1013) (by decide +kernel), List.mem_of_getElem? (i := 1284) (by decide +kernel), List.mem_of_getElem? (i := 1285) (by decide +kernel)⟩
theorem lw_p57 : lw_okq (⟨"WitnessBenchModel", "isPlace", "(I)Z"⟩, 47) := ⟨⟨by decide +kernel, by decide +kernel⟩, List.mem_of_getElem? (i := 1013) (by decide +kernel), List.mem_of_getElem? (i := 1300) (by decide +kernel), List.mem_of_getElem? (i := 1301) (by decide +kernel)⟩
theorem lw_p58 : lw_okq (⟨"WitnessBenchModel", "placeOf", "(I)I"⟩, 47) := ⟨⟨by decide +kernel, by decide +kernel⟩, List.mem_of_getElem? (i := 1013) (by decide +kernel), List.mem_of_getElem? (i := 1308) (by decide +kernel), List.mem_of_getElem? (i := 1309) (by decide +kernel)⟩
theorem lw_p59 : lw_okq (⟨"WitnessBenchModel", "lemma", "(I)I"⟩, 47) := ⟨⟨by decide +kernel, by decide +kernel⟩, List.mem_of_getElem? (i := 1013) (by decide +kernel), List.mem_of_getElem? (i := 1324) (by decide +kernel), List.mem_of_getElem? (i := 1325) (by decide +kernel)⟩
theorem lw_p60 : lw_okq (⟨"WitnessBenchModel", "readsAlike", "(II)Z"⟩, 47) := ⟨⟨by decide +kernel, by decide +kernel⟩, List.mem_of_getElem? (i := 1013) (by decide +kernel), List.mem_of_getElem? (i := 1328) (by decide +kernel), List.mem_of_getElem? (i := 1329) (by decide +kernel)⟩
theorem lw_p61 : lw_okq (⟨"WitnessBenchModel", "sayEntry", "(IZ)V"⟩, 47) := ⟨⟨by decide +kernel, by decide +kernel⟩, List.mem_of_getElem? (i := 1013) (by decide +kernel), List.mem_of_getElem? (i := 1332) (by decide +kernel), List.mem_of_getElem? (i := 1333) (by decide +kernel)⟩
theorem lw_p62 : lw_okq (⟨"WitnessBenchModel", "say", "(I)V"⟩, 47) := ⟨⟨by decide +kernel, by decide +kernel⟩, List.mem_of_getElem? (i := 1013) (by decide +kernel), List.mem_of_getElem? (i := 1336) (by decide +kernel), List.mem_of_getElem? (i := 1337) (by decide +kernel)⟩
theorem lw_p63 : lw_okq (⟨"WitnessBenchModel", "sayReading", "(I)V"⟩, 47) := ⟨⟨by decide +kernel, by decide +kernel⟩, List.mem_of_getElem? (i := 1013) (by decide +kernel), List.mem_of_getElem? (i := 1340) (by decide +kernel), List.mem_of_getElem? (i := 1341) (by decide +kernel)⟩
def lw_privs_4 : List (MethodName × Nat) := [(⟨"WitnessBenchModel", "least", "(II)I"⟩, 47), (⟨"WitnessBenchModel", "workOut", "(I)V"⟩, 47), (⟨"WitnessBenchModel", "match", "(III)I"⟩, 47), (⟨"WitnessBenchModel", "cost", "(III)I"⟩, 47), (⟨"WitnessBenchModel", "putIn", "(I)I"⟩, 47), (⟨"WitnessBenchModel", "step", "(III)I"⟩, 47), (⟨"WitnessBenchModel", "stepOf", "(IIII)I"⟩, 47), (⟨"WitnessBenchModel", "open", "(II)V"⟩, 47), (⟨"WitnessBenchModel", "move", "(II)V"⟩, 47), (⟨"WitnessBenchModel", "isPlace", "(I)Z"⟩, 47), (⟨"WitnessBenchModel", "placeOf", "(I)I"⟩, 47), (⟨"WitnessBenchModel", "lemma", "(I)I"⟩, 47), (⟨"WitnessBenchModel", "readsAlike", "(II)Z"⟩, 47), (⟨"WitnessBenchModel", "sayEntry", "(IZ)V"⟩, 47), (⟨"WitnessBenchModel", "say", "(I)V"⟩, 47), (⟨"WitnessBenchModel", "sayReading", "(I)V"⟩, 47)]
theorem lw_r4 : ∀ q ∈ lw_privs_4, lw_okq q := List.forall_mem_cons.mpr ⟨lw_p48, List.forall_mem_cons.mpr ⟨lw_p49, List.forall_mem_cons.mpr ⟨lw_p50, List.forall_mem_cons.mpr ⟨lw_p51, List.forall_mem_cons.mpr ⟨lw_p52, List.forall_mem_cons.mpr ⟨lw_p53, List.forall_mem_cons.mpr ⟨lw_p54, List.forall_mem_cons.mpr ⟨lw_p55, List.forall_mem_cons.mpr ⟨lw_p56, List.forall_mem_cons.mpr ⟨lw_p57, List.forall_mem_cons.mpr ⟨lw_p58, List.forall_mem_cons.mpr ⟨lw_p59, List.forall_mem_cons.mpr ⟨lw_p60, List.forall_mem_cons.mpr ⟨lw_p61, List.forall_mem_cons.mpr ⟨lw_p62, List.forall_mem_cons.mpr ⟨lw_p63, fun _ h => absurd h List.not_mem_nil⟩⟩⟩⟩⟩⟩⟩⟩⟩⟩⟩⟩⟩⟩⟩⟩
theorem lw_p64 : lw_okq (⟨"WitnessBenchModel", "isReadBelow", "(III)Z"⟩, 47) := ⟨⟨by decide +kernel, by decide +kernel⟩, List.mem_of_getElem? (i := 1013) (by decide +kernel), List.mem_of_getElem? (i := 1344) (by decide +kernel), List.mem_of_getElem? (i := 1345) (by decide +kernel)⟩
theorem lw_p65 : lw_okq (⟨"WitnessBenchModel", "sayGroup", "(IIZ)V"⟩, 47) := ⟨⟨by decide +kernel, by decide +kernel⟩, List.mem_of_getElem? (i := 1013) (by decide +kernel), List.mem_of_getElem? (i := 1348) (by decide +kernel), List.mem_of_getElem? (i := 1349) (by decide +kernel)⟩
theorem lw_p66 : lw_okq (⟨"WitnessBenchModel", "readAll", "(I)V"⟩, 47) := ⟨⟨by decide +kernel, by decide +kernel⟩, List.mem_of_getElem? (i := 1013) (by decide +kernel), List.mem_of_getElem? (i := 1364) (by decide +kernel), List.mem_of_getElem? (i := 1365) (by decide +kernel)⟩
theorem lw_p67 : lw_okq (⟨"WitnessBenchModel", "next", "()V"⟩, 47) := ⟨⟨by decide +kernel, by decide +kernel⟩, List.mem_of_getElem? (i := 1013) (by decide +kernel), List.mem_of_getElem? (i := 1368) (by decide +kernel), List.mem_of_getElem? (i := 1369) (by decide +kernel)⟩
theorem lw_p68 : lw_okq (⟨"WitnessBenchModel", "many", "(III)I"⟩, 47) := ⟨⟨by decide +kernel, by decide +kernel⟩, List.mem_of_getElem? (i := 1013) (by decide +kernel), List.mem_of_getElem? (i := 1372) (by decide +kernel), List.mem_of_getElem? (i := 1373) (by decide +kernel)⟩
theorem lw_p69 : lw_okq (⟨"WitnessBenchModel", "isFrom", "(III)Z"⟩, 47) := ⟨⟨by decide +kernel, by decide +kernel⟩, List.mem_of_getElem? (i := 1013) (by decide +kernel), List.mem_of_getElem? (i := 1376) (by decide +kernel), List.mem_of_getElem? (i := 1377) (by decide +kernel)⟩
theorem lw_p70 : lw_okq (⟨"WitnessBenchModel", "numberAbove", "(I)I"⟩, 47) := ⟨⟨by decide +kernel, by decide +kernel⟩, List.mem_of_getElem? (i := 1013) (by decide +kernel), List.mem_of_getElem? (i := 1380) (by decide +kernel), List.mem_of_getElem? (i := 1381) (by decide +kernel)⟩
theorem lw_p71 : lw_okq (⟨"WitnessBenchModel", "pass", "(Z)V"⟩, 47) := ⟨⟨by decide +kernel, by decide +kernel⟩, List.mem_of_getElem? (i := 1013) (by decide +kernel), List.mem_of_getElem? (i := 1384) (by decide +kernel), List.mem_of_getElem? (i := 1385) (by decide +kernel)⟩
theorem lw_p72 : lw_okq (⟨"WitnessBenchModel", "keepWord", "(I)V"⟩, 47) := ⟨⟨by decide +kernel, by decide +kernel⟩, List.mem_of_getElem? (i := 1013) (by decide +kernel), List.mem_of_getElem? (i := 1388) (by decide +kernel), List.mem_of_getElem? (i := 1389) (by decide +kernel)⟩
theorem lw_p73 : lw_okq (⟨"WitnessBenchModel", "isLemma", "(I)Z"⟩, 47) := ⟨⟨by decide +kernel, by decide +kernel⟩, List.mem_of_getElem? (i := 1013) (by decide +kernel), List.mem_of_getElem? (i := 1392) (by decide +kernel), List.mem_of_getElem? (i := 1393) (by decide +kernel)⟩
theorem lw_p74 : lw_okq (⟨"WitnessBenchModel", "groups", "(I)I"⟩, 47) := ⟨⟨by decide +kernel, by decide +kernel⟩, List.mem_of_getElem? (i := 1013) (by decide +kernel), List.mem_of_getElem? (i := 1396) (by decide +kernel), List.mem_of_getElem? (i := 1397) (by decide +kernel)⟩
theorem lw_p75 : lw_okq (⟨"WitnessBenchModel", "siglaWith", "(I)I"⟩, 47) := ⟨⟨by decide +kernel, by decide +kernel⟩, List.mem_of_getElem? (i := 1013) (by decide +kernel), List.mem_of_getElem? (i := 1400) (by decide +kernel), List.mem_of_getElem? (i := 1401) (by decide +kernel)⟩
theorem lw_p76 : lw_okq (⟨"WitnessBenchModel", "keepText", "(I)V"⟩, 47) := ⟨⟨by decide +kernel, by decide +kernel⟩, List.mem_of_getElem? (i := 1013) (by decide +kernel), List.mem_of_getElem? (i := 1404) (by decide +kernel), List.mem_of_getElem? (i := 1405) (by decide +kernel)⟩
theorem lw_p77 : lw_okq (⟨"WitnessBenchModel", "isText", "(IZ)Z"⟩, 47) := ⟨⟨by decide +kernel, by decide +kernel⟩, List.mem_of_getElem? (i := 1013) (by decide +kernel), List.mem_of_getElem? (i := 1416) (by decide +kernel), List.mem_of_getElem? (i := 1417) (by decide +kernel)⟩
theorem lw_p78 : lw_okq (⟨"WitnessBenchModel", "isMoved", "(IIII)Z"⟩, 47) := ⟨⟨by decide +kernel, by decide +kernel⟩, List.mem_of_getElem? (i := 1013) (by decide +kernel), List.mem_of_getElem? (i := 1428) (by decide +kernel), List.mem_of_getElem? (i := 1429) (by decide +kernel)⟩
theorem lw_p79 : lw_okq (⟨"WitnessBenchModel", "changesAt", "(I)I"⟩, 47) := ⟨⟨by decide +kernel, by decide +kernel⟩, List.mem_of_getElem? (i := 1013) (by decide +kernel), List.mem_of_getElem? (i := 1444) (by decide +kernel), List.mem_of_getElem? (i := 1445) (by decide +kernel)⟩
def lw_privs_5 : List (MethodName × Nat) := [(⟨"WitnessBenchModel", "isReadBelow", "(III)Z"⟩, 47), (⟨"WitnessBenchModel", "sayGroup", "(IIZ)V"⟩, 47), (⟨"WitnessBenchModel", "readAll", "(I)V"⟩, 47), (⟨"WitnessBenchModel", "next", "()V"⟩, 47), (⟨"WitnessBenchModel", "many", "(III)I"⟩, 47), (⟨"WitnessBenchModel", "isFrom", "(III)Z"⟩, 47), (⟨"WitnessBenchModel", "numberAbove", "(I)I"⟩, 47), (⟨"WitnessBenchModel", "pass", "(Z)V"⟩, 47), (⟨"WitnessBenchModel", "keepWord", "(I)V"⟩, 47), (⟨"WitnessBenchModel", "isLemma", "(I)Z"⟩, 47), (⟨"WitnessBenchModel", "groups", "(I)I"⟩, 47), (⟨"WitnessBenchModel", "siglaWith", "(I)I"⟩, 47), (⟨"WitnessBenchModel", "keepText", "(I)V"⟩, 47), (⟨"WitnessBenchModel", "isText", "(IZ)Z"⟩, 47), (⟨"WitnessBenchModel", "isMoved", "(IIII)Z"⟩, 47), (⟨"WitnessBenchModel", "changesAt", "(I)I"⟩, 47)]
theorem lw_r5 : ∀ q ∈ lw_privs_5, lw_okq q := List.forall_mem_cons.mpr ⟨lw_p64, List.forall_mem_cons.mpr ⟨lw_p65, List.forall_mem_cons.mpr ⟨lw_p66, List.forall_mem_cons.mpr ⟨lw_p67, List.forall_mem_cons.mpr ⟨lw_p68, List.forall_mem_cons.mpr ⟨lw_p69, List.forall_mem_cons.mpr ⟨lw_p70, List.forall_mem_cons.mpr ⟨lw_p71, List.forall_mem_cons.mpr ⟨lw_p72, List.forall_mem_cons.mpr ⟨lw_p73, List.forall_mem_cons.mpr ⟨lw_p74, List.forall_mem_cons.mpr ⟨lw_p75, List.forall_mem_cons.mpr ⟨lw_p76, List.forall_mem_cons.mpr ⟨lw_p77, List.forall_mem_cons.mpr ⟨lw_p78, List.forall_mem_cons.mpr ⟨lw_p79, fun _ h => absurd h List.not_mem_nil⟩⟩⟩⟩⟩⟩⟩⟩⟩⟩⟩⟩⟩⟩⟩⟩
theorem lw_p80 : lw_okq (⟨"WitnessBenchModel", "note", "(I)V"⟩, 47) := ⟨⟨by decide +kernel, by decide +kernel⟩, List.mem_of_getElem? (i := 1013) (by decide +kernel), List.mem_of_getElem? (i := 1448) (by decide +kernel), List.mem_of_getElem? (i := 1449) (by decide +kernel)⟩
theorem lw_p81 : lw_okq (⟨"WitnessBenchModel", "tried", "(I)I"⟩, 47) := ⟨⟨by decide +kernel, by decide +kernel⟩, List.mem_of_getElem? (i := 1013) (by decide +kernel), List.mem_of_getElem? (i := 1452) (by decide +kernel), List.mem_of_getElem? (i := 1453) (by decide +kernel)⟩
def lw_privs_6 : List (MethodName × Nat) := [(⟨"WitnessBenchModel", "note", "(I)V"⟩, 47), (⟨"WitnessBenchModel", "tried", "(I)I"⟩, 47)]
theorem lw_r6 : ∀ q ∈ lw_privs_6, lw_okq q := List.forall_mem_cons.mpr ⟨lw_p80, List.forall_mem_cons.mpr ⟨lw_p81, fun _ h => absurd h List.not_mem_nil⟩⟩
def lw_privs : List (MethodName × Nat) := lw_privs_1 ++ (lw_privs_2 ++ (lw_privs_3 ++ (lw_privs_4 ++ (lw_privs_5 ++ (lw_privs_6)))))
def lw_tbl : List Cond := k2_sels lw_privs ++ tables_1
theorem lw_privs_ok : ∀ q ∈ lw_privs, lw_okq q := by
  show ∀ q ∈ lw_privs_1 ++ (lw_privs_2 ++ (lw_privs_3 ++ (lw_privs_4 ++ (lw_privs_5 ++ (lw_privs_6))))), lw_okq q
  exact List.forall_mem_append.mpr ⟨lw_r1, List.forall_mem_append.mpr ⟨lw_r2, List.forall_mem_append.mpr ⟨lw_r3, List.forall_mem_append.mpr ⟨lw_r4, List.forall_mem_append.mpr ⟨lw_r5, lw_r6⟩⟩⟩⟩⟩
end
section
/-! the classes, their fields; the four exceptions without fields -/
def ev_Let : String := "WitnessBench$Letters"
def ev_host : String := "WitnessBench"
def ev_nc : Nat := 11
def ev_ciL : Nat := 0
def ev_fl (l : List (String × String × String × Bool)) : u_T := fun k => (l[k]?).getD ("", "", "", false)
def ev_q0 : vw_C := (ev_Let, ev_fl [("WitnessBench$Letters", "row", "[C", true), ("WitnessBench$Letters", "length", "I", false)], 2)
def ev_q1 : vw_C := ("WitnessBench$Rules", ev_fl [("WitnessBench$Rules", "lefts", "[LWitnessBench$Letters;", true), ("WitnessBench$Rules", "rights", "[LWitnessBench$Letters;", true), ("WitnessBench$Rules", "count", "I", false)], 3)
def ev_q2 : vw_C := ("WitnessBench$Words", ev_fl [("WitnessBench$Words", "spellings", "[LWitnessBench$Letters;", true), ("WitnessBench$Words", "forms", "[LWitnessBench$Letters;", true), ("WitnessBench$Words", "counts", "[I", true), ("WitnessBench$Words", "alikeMarks", "[I", true), ("WitnessBench$Words", "equalMarks", "[I", true), ("WitnessBench$Words", "equalFirsts", "[I", true), ("WitnessBench$Words", "equalSeconds", "[I", true), ("WitnessBench$Words", "equalityCount", "I", false), ("WitnessBench$Words", "editRow", "[I", true)], 9)
def ev_q3 : vw_C := ("WitnessBench$Table", ev_fl [("WitnessBench$Table", "cells", "[I", true), ("WitnessBench$Table", "choices", "[I", true), ("WitnessBench$Table", "placeCount", "I", false), ("WitnessBench$Table", "joined", "[I", true), ("WitnessBench$Table", "joinedCount", "I", false), ("WitnessBench$Table", "baseWitness", "I", false)], 6)
def ev_q4 : vw_C := ("WitnessBench$Joiner", ev_fl [("WitnessBench$Joiner", "costs", "[I", true), ("WitnessBench$Joiner", "steps", "[I", true), ("WitnessBench$Joiner", "path", "[I", true), ("WitnessBench$Joiner", "pathLength", "I", false), ("WitnessBench$Joiner", "oldPlaces", "I", false), ("WitnessBench$Joiner", "newWords", "I", false)], 6)
def ev_q5 : vw_C := ("WitnessBench$Sheet", ev_fl [("WitnessBench$Sheet", "row", "[C", true), ("WitnessBench$Sheet", "length", "I", false)], 2)
def ev_q6 : vw_C := ("WitnessBench$Reader", ev_fl [("WitnessBench$Reader", "builtForms", "[LWitnessBench$Letters;", true), ("WitnessBench$Reader", "builtFormCount", "I", false), ("WitnessBench$Reader", "readingPlaces", "[I", true), ("WitnessBench$Reader", "sought", "I", false), ("WitnessBench$Reader", "next", "I", false), ("WitnessBench$Reader", "place", "I", false), ("WitnessBench$Reader", "seenWitnesses", "I", false)], 7)
def ev_q7 : vw_C := ("WitnessBench$BlockFinder", ev_fl [("WitnessBench$BlockFinder", "fields", "[I", true), ("WitnessBench$BlockFinder", "blockCount", "I", false)], 2)
def ev_q8 : vw_C := ("WitnessBench$Family", ev_fl [("WitnessBench$Family", "parents", "[I", true), ("WitnessBench$Family", "readings", "[I", true), ("WitnessBench$Family", "costs", "[I", true)], 3)
def ev_q9 : vw_C := ("WitnessBench", ev_fl [("WitnessBench", "draft", "LWitnessBench$Letters;", true), ("WitnessBench", "draftForm", "LWitnessBench$Letters;", true), ("WitnessBench", "rules", "LWitnessBench$Rules;", true), ("WitnessBench", "words", "LWitnessBench$Words;", true), ("WitnessBench", "table", "LWitnessBench$Table;", true), ("WitnessBench", "joiner", "LWitnessBench$Joiner;", true), ("WitnessBench", "sheet", "LWitnessBench$Sheet;", true), ("WitnessBench", "reader", "LWitnessBench$Reader;", true), ("WitnessBench", "finds", "[I", true), ("WitnessBench", "findCount", "I", false), ("WitnessBench", "blockFinder", "LWitnessBench$BlockFinder;", true), ("WitnessBench", "family", "LWitnessBench$Family;", true)], 12)
def ev_q10 : vw_C := ("WitnessBenchModel", ev_fl [("WitnessBenchModel", "thrown", "I", false), ("WitnessBenchModel", "draft", "[I", true), ("WitnessBenchModel", "drafted", "I", false), ("WitnessBenchModel", "sizes", "[I", true), ("WitnessBenchModel", "letters", "[I", true), ("WitnessBenchModel", "lengths", "[I", true), ("WitnessBenchModel", "forms", "[I", true), ("WitnessBenchModel", "formLengths", "[I", true), ("WitnessBenchModel", "group", "[I", true), ("WitnessBenchModel", "rules", "I", false), ("WitnessBenchModel", "lefts", "[I", true), ("WitnessBenchModel", "leftLengths", "[I", true), ("WitnessBenchModel", "rights", "[I", true), ("WitnessBenchModel", "rightLengths", "[I", true), ("WitnessBenchModel", "pairs", "I", false), ("WitnessBenchModel", "ones", "[I", true), ("WitnessBenchModel", "others", "[I", true), ("WitnessBenchModel", "text", "[I", true), ("WitnessBenchModel", "textLength", "I", false), ("WitnessBenchModel", "joined", "I", false), ("WitnessBenchModel", "order", "[I", true), ("WitnessBenchModel", "base", "I", false), ("WitnessBenchModel", "places", "I", false), ("WitnessBenchModel", "words", "[I", true), ("WitnessBenchModel", "choices", "[I", true), ("WitnessBenchModel", "parents", "[I", true), ("WitnessBenchModel", "costs", "[I", true), ("WitnessBenchModel", "edits", "[I", true), ("WitnessBenchModel", "outLength", "I", false), ("WitnessBenchModel", "out", "[I", true), ("WitnessBenchModel", "at", "I", false), ("WitnessBenchModel", "start", "I", false), ("WitnessBenchModel", "token", "I", false), ("WitnessBenchModel", "wrong", "Z", false), ("WitnessBenchModel", "built", "I", false), ("WitnessBenchModel", "builtLengths", "[I", true), ("WitnessBenchModel", "builtLetters", "[I", true), ("WitnessBenchModel", "fresh", "I", false), ("WitnessBenchModel", "freshLengths", "[I", true), ("WitnessBenchModel", "freshLetters", "[I", true), ("WitnessBenchModel", "finds", "I", false), ("WitnessBenchModel", "found", "[I", true), ("WitnessBenchModel", "blocks", "I", false), ("WitnessBenchModel", "block", "[I", true), ("WitnessBenchModel", "reads", "[I", true), ("WitnessBenchModel", "readings", "[I", true), ("WitnessBenchModel", "different", "I", false)], 47)
def ev_q11 : vw_C := ("java/lang/IllegalArgumentException", ev_fl [], 0)
def ev_q12 : vw_C := ("java/lang/IllegalStateException", ev_fl [], 0)
def ev_q13 : vw_C := ("java/lang/IndexOutOfBoundsException", ev_fl [], 0)
def ev_q14 : vw_C := ("java/lang/UnsupportedOperationException", ev_fl [], 0)
def ev_cl : List vw_C := [ev_q0, ev_q1, ev_q2, ev_q3, ev_q4, ev_q5, ev_q6, ev_q7, ev_q8, ev_q9, ev_q10, ev_q11, ev_q12, ev_q13, ev_q14]
theorem ev_clL : ev_cl[ev_ciL]? = some ev_q0 := rfl
def ev_sz (c : Nat) : Nat := if c < ev_nc then ((ev_cl[c]?).map (fun q => q.2.2)).getD 0 else 6
/-- the names of the classes that the law catches, by their entries; the texts, by theirs -/
def ev_cn (k : Nat) : String := (([(13, "java/lang/IllegalArgumentException"), (15, "java/lang/IllegalStateException"), (25, "java/lang/IndexOutOfBoundsException"), (27, "java/lang/UnsupportedOperationException")] : List (Nat × String)).lookup k).getD ""
def ev_tx (k : Nat) : String := (([(83, "not a letter a .. z"), (94, "the draft is full"), (101, "the draft has not so many letters"), (113, "the witness is joined"), (115, "the draft is too long for a word"), (123, "the witness is full"), (129, "the draft is no such rule"), (133, "no more rules"), (153, "a gap equals no word"), (158, "no more equalities"), (170, "the witness is joined, or has no words"), (179, "too many places"), (188, "no witness is joined"), (260, "not so many were found"), (263, "the witnesses are the same"), (270, "no such block"), (278, "a witness above itself"), (286, "no such witness"), (288, "no such word"), (290, "no such place"), (292, "the witness is not joined"), (294, "no such character")] : List (Nat × String)).lookup k).getD ""
def ev_nots : List Cond := [.not (.castable "java/lang/IllegalArgumentException" "java/lang/IllegalStateException"), .not (.castable "java/lang/IllegalArgumentException" "java/lang/IndexOutOfBoundsException"), .not (.castable "java/lang/IllegalArgumentException" "java/lang/UnsupportedOperationException"), .not (.castable "java/lang/IllegalStateException" "java/lang/IllegalArgumentException"), .not (.castable "java/lang/IllegalStateException" "java/lang/IndexOutOfBoundsException"), .not (.castable "java/lang/IllegalStateException" "java/lang/UnsupportedOperationException"), .not (.castable "java/lang/IndexOutOfBoundsException" "java/lang/IllegalArgumentException"), .not (.castable "java/lang/IndexOutOfBoundsException" "java/lang/IllegalStateException"), .not (.castable "java/lang/IndexOutOfBoundsException" "java/lang/UnsupportedOperationException"), .not (.castable "java/lang/UnsupportedOperationException" "java/lang/IllegalArgumentException"), .not (.castable "java/lang/UnsupportedOperationException" "java/lang/IllegalStateException"), .not (.castable "java/lang/UnsupportedOperationException" "java/lang/IndexOutOfBoundsException")]
end
section
/-! the tables' words by kind, for a quick look-up -/
section EvWords
def ev_tF_0 : List (Nat × String × String × String × String) := [(9, "WitnessBench$Letters", "WitnessBench$Letters", "row", "[C"), (15, "WitnessBench$Letters", "WitnessBench$Letters", "length", "I"), (11, "WitnessBench$Rules", "WitnessBench$Rules", "lefts", "[LWitnessBench$Letters;"), (17, "WitnessBench$Rules", "WitnessBench$Rules", "rights", "[LWitnessBench$Letters;"), (23, "WitnessBench$Rules", "WitnessBench$Rules", "count", "I"), (11, "WitnessBench$Words", "WitnessBench$Words", "spellings", "[LWitnessBench$Letters;"), (17, "WitnessBench$Words", "WitnessBench$Words", "forms", "[LWitnessBench$Letters;"), (23, "WitnessBench$Words", "WitnessBench$Words", "counts", "[I"), (27, "WitnessBench$Words", "WitnessBench$Words", "alikeMarks", "[I"), (30, "WitnessBench$Words", "WitnessBench$Words", "equalMarks", "[I"), (33, "WitnessBench$Words", "WitnessBench$Words", "equalFirsts", "[I"), (36, "WitnessBench$Words", "WitnessBench$Words", "equalSeconds", "[I"), (46, "WitnessBench$Words", "WitnessBench$Words", "equalityCount", "I"), (39, "WitnessBench$Words", "WitnessBench$Words", "editRow", "[I"), (9, "WitnessBench$Table", "WitnessBench$Table", "cells", "[I"), (15, "WitnessBench$Table", "WitnessBench$Table", "choices", "[I"), (25, "WitnessBench$Table", "WitnessBench$Table", "placeCount", "I"), (18, "WitnessBench$Table", "WitnessBench$Table", "joined", "[I"), (28, "WitnessBench$Table", "WitnessBench$Table", "joinedCount", "I"), (21, "WitnessBench$Table", "WitnessBench$Table", "baseWitness", "I"), (11, "WitnessBench$Joiner", "WitnessBench$Joiner", "costs", "[I"), (15, "WitnessBench$Joiner", "WitnessBench$Joiner", "steps", "[I"), (18, "WitnessBench$Joiner", "WitnessBench$Joiner", "path", "[I"), (54, "WitnessBench$Joiner", "WitnessBench$Joiner", "pathLength", "I"), (27, "WitnessBench$Joiner", "WitnessBench$Joiner", "oldPlaces", "I"), (36, "WitnessBench$Joiner", "WitnessBench$Joiner", "newWords", "I"), (9, "WitnessBench$Sheet", "WitnessBench$Sheet", "row", "[C"), (15, "WitnessBench$Sheet", "WitnessBench$Sheet", "length", "I"), (11, "WitnessBench$Reader", "WitnessBench$Reader", "builtForms", "[LWitnessBench$Letters;"), (24, "WitnessBench$Reader", "WitnessBench$Reader", "builtFormCount", "I"), (20, "WitnessBench$Reader", "WitnessBench$Reader", "readingPlaces", "[I"), (40, "WitnessBench$Reader", "WitnessBench$Reader", "sought", "I"), (43, "WitnessBench$Reader", "WitnessBench$Reader", "next", "I"), (46, "WitnessBench$Reader", "WitnessBench$Reader", "place", "I"), (77, "WitnessBench$Reader", "WitnessBench$Reader", "seenWitnesses", "I"), (11, "WitnessBench$BlockFinder", "WitnessBench$BlockFinder", "fields", "[I"), (15, "WitnessBench$BlockFinder", "WitnessBench$BlockFinder", "blockCount", "I"), (9, "WitnessBench$Family", "WitnessBench$Family", "parents", "[I"), (21, "WitnessBench$Family", "WitnessBench$Family", "readings", "[I"), (24, "WitnessBench$Family", "WitnessBench$Family", "costs", "[I"), (14, "WitnessBench", "WitnessBench", "draft", "LWitnessBench$Letters;"), (18, "WitnessBench", "WitnessBench", "draftForm", "LWitnessBench$Letters;"), (24, "WitnessBench", "WitnessBench", "rules", "LWitnessBench$Rules;"), (31, "WitnessBench", "WitnessBench", "words", "LWitnessBench$Words;"), (38, "WitnessBench", "WitnessBench", "table", "LWitnessBench$Table;"), (45, "WitnessBench", "WitnessBench", "joiner", "LWitnessBench$Joiner;"), (52, "WitnessBench", "WitnessBench", "sheet", "LWitnessBench$Sheet;"), (59, "WitnessBench", "WitnessBench", "reader", "LWitnessBench$Reader;"), (63, "WitnessBench", "WitnessBench", "finds", "[I"), (239, "WitnessBench", "WitnessBench", "findCount", "I"), (70, "WitnessBench", "WitnessBench", "blockFinder", "LWitnessBench$BlockFinder;"), (77, "WitnessBench", "WitnessBench", "family", "LWitnessBench$Family;"), (198, "java/lang/Throwable", "java/lang/Throwable", "backtrace", "Ljava/lang/Object;"), (13, "java/lang/Throwable", "java/lang/Throwable", "UNASSIGNED_STACK", "[Ljava/lang/StackTraceElement;"), (20, "java/lang/Throwable", "java/lang/Throwable", "SUPPRESSED_SENTINEL", "Ljava/util/List;"), (198, "java/lang/Throwable", "java/lang/Throwable", "backtrace", "Ljava/lang/Object;"), (31, "java/lang/Throwable", "java/lang/Throwable", "detailMessage", "Ljava/lang/String;"), (7, "java/lang/Throwable", "java/lang/Throwable", "cause", "Ljava/lang/Throwable;"), (17, "java/lang/Throwable", "java/lang/Throwable", "stackTrace", "[Ljava/lang/StackTraceElement;"), (24, "java/lang/Throwable", "java/lang/Throwable", "suppressedExceptions", "Ljava/util/List;")]
def ev_tF_1 : List (Nat × String × String × String × String) := [(101, "WitnessBenchModel", "WitnessBenchModel", "thrown", "I"), (7, "WitnessBenchModel", "WitnessBenchModel", "draft", "[I"), (114, "WitnessBenchModel", "WitnessBenchModel", "drafted", "I"), (13, "WitnessBenchModel", "WitnessBenchModel", "sizes", "[I"), (16, "WitnessBenchModel", "WitnessBenchModel", "letters", "[I"), (19, "WitnessBenchModel", "WitnessBenchModel", "lengths", "[I"), (22, "WitnessBenchModel", "WitnessBenchModel", "forms", "[I"), (25, "WitnessBenchModel", "WitnessBenchModel", "formLengths", "[I"), (28, "WitnessBenchModel", "WitnessBenchModel", "group", "[I"), (121, "WitnessBenchModel", "WitnessBenchModel", "rules", "I"), (31, "WitnessBenchModel", "WitnessBenchModel", "lefts", "[I"), (34, "WitnessBenchModel", "WitnessBenchModel", "leftLengths", "[I"), (37, "WitnessBenchModel", "WitnessBenchModel", "rights", "[I"), (40, "WitnessBenchModel", "WitnessBenchModel", "rightLengths", "[I"), (152, "WitnessBenchModel", "WitnessBenchModel", "pairs", "I"), (43, "WitnessBenchModel", "WitnessBenchModel", "ones", "[I"), (46, "WitnessBenchModel", "WitnessBenchModel", "others", "[I"), (49, "WitnessBenchModel", "WitnessBenchModel", "text", "[I"), (128, "WitnessBenchModel", "WitnessBenchModel", "textLength", "I"), (108, "WitnessBenchModel", "WitnessBenchModel", "joined", "I"), (52, "WitnessBenchModel", "WitnessBenchModel", "order", "[I"), (55, "WitnessBenchModel", "WitnessBenchModel", "base", "I"), (111, "WitnessBenchModel", "WitnessBenchModel", "places", "I"), (59, "WitnessBenchModel", "WitnessBenchModel", "words", "[I"), (62, "WitnessBenchModel", "WitnessBenchModel", "choices", "[I"), (65, "WitnessBenchModel", "WitnessBenchModel", "parents", "[I"), (68, "WitnessBenchModel", "WitnessBenchModel", "costs", "[I"), (71, "WitnessBenchModel", "WitnessBenchModel", "edits", "[I"), (206, "WitnessBenchModel", "WitnessBenchModel", "outLength", "I"), (74, "WitnessBenchModel", "WitnessBenchModel", "out", "[I"), (233, "WitnessBenchModel", "WitnessBenchModel", "at", "I"), (239, "WitnessBenchModel", "WitnessBenchModel", "start", "I"), (242, "WitnessBenchModel", "WitnessBenchModel", "token", "I"), (248, "WitnessBenchModel", "WitnessBenchModel", "wrong", "Z"), (283, "WitnessBenchModel", "WitnessBenchModel", "built", "I"), (77, "WitnessBenchModel", "WitnessBenchModel", "builtLengths", "[I"), (80, "WitnessBenchModel", "WitnessBenchModel", "builtLetters", "[I"), (262, "WitnessBenchModel", "WitnessBenchModel", "fresh", "I"), (83, "WitnessBenchModel", "WitnessBenchModel", "freshLengths", "[I"), (86, "WitnessBenchModel", "WitnessBenchModel", "freshLetters", "[I"), (290, "WitnessBenchModel", "WitnessBenchModel", "finds", "I"), (89, "WitnessBenchModel", "WitnessBenchModel", "found", "[I"), (293, "WitnessBenchModel", "WitnessBenchModel", "blocks", "I"), (92, "WitnessBenchModel", "WitnessBenchModel", "block", "[I"), (95, "WitnessBenchModel", "WitnessBenchModel", "reads", "[I"), (98, "WitnessBenchModel", "WitnessBenchModel", "readings", "[I"), (299, "WitnessBenchModel", "WitnessBenchModel", "different", "I")]
def ev_tF : List (Nat × String × String × String × String) := ev_tF_0 ++ ev_tF_1
def ev_tM_0 : List (Nat × String × String × String × String) := [(89, "WitnessBenchLaw", "WitnessBench", "<init>", "()V"), (3, "WitnessBench", "java/lang/Object", "<init>", "()V"), (11, "WitnessBench", "WitnessBench$Letters", "<init>", "(I)V"), (3, "WitnessBench$Letters", "java/lang/Object", "<init>", "()V"), (23, "WitnessBench", "WitnessBench$Rules", "<init>", "()V"), (3, "WitnessBench$Rules", "java/lang/Object", "<init>", "()V"), (20, "WitnessBench$Rules", "WitnessBench$Letters", "<init>", "(I)V"), (30, "WitnessBench", "WitnessBench$Words", "<init>", "()V"), (3, "WitnessBench$Words", "java/lang/Object", "<init>", "()V"), (20, "WitnessBench$Words", "WitnessBench$Letters", "<init>", "(I)V"), (37, "WitnessBench", "WitnessBench$Table", "<init>", "()V"), (3, "WitnessBench$Table", "java/lang/Object", "<init>", "()V"), (44, "WitnessBench", "WitnessBench$Joiner", "<init>", "()V"), (3, "WitnessBench$Joiner", "java/lang/Object", "<init>", "()V"), (51, "WitnessBench", "WitnessBench$Sheet", "<init>", "()V"), (3, "WitnessBench$Sheet", "java/lang/Object", "<init>", "()V"), (58, "WitnessBench", "WitnessBench$Reader", "<init>", "()V"), (3, "WitnessBench$Reader", "java/lang/Object", "<init>", "()V"), (17, "WitnessBench$Reader", "WitnessBench$Letters", "<init>", "(I)V"), (69, "WitnessBench", "WitnessBench$BlockFinder", "<init>", "()V"), (3, "WitnessBench$BlockFinder", "java/lang/Object", "<init>", "()V"), (76, "WitnessBench", "WitnessBench$Family", "<init>", "()V"), (3, "WitnessBench$Family", "java/lang/Object", "<init>", "()V"), (15, "WitnessBench$Family", "java/util/Arrays", "fill", "([II)V"), (131, "WitnessBenchLaw", "WitnessBench", "places", "()I"), (193, "WitnessBench", "WitnessBench$Table", "count", "()I"), (149, "WitnessBenchLaw", "WitnessBench", "apparatus", "(Z)I"), (213, "WitnessBench", "WitnessBench$Sheet", "write", "(LWitnessBench$Table;LWitnessBench$Words;Z)V"), (19, "WitnessBench$Sheet", "WitnessBench$Table", "count", "()I"), (25, "WitnessBench$Sheet", "WitnessBench$Sheet", "needsEntry", "(LWitnessBench$Table;LWitnessBench$Words;I)Z"), (33, "WitnessBench$Sheet", "WitnessBench$Table", "lemma", "(I)I"), (38, "WitnessBench$Table", "WitnessBench$Table", "numberAt", "(II)I"), (31, "WitnessBench$Table", "WitnessBench$Table", "cell", "(II)I"), (37, "WitnessBench$Sheet", "WitnessBench$Table", "isJoined", "(I)Z"), (41, "WitnessBench$Sheet", "WitnessBench$Table", "numberAt", "(II)I"), (45, "WitnessBench$Sheet", "WitnessBench$Words", "areAlike", "(II)Z"), (29, "WitnessBench$Sheet", "WitnessBench$Sheet", "writeEntry", "(LWitnessBench$Table;LWitnessBench$Words;IZ)V"), (51, "WitnessBench$Sheet", "WitnessBench$Sheet", "putNumber", "(I)V"), (55, "WitnessBench$Sheet", "WitnessBench$Sheet", "put", "(C)V"), (59, "WitnessBench$Sheet", "WitnessBench$Sheet", "putReading", "(LWitnessBench$Words;I)V"), (71, "WitnessBench$Sheet", "WitnessBench$Words", "isGap", "(I)Z"), (42, "WitnessBench$Words", "WitnessBench$Letters", "isGap", "()Z"), (74, "WitnessBench$Sheet", "WitnessBench$Words", "formOf", "(I)LWitnessBench$Letters;"), (78, "WitnessBench$Sheet", "WitnessBench$Letters", "size", "()I"), (83, "WitnessBench$Sheet", "WitnessBench$Sheet", "putLetters", "(LWitnessBench$Letters;)V"), (87, "WitnessBench$Sheet", "WitnessBench$Letters", "letter", "(I)C"), (63, "WitnessBench$Sheet", "WitnessBench$Sheet", "firstReader", "(LWitnessBench$Table;LWitnessBench$Words;II)I"), (67, "WitnessBench$Sheet", "WitnessBench$Sheet", "putGroup", "(LWitnessBench$Table;LWitnessBench$Words;II)V"), (217, "WitnessBench", "WitnessBench$Sheet", "size", "()I"), (164, "WitnessBenchLaw", "WitnessBench", "built", "(II)I"), (236, "WitnessBench", "WitnessBench$Reader", "builtLetter", "(II)I"), (28, "WitnessBench$Reader", "WitnessBench$Letters", "isGap", "()Z"), (32, "WitnessBench$Reader", "WitnessBench$Letters", "size", "()I"), (36, "WitnessBench$Reader", "WitnessBench$Letters", "letter", "(I)C"), (168, "WitnessBenchLaw", "WitnessBench", "concord", "()I"), (243, "WitnessBench", "WitnessBench$Rules", "bring", "(LWitnessBench$Letters;LWitnessBench$Letters;)V"), (35, "WitnessBench$Rules", "WitnessBench$Letters", "keep", "(I)V"), (31, "WitnessBench$Rules", "WitnessBench$Letters", "size", "()I"), (38, "WitnessBench$Rules", "WitnessBench$Rules", "ruleFor", "(LWitnessBench$Letters;I)I"), (53, "WitnessBench$Rules", "WitnessBench$Letters", "standsIn", "(LWitnessBench$Letters;I)Z")]
def ev_tM_1 : List (Nat × String × String × String × String) := [(42, "WitnessBench$Rules", "WitnessBench$Letters", "letter", "(I)C"), (46, "WitnessBench$Rules", "WitnessBench$Letters", "add", "(C)V"), (27, "WitnessBench$Rules", "WitnessBench$Letters", "addPart", "(LWitnessBench$Letters;II)V"), (19, "WitnessBench$Letters", "WitnessBench$Letters", "add", "(C)V"), (50, "WitnessBench$Rules", "WitnessBench$Letters", "becomeGap", "()V"), (247, "WitnessBench", "WitnessBench$Words", "firstAlike", "(LWitnessBench$Letters;)I"), (71, "WitnessBench$Words", "WitnessBench$Words", "isThere", "(I)Z"), (75, "WitnessBench$Words", "WitnessBench$Letters", "isSame", "(LWitnessBench$Letters;)Z"), (34, "WitnessBench$Letters", "WitnessBench$Letters", "standsIn", "(LWitnessBench$Letters;I)Z"), (251, "WitnessBench", "WitnessBench$Words", "isThere", "(I)Z"), (254, "WitnessBench", "WitnessBench$Words", "areEqual", "(II)Z"), (93, "WitnessBenchLaw", "WitnessBenchLaw", "type", "(LWitnessBench;C[J)I"), (7, "WitnessBenchLaw", "WitnessBench", "type", "(C)I"), (1, "java/lang/Throwable", "java/lang/Object", "<init>", "()V"), (27, "java/lang/Throwable", "java/lang/Throwable", "fillInStackTrace", "()Ljava/lang/Throwable;"), (202, "java/lang/Throwable", "java/lang/Throwable", "fillInStackTrace", "(I)Ljava/lang/Throwable;"), (85, "WitnessBench", "java/lang/IllegalArgumentException", "<init>", "(Ljava/lang/String;)V"), (7, "java/lang/IllegalArgumentException", "java/lang/RuntimeException", "<init>", "(Ljava/lang/String;)V"), (7, "java/lang/RuntimeException", "java/lang/Exception", "<init>", "(Ljava/lang/String;)V"), (7, "java/lang/Exception", "java/lang/Throwable", "<init>", "(Ljava/lang/String;)V"), (88, "WitnessBench", "WitnessBench$Letters", "size", "()I"), (96, "WitnessBench", "java/lang/IllegalStateException", "<init>", "(Ljava/lang/String;)V"), (7, "java/lang/IllegalStateException", "java/lang/RuntimeException", "<init>", "(Ljava/lang/String;)V"), (97, "WitnessBench", "WitnessBench$Letters", "add", "(C)V"), (102, "WitnessBenchLaw", "WitnessBenchLaw", "cut", "(LWitnessBench;I)I"), (17, "WitnessBenchLaw", "WitnessBench", "cut", "(I)V"), (103, "WitnessBench", "WitnessBench$Letters", "keep", "(I)V"), (106, "WitnessBenchLaw", "WitnessBenchLaw", "word", "(LWitnessBench;I[J)I"), (21, "WitnessBenchLaw", "WitnessBench", "word", "(I)I"), (106, "WitnessBench", "WitnessBench", "checkWitness", "(I)V"), (262, "WitnessBench", "java/lang/IndexOutOfBoundsException", "<init>", "(Ljava/lang/String;)V"), (7, "java/lang/IndexOutOfBoundsException", "java/lang/RuntimeException", "<init>", "(Ljava/lang/String;)V"), (109, "WitnessBench", "WitnessBench$Table", "isJoined", "(I)Z"), (117, "WitnessBench", "WitnessBench$Words", "count", "(I)I"), (125, "WitnessBench", "java/lang/UnsupportedOperationException", "<init>", "(Ljava/lang/String;)V"), (7, "java/lang/UnsupportedOperationException", "java/lang/RuntimeException", "<init>", "(Ljava/lang/String;)V"), (126, "WitnessBench", "WitnessBench$Words", "add", "(ILWitnessBench$Letters;LWitnessBench$Rules;)V"), (54, "WitnessBench$Words", "WitnessBench$Letters", "become", "(LWitnessBench$Letters;)V"), (23, "WitnessBench$Letters", "WitnessBench$Letters", "addPart", "(LWitnessBench$Letters;II)V"), (27, "WitnessBench$Letters", "WitnessBench$Letters", "isGap", "()Z"), (31, "WitnessBench$Letters", "WitnessBench$Letters", "becomeGap", "()V"), (58, "WitnessBench$Words", "WitnessBench$Rules", "bring", "(LWitnessBench$Letters;LWitnessBench$Letters;)V"), (64, "WitnessBench$Words", "WitnessBench$Words", "markAll", "()V"), (94, "WitnessBench$Words", "WitnessBench$Words", "firstAlike", "(LWitnessBench$Letters;)I"), (67, "WitnessBench$Words", "WitnessBench$Words", "makeEqual", "(II)V"), (110, "WitnessBenchLaw", "WitnessBenchLaw", "rule", "(LWitnessBench;I[J)I"), (29, "WitnessBenchLaw", "WitnessBench", "rule", "(I)I"), (131, "WitnessBench", "WitnessBench$Rules", "count", "()I"), (135, "WitnessBench", "WitnessBench$Rules", "add", "(LWitnessBench$Letters;I)V"), (138, "WitnessBench", "WitnessBench$Words", "formAll", "(LWitnessBench$Rules;)V"), (113, "WitnessBenchLaw", "WitnessBenchLaw", "equate", "(LWitnessBench;IIII[J)I"), (32, "WitnessBenchLaw", "WitnessBench", "equate", "(IIII)I"), (142, "WitnessBench", "WitnessBench", "checkWord", "(II)V"), (146, "WitnessBench", "WitnessBench", "number", "(II)I"), (150, "WitnessBench", "WitnessBench$Words", "isGap", "(I)Z"), (155, "WitnessBench", "WitnessBench$Words", "equalities", "()I"), (160, "WitnessBench", "WitnessBench$Words", "addEquality", "(II)V"), (117, "WitnessBenchLaw", "WitnessBenchLaw", "form", "(LWitnessBench;II[J)I"), (36, "WitnessBenchLaw", "WitnessBench", "form", "(II)I"), (163, "WitnessBench", "WitnessBench$Words", "formOf", "(I)LWitnessBench$Letters;")]
def ev_tM_2 : List (Nat × String × String × String × String) := [(121, "WitnessBenchLaw", "WitnessBenchLaw", "distance", "(LWitnessBench;IIII[J)I"), (40, "WitnessBenchLaw", "WitnessBench", "distance", "(IIII)I"), (167, "WitnessBench", "WitnessBench$Words", "apart", "(II)I"), (79, "WitnessBench$Words", "WitnessBench$Words", "areEqual", "(II)Z"), (83, "WitnessBench$Words", "WitnessBench$Words", "isGap", "(I)Z"), (85, "WitnessBench$Words", "WitnessBench$Words", "edits", "(LWitnessBench$Letters;LWitnessBench$Letters;)I"), (98, "WitnessBench$Words", "WitnessBench$Letters", "size", "()I"), (102, "WitnessBench$Words", "WitnessBench$Letters", "letter", "(I)C"), (89, "WitnessBench$Words", "java/lang/Math", "min", "(II)I"), (124, "WitnessBenchLaw", "WitnessBenchLaw", "join", "(LWitnessBench;I[J)I"), (43, "WitnessBenchLaw", "WitnessBench", "join", "(I)I"), (172, "WitnessBench", "WitnessBench$Joiner", "plan", "(LWitnessBench$Table;LWitnessBench$Words;I)I"), (21, "WitnessBench$Joiner", "WitnessBench$Table", "count", "()I"), (31, "WitnessBench$Joiner", "WitnessBench$Words", "count", "(I)I"), (43, "WitnessBench$Joiner", "WitnessBench$Joiner", "matchCost", "(LWitnessBench$Table;LWitnessBench$Words;II)I"), (74, "WitnessBench$Joiner", "WitnessBench$Table", "numberAt", "(II)I"), (77, "WitnessBench$Joiner", "WitnessBench$Words", "apart", "(II)I"), (80, "WitnessBench$Joiner", "java/lang/Math", "min", "(II)I"), (47, "WitnessBench$Joiner", "WitnessBench$Joiner", "settle", "(III)V"), (86, "WitnessBench$Joiner", "WitnessBench$Joiner", "offer", "(III)V"), (51, "WitnessBench$Joiner", "WitnessBench$Joiner", "layPath", "()V"), (176, "WitnessBench", "WitnessBench$Joiner", "plannedPlaces", "()I"), (181, "WitnessBench", "WitnessBench$Joiner", "carryOut", "(LWitnessBench$Table;I)V"), (57, "WitnessBench$Joiner", "WitnessBench$Joiner", "plannedPlaces", "()I"), (60, "WitnessBench$Joiner", "WitnessBench$Table", "clearPlace", "(I)V"), (47, "WitnessBench$Table", "WitnessBench$Table", "putCell", "(III)V"), (64, "WitnessBench$Joiner", "WitnessBench$Table", "copyPlace", "(II)V"), (68, "WitnessBench$Joiner", "WitnessBench$Table", "putCell", "(III)V"), (71, "WitnessBench$Joiner", "WitnessBench$Table", "admit", "(II)V"), (127, "WitnessBenchLaw", "WitnessBenchLaw", "retract", "(LWitnessBench;[J)I"), (46, "WitnessBenchLaw", "WitnessBench", "retract", "()I"), (185, "WitnessBench", "WitnessBench$Table", "lastJoined", "()I"), (190, "WitnessBench", "WitnessBench$Table", "takeOut", "(I)V"), (51, "WitnessBench$Table", "WitnessBench$Table", "hasWords", "(I)Z"), (55, "WitnessBench$Table", "WitnessBench$Table", "copyPlace", "(II)V"), (135, "WitnessBenchLaw", "WitnessBenchLaw", "at", "(LWitnessBench;II[J)I"), (50, "WitnessBenchLaw", "WitnessBench", "at", "(II)I"), (194, "WitnessBench", "WitnessBench", "checkPlace", "(I)V"), (197, "WitnessBench", "WitnessBench$Table", "cell", "(II)I"), (138, "WitnessBenchLaw", "WitnessBenchLaw", "beside", "(LWitnessBench;III[J)I"), (53, "WitnessBenchLaw", "WitnessBench", "beside", "(III)I"), (200, "WitnessBench", "WitnessBench$Table", "neighbour", "(III)I"), (142, "WitnessBenchLaw", "WitnessBenchLaw", "base", "(LWitnessBench;I)I"), (57, "WitnessBenchLaw", "WitnessBench", "base", "(I)V"), (204, "WitnessBench", "WitnessBench", "checkJoined", "(I)V"), (207, "WitnessBench", "WitnessBench$Table", "rebase", "(I)V"), (41, "WitnessBench$Table", "java/util/Arrays", "fill", "([II)V"), (145, "WitnessBenchLaw", "WitnessBenchLaw", "choose", "(LWitnessBench;II)I"), (60, "WitnessBenchLaw", "WitnessBench", "choose", "(II)V"), (210, "WitnessBench", "WitnessBench$Table", "setChoice", "(II)V"), (154, "WitnessBenchLaw", "WitnessBenchLaw", "out", "(LWitnessBench;I[J)I"), (64, "WitnessBenchLaw", "WitnessBench", "out", "(I)I"), (218, "WitnessBench", "WitnessBench", "checkSheet", "(I)V"), (221, "WitnessBench", "WitnessBench$Sheet", "sign", "(I)C"), (157, "WitnessBenchLaw", "WitnessBenchLaw", "amend", "(LWitnessBench;IC)I"), (67, "WitnessBenchLaw", "WitnessBench", "amend", "(IC)V"), (225, "WitnessBench", "WitnessBench$Sheet", "change", "(IC)V"), (161, "WitnessBenchLaw", "WitnessBenchLaw", "rebuild", "(LWitnessBench;I[J)I"), (71, "WitnessBenchLaw", "WitnessBench", "rebuild", "(I)I"), (229, "WitnessBench", "WitnessBench$Reader", "read", "(LWitnessBench$Sheet;LWitnessBench$Table;LWitnessBench$Words;I)I")]
def ev_tM_3 : List (Nat × String × String × String × String) := [(49, "WitnessBench$Reader", "java/util/Arrays", "fill", "([II)V"), (55, "WitnessBench$Reader", "WitnessBench$Sheet", "size", "()I"), (58, "WitnessBench$Reader", "WitnessBench$Reader", "readEntry", "(LWitnessBench$Sheet;LWitnessBench$Table;LWitnessBench$Words;)Z"), (66, "WitnessBench$Reader", "WitnessBench$Reader", "readPlace", "(LWitnessBench$Sheet;LWitnessBench$Table;)Z"), (83, "WitnessBench$Reader", "WitnessBench$Sheet", "run", "(ICCI)I"), (87, "WitnessBench$Reader", "WitnessBench$Sheet", "sign", "(I)C"), (90, "WitnessBench$Reader", "WitnessBench$Table", "count", "()I"), (70, "WitnessBench$Reader", "WitnessBench$Reader", "readSign", "(LWitnessBench$Sheet;C)Z"), (74, "WitnessBench$Reader", "WitnessBench$Reader", "readLemma", "(LWitnessBench$Sheet;LWitnessBench$Table;LWitnessBench$Words;)Z"), (95, "WitnessBench$Reader", "WitnessBench$Table", "lemma", "(I)I"), (99, "WitnessBench$Reader", "WitnessBench$Words", "isGap", "(I)Z"), (104, "WitnessBench$Reader", "WitnessBench$Words", "formOf", "(I)LWitnessBench$Letters;"), (108, "WitnessBench$Reader", "WitnessBench$Reader", "readLetters", "(LWitnessBench$Sheet;LWitnessBench$Letters;)Z"), (80, "WitnessBench$Reader", "WitnessBench$Reader", "readGroup", "(LWitnessBench$Sheet;LWitnessBench$Table;)Z"), (112, "WitnessBench$Reader", "WitnessBench$Reader", "readReading", "(LWitnessBench$Sheet;)Z"), (116, "WitnessBench$Reader", "WitnessBench$Reader", "readWitnesses", "(LWitnessBench$Sheet;LWitnessBench$Table;I)Z"), (120, "WitnessBench$Reader", "WitnessBench$Table", "isJoined", "(I)Z"), (62, "WitnessBench$Reader", "WitnessBench$Reader", "buildAll", "(LWitnessBench$Sheet;LWitnessBench$Table;LWitnessBench$Words;)V"), (123, "WitnessBench$Reader", "WitnessBench$Reader", "buildReading", "(LWitnessBench$Sheet;I)V"), (131, "WitnessBench$Reader", "WitnessBench$Letters", "keep", "(I)V"), (134, "WitnessBench$Reader", "WitnessBench$Letters", "add", "(C)V"), (138, "WitnessBench$Reader", "WitnessBench$Letters", "becomeGap", "()V"), (127, "WitnessBench$Reader", "WitnessBench$Letters", "become", "(LWitnessBench$Letters;)V"), (233, "WitnessBench", "WitnessBench$Reader", "builtCount", "()I"), (172, "WitnessBenchLaw", "WitnessBenchLaw", "found", "(LWitnessBench;I[J)I"), (74, "WitnessBenchLaw", "WitnessBench", "found", "(I)I"), (175, "WitnessBenchLaw", "WitnessBenchLaw", "blocks", "(LWitnessBench;II[J)I"), (77, "WitnessBenchLaw", "WitnessBench", "blocks", "(II)I"), (265, "WitnessBench", "WitnessBench$BlockFinder", "find", "(LWitnessBench$Table;LWitnessBench$Words;II)I"), (19, "WitnessBench$BlockFinder", "WitnessBench$Words", "count", "(I)I"), (29, "WitnessBench$BlockFinder", "WitnessBench$BlockFinder", "isMoved", "(LWitnessBench$Table;LWitnessBench$Words;II)Z"), (46, "WitnessBench$BlockFinder", "WitnessBench$Words", "isThere", "(I)Z"), (50, "WitnessBench$BlockFinder", "WitnessBench$Words", "isGap", "(I)Z"), (53, "WitnessBench$BlockFinder", "WitnessBench$Words", "areEqual", "(II)Z"), (57, "WitnessBench$BlockFinder", "WitnessBench$Table", "neighbour", "(III)I"), (33, "WitnessBench$BlockFinder", "WitnessBench$BlockFinder", "movedRun", "(LWitnessBench$Table;LWitnessBench$Words;II)I"), (41, "WitnessBench$BlockFinder", "java/lang/Math", "max", "(II)I"), (37, "WitnessBench$BlockFinder", "WitnessBench$BlockFinder", "keep", "(III)V"), (178, "WitnessBenchLaw", "WitnessBenchLaw", "block", "(LWitnessBench;II[J)I"), (80, "WitnessBenchLaw", "WitnessBench", "block", "(II)I"), (269, "WitnessBench", "WitnessBench$BlockFinder", "count", "()I"), (272, "WitnessBench", "WitnessBench$BlockFinder", "field", "(II)I"), (181, "WitnessBenchLaw", "WitnessBenchLaw", "parent", "(LWitnessBench;II)I"), (83, "WitnessBenchLaw", "WitnessBench", "parent", "(II)V"), (275, "WitnessBench", "WitnessBench$Family", "isAtOrBelow", "(II)Z"), (280, "WitnessBench", "WitnessBench$Family", "setParent", "(II)V"), (184, "WitnessBenchLaw", "WitnessBenchLaw", "changes", "(LWitnessBench;I[J)I"), (86, "WitnessBenchLaw", "WitnessBench", "changes", "(I)I"), (283, "WitnessBench", "WitnessBench$Family", "leastChanges", "(LWitnessBench$Table;LWitnessBench$Words;I)I"), (27, "WitnessBench$Family", "WitnessBench$Family", "takeReadings", "(LWitnessBench$Table;LWitnessBench$Words;I)V"), (41, "WitnessBench$Family", "WitnessBench$Table", "numberAt", "(II)I"), (47, "WitnessBench$Family", "WitnessBench$Table", "isJoined", "(I)Z"), (51, "WitnessBench$Family", "WitnessBench$Words", "isGap", "(I)Z"), (56, "WitnessBench$Family", "WitnessBench$Words", "areEqual", "(II)Z"), (31, "WitnessBench$Family", "WitnessBench$Family", "startCosts", "()V"), (34, "WitnessBench$Family", "WitnessBench$Family", "depthOf", "(I)I"), (38, "WitnessBench$Family", "WitnessBench$Family", "handUp", "(I)I"), (60, "WitnessBench$Family", "WitnessBench$Family", "leastCost", "(I)I"), (63, "WitnessBench$Family", "java/lang/Math", "min", "(II)I"), (92, "WitnessBenchLaw", "WitnessBenchModel", "<init>", "()V")]
def ev_tM_4 : List (Nat × String × String × String × String) := [(1, "WitnessBenchModel", "java/lang/Object", "<init>", "()V"), (99, "WitnessBenchLaw", "WitnessBenchModel", "thrown", "()I"), (98, "WitnessBenchLaw", "WitnessBenchModel", "type", "(C)I"), (105, "WitnessBenchLaw", "WitnessBenchModel", "cut", "(I)V"), (109, "WitnessBenchLaw", "WitnessBenchModel", "word", "(I)I"), (104, "WitnessBenchModel", "WitnessBenchModel", "isWitness", "(I)Z"), (155, "WitnessBenchModel", "WitnessBenchModel", "isJoined", "(I)Z"), (158, "WitnessBenchModel", "WitnessBenchModel", "settle", "()V"), (138, "WitnessBenchModel", "WitnessBenchModel", "isThere", "(I)Z"), (141, "WitnessBenchModel", "WitnessBenchModel", "workForm", "(II)V"), (131, "WitnessBenchModel", "WitnessBenchModel", "ruleAt", "(III)I"), (124, "WitnessBenchModel", "WitnessBenchModel", "stands", "(IIII)Z"), (117, "WitnessBenchModel", "WitnessBenchModel", "letter", "(II)I"), (145, "WitnessBenchModel", "WitnessBenchModel", "alike", "(II)Z"), (135, "WitnessBenchModel", "WitnessBenchModel", "isGap", "(I)Z"), (149, "WitnessBenchModel", "WitnessBenchModel", "even", "(II)Z"), (112, "WitnessBenchLaw", "WitnessBenchModel", "rule", "(I)I"), (116, "WitnessBenchLaw", "WitnessBenchModel", "equate", "(IIII)I"), (161, "WitnessBenchModel", "WitnessBenchModel", "isWord", "(II)Z"), (120, "WitnessBenchLaw", "WitnessBenchModel", "form", "(II)I"), (123, "WitnessBenchLaw", "WitnessBenchModel", "distance", "(IIII)I"), (170, "WitnessBenchModel", "WitnessBenchModel", "far", "(II)I"), (167, "WitnessBenchModel", "WitnessBenchModel", "apart", "(II)I"), (164, "WitnessBenchModel", "WitnessBenchModel", "least", "(II)I"), (126, "WitnessBenchLaw", "WitnessBenchModel", "join", "(I)I"), (185, "WitnessBenchModel", "WitnessBenchModel", "workOut", "(I)V"), (173, "WitnessBenchModel", "WitnessBenchModel", "match", "(III)I"), (176, "WitnessBenchModel", "WitnessBenchModel", "cost", "(III)I"), (189, "WitnessBenchModel", "WitnessBenchModel", "putIn", "(I)I"), (179, "WitnessBenchModel", "WitnessBenchModel", "step", "(III)I"), (193, "WitnessBenchModel", "WitnessBenchModel", "stepOf", "(IIII)I"), (197, "WitnessBenchModel", "WitnessBenchModel", "open", "(II)V"), (182, "WitnessBenchModel", "WitnessBenchModel", "move", "(II)V"), (130, "WitnessBenchLaw", "WitnessBenchModel", "retract", "()I"), (134, "WitnessBenchLaw", "WitnessBenchModel", "places", "()I"), (137, "WitnessBenchLaw", "WitnessBenchModel", "at", "(II)I"), (200, "WitnessBenchModel", "WitnessBenchModel", "isPlace", "(I)Z"), (141, "WitnessBenchLaw", "WitnessBenchModel", "beside", "(III)I"), (203, "WitnessBenchModel", "WitnessBenchModel", "placeOf", "(I)I"), (144, "WitnessBenchLaw", "WitnessBenchModel", "base", "(I)V"), (148, "WitnessBenchLaw", "WitnessBenchModel", "choose", "(II)V"), (153, "WitnessBenchLaw", "WitnessBenchModel", "apparatus", "(Z)I"), (218, "WitnessBenchModel", "WitnessBenchModel", "lemma", "(I)I"), (212, "WitnessBenchModel", "WitnessBenchModel", "readsAlike", "(II)Z"), (229, "WitnessBenchModel", "WitnessBenchModel", "sayEntry", "(IZ)V"), (209, "WitnessBenchModel", "WitnessBenchModel", "say", "(I)V"), (215, "WitnessBenchModel", "WitnessBenchModel", "sayReading", "(I)V"), (221, "WitnessBenchModel", "WitnessBenchModel", "isReadBelow", "(III)Z"), (225, "WitnessBenchModel", "WitnessBenchModel", "sayGroup", "(IIZ)V"), (156, "WitnessBenchLaw", "WitnessBenchModel", "out", "(I)I"), (160, "WitnessBenchLaw", "WitnessBenchModel", "amend", "(IC)V"), (163, "WitnessBenchLaw", "WitnessBenchModel", "rebuild", "(I)I"), (280, "WitnessBenchModel", "WitnessBenchModel", "readAll", "(I)V"), (252, "WitnessBenchModel", "WitnessBenchModel", "next", "()V"), (245, "WitnessBenchModel", "WitnessBenchModel", "many", "(III)I"), (236, "WitnessBenchModel", "WitnessBenchModel", "isFrom", "(III)Z"), (265, "WitnessBenchModel", "WitnessBenchModel", "numberAbove", "(I)I"), (255, "WitnessBenchModel", "WitnessBenchModel", "pass", "(Z)V"), (268, "WitnessBenchModel", "WitnessBenchModel", "keepWord", "(I)V"), (271, "WitnessBenchModel", "WitnessBenchModel", "isLemma", "(I)Z")]
def ev_tM_5 : List (Nat × String × String × String × String) := [(274, "WitnessBenchModel", "WitnessBenchModel", "groups", "(I)I"), (259, "WitnessBenchModel", "WitnessBenchModel", "siglaWith", "(I)I"), (277, "WitnessBenchModel", "WitnessBenchModel", "keepText", "(I)V"), (167, "WitnessBenchLaw", "WitnessBenchModel", "built", "(II)I"), (171, "WitnessBenchLaw", "WitnessBenchModel", "concord", "()I"), (286, "WitnessBenchModel", "WitnessBenchModel", "isText", "(IZ)Z"), (174, "WitnessBenchLaw", "WitnessBenchModel", "found", "(I)I"), (177, "WitnessBenchLaw", "WitnessBenchModel", "blocks", "(II)I"), (296, "WitnessBenchModel", "WitnessBenchModel", "isMoved", "(IIII)Z"), (180, "WitnessBenchLaw", "WitnessBenchModel", "block", "(II)I"), (183, "WitnessBenchLaw", "WitnessBenchModel", "parent", "(II)V"), (186, "WitnessBenchLaw", "WitnessBenchModel", "changes", "(I)I"), (308, "WitnessBenchModel", "WitnessBenchModel", "changesAt", "(I)I"), (302, "WitnessBenchModel", "WitnessBenchModel", "note", "(I)V"), (305, "WitnessBenchModel", "WitnessBenchModel", "tried", "(I)I")]
def ev_tM : List (Nat × String × String × String × String) := ev_tM_0 ++ ev_tM_1 ++ ev_tM_2 ++ ev_tM_3 ++ ev_tM_4 ++ ev_tM_5
def ev_tI_0 : List (String × String × String) := [("<init>", "WitnessBench", "()V"), ("<init>", "java/lang/Object", "()V"), ("<init>", "WitnessBench$Letters", "(I)V"), ("<init>", "WitnessBench$Rules", "()V"), ("<init>", "WitnessBench$Words", "()V"), ("<init>", "WitnessBench$Table", "()V"), ("<init>", "WitnessBench$Joiner", "()V"), ("<init>", "WitnessBench$Sheet", "()V"), ("<init>", "WitnessBench$Reader", "()V"), ("<init>", "WitnessBench$BlockFinder", "()V"), ("<init>", "WitnessBench$Family", "()V"), ("places", "WitnessBench", "()I"), ("count", "WitnessBench$Table", "()I"), ("apparatus", "WitnessBench", "(Z)I"), ("write", "WitnessBench$Sheet", "(LWitnessBench$Table;LWitnessBench$Words;Z)V"), ("lemma", "WitnessBench$Table", "(I)I"), ("numberAt", "WitnessBench$Table", "(II)I"), ("cell", "WitnessBench$Table", "(II)I"), ("isJoined", "WitnessBench$Table", "(I)Z"), ("areAlike", "WitnessBench$Words", "(II)Z"), ("writeEntry", "WitnessBench$Sheet", "(LWitnessBench$Table;LWitnessBench$Words;IZ)V"), ("putNumber", "WitnessBench$Sheet", "(I)V"), ("put", "WitnessBench$Sheet", "(C)V"), ("putReading", "WitnessBench$Sheet", "(LWitnessBench$Words;I)V"), ("isGap", "WitnessBench$Words", "(I)Z"), ("isGap", "WitnessBench$Letters", "()Z"), ("formOf", "WitnessBench$Words", "(I)LWitnessBench$Letters;"), ("size", "WitnessBench$Letters", "()I"), ("putLetters", "WitnessBench$Sheet", "(LWitnessBench$Letters;)V"), ("letter", "WitnessBench$Letters", "(I)C"), ("putGroup", "WitnessBench$Sheet", "(LWitnessBench$Table;LWitnessBench$Words;II)V"), ("size", "WitnessBench$Sheet", "()I"), ("built", "WitnessBench", "(II)I"), ("builtLetter", "WitnessBench$Reader", "(II)I"), ("concord", "WitnessBench", "()I"), ("bring", "WitnessBench$Rules", "(LWitnessBench$Letters;LWitnessBench$Letters;)V"), ("keep", "WitnessBench$Letters", "(I)V"), ("ruleFor", "WitnessBench$Rules", "(LWitnessBench$Letters;I)I"), ("standsIn", "WitnessBench$Letters", "(LWitnessBench$Letters;I)Z"), ("add", "WitnessBench$Letters", "(C)V"), ("addPart", "WitnessBench$Letters", "(LWitnessBench$Letters;II)V"), ("becomeGap", "WitnessBench$Letters", "()V"), ("firstAlike", "WitnessBench$Words", "(LWitnessBench$Letters;)I"), ("isThere", "WitnessBench$Words", "(I)Z"), ("isSame", "WitnessBench$Letters", "(LWitnessBench$Letters;)Z"), ("areEqual", "WitnessBench$Words", "(II)Z"), ("type", "WitnessBench", "(C)I"), ("<init>", "java/lang/Throwable", "()V"), ("fillInStackTrace", "java/lang/Throwable", "()Ljava/lang/Throwable;"), ("fillInStackTrace", "java/lang/Throwable", "(I)Ljava/lang/Throwable;"), ("<init>", "java/lang/IllegalArgumentException", "(Ljava/lang/String;)V"), ("<init>", "java/lang/RuntimeException", "(Ljava/lang/String;)V"), ("<init>", "java/lang/Exception", "(Ljava/lang/String;)V"), ("<init>", "java/lang/Throwable", "(Ljava/lang/String;)V"), ("<init>", "java/lang/IllegalStateException", "(Ljava/lang/String;)V"), ("cut", "WitnessBench", "(I)V"), ("word", "WitnessBench", "(I)I"), ("<init>", "java/lang/IndexOutOfBoundsException", "(Ljava/lang/String;)V"), ("count", "WitnessBench$Words", "(I)I"), ("<init>", "java/lang/UnsupportedOperationException", "(Ljava/lang/String;)V")]
def ev_tI_1 : List (String × String × String) := [("add", "WitnessBench$Words", "(ILWitnessBench$Letters;LWitnessBench$Rules;)V"), ("become", "WitnessBench$Letters", "(LWitnessBench$Letters;)V"), ("markAll", "WitnessBench$Words", "()V"), ("makeEqual", "WitnessBench$Words", "(II)V"), ("rule", "WitnessBench", "(I)I"), ("count", "WitnessBench$Rules", "()I"), ("add", "WitnessBench$Rules", "(LWitnessBench$Letters;I)V"), ("formAll", "WitnessBench$Words", "(LWitnessBench$Rules;)V"), ("equate", "WitnessBench", "(IIII)I"), ("checkWord", "WitnessBench", "(II)V"), ("equalities", "WitnessBench$Words", "()I"), ("addEquality", "WitnessBench$Words", "(II)V"), ("form", "WitnessBench", "(II)I"), ("distance", "WitnessBench", "(IIII)I"), ("apart", "WitnessBench$Words", "(II)I"), ("edits", "WitnessBench$Words", "(LWitnessBench$Letters;LWitnessBench$Letters;)I"), ("join", "WitnessBench", "(I)I"), ("plan", "WitnessBench$Joiner", "(LWitnessBench$Table;LWitnessBench$Words;I)I"), ("settle", "WitnessBench$Joiner", "(III)V"), ("offer", "WitnessBench$Joiner", "(III)V"), ("layPath", "WitnessBench$Joiner", "()V"), ("plannedPlaces", "WitnessBench$Joiner", "()I"), ("carryOut", "WitnessBench$Joiner", "(LWitnessBench$Table;I)V"), ("clearPlace", "WitnessBench$Table", "(I)V"), ("putCell", "WitnessBench$Table", "(III)V"), ("copyPlace", "WitnessBench$Table", "(II)V"), ("admit", "WitnessBench$Table", "(II)V"), ("retract", "WitnessBench", "()I"), ("lastJoined", "WitnessBench$Table", "()I"), ("takeOut", "WitnessBench$Table", "(I)V"), ("hasWords", "WitnessBench$Table", "(I)Z"), ("at", "WitnessBench", "(II)I"), ("checkPlace", "WitnessBench", "(I)V"), ("beside", "WitnessBench", "(III)I"), ("neighbour", "WitnessBench$Table", "(III)I"), ("base", "WitnessBench", "(I)V"), ("checkJoined", "WitnessBench", "(I)V"), ("rebase", "WitnessBench$Table", "(I)V"), ("choose", "WitnessBench", "(II)V"), ("setChoice", "WitnessBench$Table", "(II)V"), ("out", "WitnessBench", "(I)I"), ("checkSheet", "WitnessBench", "(I)V"), ("sign", "WitnessBench$Sheet", "(I)C"), ("amend", "WitnessBench", "(IC)V"), ("change", "WitnessBench$Sheet", "(IC)V"), ("rebuild", "WitnessBench", "(I)I"), ("read", "WitnessBench$Reader", "(LWitnessBench$Sheet;LWitnessBench$Table;LWitnessBench$Words;I)I"), ("readEntry", "WitnessBench$Reader", "(LWitnessBench$Sheet;LWitnessBench$Table;LWitnessBench$Words;)Z"), ("readPlace", "WitnessBench$Reader", "(LWitnessBench$Sheet;LWitnessBench$Table;)Z"), ("run", "WitnessBench$Sheet", "(ICCI)I"), ("readSign", "WitnessBench$Reader", "(LWitnessBench$Sheet;C)Z"), ("readLemma", "WitnessBench$Reader", "(LWitnessBench$Sheet;LWitnessBench$Table;LWitnessBench$Words;)Z"), ("readLetters", "WitnessBench$Reader", "(LWitnessBench$Sheet;LWitnessBench$Letters;)Z"), ("readGroup", "WitnessBench$Reader", "(LWitnessBench$Sheet;LWitnessBench$Table;)Z"), ("readReading", "WitnessBench$Reader", "(LWitnessBench$Sheet;)Z"), ("readWitnesses", "WitnessBench$Reader", "(LWitnessBench$Sheet;LWitnessBench$Table;I)Z"), ("buildAll", "WitnessBench$Reader", "(LWitnessBench$Sheet;LWitnessBench$Table;LWitnessBench$Words;)V"), ("buildReading", "WitnessBench$Reader", "(LWitnessBench$Sheet;I)V"), ("builtCount", "WitnessBench$Reader", "()I"), ("found", "WitnessBench", "(I)I")]
def ev_tI_2 : List (String × String × String) := [("blocks", "WitnessBench", "(II)I"), ("find", "WitnessBench$BlockFinder", "(LWitnessBench$Table;LWitnessBench$Words;II)I"), ("keep", "WitnessBench$BlockFinder", "(III)V"), ("block", "WitnessBench", "(II)I"), ("count", "WitnessBench$BlockFinder", "()I"), ("field", "WitnessBench$BlockFinder", "(II)I"), ("parent", "WitnessBench", "(II)V"), ("isAtOrBelow", "WitnessBench$Family", "(II)Z"), ("setParent", "WitnessBench$Family", "(II)V"), ("changes", "WitnessBench", "(I)I"), ("leastChanges", "WitnessBench$Family", "(LWitnessBench$Table;LWitnessBench$Words;I)I"), ("takeReadings", "WitnessBench$Family", "(LWitnessBench$Table;LWitnessBench$Words;I)V"), ("startCosts", "WitnessBench$Family", "()V"), ("depthOf", "WitnessBench$Family", "(I)I"), ("handUp", "WitnessBench$Family", "(I)I"), ("leastCost", "WitnessBench$Family", "(I)I"), ("<init>", "WitnessBenchModel", "()V"), ("thrown", "WitnessBenchModel", "()I"), ("type", "WitnessBenchModel", "(C)I"), ("cut", "WitnessBenchModel", "(I)V"), ("word", "WitnessBenchModel", "(I)I"), ("isJoined", "WitnessBenchModel", "(I)Z"), ("settle", "WitnessBenchModel", "()V"), ("isThere", "WitnessBenchModel", "(I)Z"), ("workForm", "WitnessBenchModel", "(II)V"), ("ruleAt", "WitnessBenchModel", "(III)I"), ("stands", "WitnessBenchModel", "(IIII)Z"), ("letter", "WitnessBenchModel", "(II)I"), ("alike", "WitnessBenchModel", "(II)Z"), ("isGap", "WitnessBenchModel", "(I)Z"), ("even", "WitnessBenchModel", "(II)Z"), ("rule", "WitnessBenchModel", "(I)I"), ("equate", "WitnessBenchModel", "(IIII)I"), ("isWord", "WitnessBenchModel", "(II)Z"), ("form", "WitnessBenchModel", "(II)I"), ("distance", "WitnessBenchModel", "(IIII)I"), ("far", "WitnessBenchModel", "(II)I"), ("apart", "WitnessBenchModel", "(II)I"), ("least", "WitnessBenchModel", "(II)I"), ("join", "WitnessBenchModel", "(I)I"), ("workOut", "WitnessBenchModel", "(I)V"), ("match", "WitnessBenchModel", "(III)I"), ("cost", "WitnessBenchModel", "(III)I"), ("putIn", "WitnessBenchModel", "(I)I"), ("step", "WitnessBenchModel", "(III)I"), ("stepOf", "WitnessBenchModel", "(IIII)I"), ("open", "WitnessBenchModel", "(II)V"), ("move", "WitnessBenchModel", "(II)V"), ("retract", "WitnessBenchModel", "()I"), ("places", "WitnessBenchModel", "()I"), ("at", "WitnessBenchModel", "(II)I"), ("isPlace", "WitnessBenchModel", "(I)Z"), ("beside", "WitnessBenchModel", "(III)I"), ("placeOf", "WitnessBenchModel", "(I)I"), ("base", "WitnessBenchModel", "(I)V"), ("choose", "WitnessBenchModel", "(II)V"), ("apparatus", "WitnessBenchModel", "(Z)I"), ("lemma", "WitnessBenchModel", "(I)I"), ("readsAlike", "WitnessBenchModel", "(II)Z"), ("sayEntry", "WitnessBenchModel", "(IZ)V")]
def ev_tI_3 : List (String × String × String) := [("say", "WitnessBenchModel", "(I)V"), ("sayReading", "WitnessBenchModel", "(I)V"), ("isReadBelow", "WitnessBenchModel", "(III)Z"), ("sayGroup", "WitnessBenchModel", "(IIZ)V"), ("out", "WitnessBenchModel", "(I)I"), ("amend", "WitnessBenchModel", "(IC)V"), ("rebuild", "WitnessBenchModel", "(I)I"), ("readAll", "WitnessBenchModel", "(I)V"), ("next", "WitnessBenchModel", "()V"), ("many", "WitnessBenchModel", "(III)I"), ("isFrom", "WitnessBenchModel", "(III)Z"), ("numberAbove", "WitnessBenchModel", "(I)I"), ("pass", "WitnessBenchModel", "(Z)V"), ("keepWord", "WitnessBenchModel", "(I)V"), ("isLemma", "WitnessBenchModel", "(I)Z"), ("groups", "WitnessBenchModel", "(I)I"), ("siglaWith", "WitnessBenchModel", "(I)I"), ("keepText", "WitnessBenchModel", "(I)V"), ("built", "WitnessBenchModel", "(II)I"), ("concord", "WitnessBenchModel", "()I"), ("isText", "WitnessBenchModel", "(IZ)Z"), ("found", "WitnessBenchModel", "(I)I"), ("blocks", "WitnessBenchModel", "(II)I"), ("isMoved", "WitnessBenchModel", "(IIII)Z"), ("block", "WitnessBenchModel", "(II)I"), ("parent", "WitnessBenchModel", "(II)V"), ("changes", "WitnessBenchModel", "(I)I"), ("changesAt", "WitnessBenchModel", "(I)I"), ("note", "WitnessBenchModel", "(I)V"), ("tried", "WitnessBenchModel", "(I)I")]
def ev_tI : List (String × String × String) := ev_tI_0 ++ ev_tI_1 ++ ev_tI_2 ++ ev_tI_3
def ev_tS_0 : List (String × String × String) := [("writeEntry", "WitnessBench$Sheet", "(LWitnessBench$Table;LWitnessBench$Words;IZ)V"), ("putNumber", "WitnessBench$Sheet", "(I)V"), ("put", "WitnessBench$Sheet", "(C)V"), ("putReading", "WitnessBench$Sheet", "(LWitnessBench$Words;I)V"), ("putLetters", "WitnessBench$Sheet", "(LWitnessBench$Letters;)V"), ("putGroup", "WitnessBench$Sheet", "(LWitnessBench$Table;LWitnessBench$Words;II)V"), ("ruleFor", "WitnessBench$Rules", "(LWitnessBench$Letters;I)I"), ("fillInStackTrace", "java/lang/Throwable", "(I)Ljava/lang/Throwable;"), ("markAll", "WitnessBench$Words", "()V"), ("makeEqual", "WitnessBench$Words", "(II)V"), ("checkWord", "WitnessBench", "(II)V"), ("edits", "WitnessBench$Words", "(LWitnessBench$Letters;LWitnessBench$Letters;)I"), ("settle", "WitnessBench$Joiner", "(III)V"), ("offer", "WitnessBench$Joiner", "(III)V"), ("layPath", "WitnessBench$Joiner", "()V"), ("hasWords", "WitnessBench$Table", "(I)Z"), ("checkPlace", "WitnessBench", "(I)V"), ("checkJoined", "WitnessBench", "(I)V"), ("checkSheet", "WitnessBench", "(I)V"), ("readEntry", "WitnessBench$Reader", "(LWitnessBench$Sheet;LWitnessBench$Table;LWitnessBench$Words;)Z"), ("readPlace", "WitnessBench$Reader", "(LWitnessBench$Sheet;LWitnessBench$Table;)Z"), ("readSign", "WitnessBench$Reader", "(LWitnessBench$Sheet;C)Z"), ("readLemma", "WitnessBench$Reader", "(LWitnessBench$Sheet;LWitnessBench$Table;LWitnessBench$Words;)Z"), ("readLetters", "WitnessBench$Reader", "(LWitnessBench$Sheet;LWitnessBench$Letters;)Z"), ("readGroup", "WitnessBench$Reader", "(LWitnessBench$Sheet;LWitnessBench$Table;)Z"), ("readReading", "WitnessBench$Reader", "(LWitnessBench$Sheet;)Z"), ("readWitnesses", "WitnessBench$Reader", "(LWitnessBench$Sheet;LWitnessBench$Table;I)Z"), ("buildAll", "WitnessBench$Reader", "(LWitnessBench$Sheet;LWitnessBench$Table;LWitnessBench$Words;)V"), ("buildReading", "WitnessBench$Reader", "(LWitnessBench$Sheet;I)V"), ("keep", "WitnessBench$BlockFinder", "(III)V"), ("takeReadings", "WitnessBench$Family", "(LWitnessBench$Table;LWitnessBench$Words;I)V"), ("startCosts", "WitnessBench$Family", "()V"), ("depthOf", "WitnessBench$Family", "(I)I"), ("handUp", "WitnessBench$Family", "(I)I"), ("leastCost", "WitnessBench$Family", "(I)I"), ("isJoined", "WitnessBenchModel", "(I)Z"), ("settle", "WitnessBenchModel", "()V"), ("isThere", "WitnessBenchModel", "(I)Z"), ("workForm", "WitnessBenchModel", "(II)V"), ("ruleAt", "WitnessBenchModel", "(III)I"), ("stands", "WitnessBenchModel", "(IIII)Z"), ("letter", "WitnessBenchModel", "(II)I"), ("alike", "WitnessBenchModel", "(II)Z"), ("isGap", "WitnessBenchModel", "(I)Z"), ("even", "WitnessBenchModel", "(II)Z"), ("isWord", "WitnessBenchModel", "(II)Z"), ("far", "WitnessBenchModel", "(II)I"), ("apart", "WitnessBenchModel", "(II)I"), ("least", "WitnessBenchModel", "(II)I"), ("workOut", "WitnessBenchModel", "(I)V"), ("match", "WitnessBenchModel", "(III)I"), ("cost", "WitnessBenchModel", "(III)I"), ("putIn", "WitnessBenchModel", "(I)I"), ("step", "WitnessBenchModel", "(III)I"), ("stepOf", "WitnessBenchModel", "(IIII)I"), ("open", "WitnessBenchModel", "(II)V"), ("move", "WitnessBenchModel", "(II)V"), ("isPlace", "WitnessBenchModel", "(I)Z"), ("placeOf", "WitnessBenchModel", "(I)I"), ("lemma", "WitnessBenchModel", "(I)I")]
def ev_tS_1 : List (String × String × String) := [("readsAlike", "WitnessBenchModel", "(II)Z"), ("sayEntry", "WitnessBenchModel", "(IZ)V"), ("say", "WitnessBenchModel", "(I)V"), ("sayReading", "WitnessBenchModel", "(I)V"), ("isReadBelow", "WitnessBenchModel", "(III)Z"), ("sayGroup", "WitnessBenchModel", "(IIZ)V"), ("readAll", "WitnessBenchModel", "(I)V"), ("next", "WitnessBenchModel", "()V"), ("many", "WitnessBenchModel", "(III)I"), ("isFrom", "WitnessBenchModel", "(III)Z"), ("numberAbove", "WitnessBenchModel", "(I)I"), ("pass", "WitnessBenchModel", "(Z)V"), ("keepWord", "WitnessBenchModel", "(I)V"), ("isLemma", "WitnessBenchModel", "(I)Z"), ("groups", "WitnessBenchModel", "(I)I"), ("siglaWith", "WitnessBenchModel", "(I)I"), ("keepText", "WitnessBenchModel", "(I)V"), ("isText", "WitnessBenchModel", "(IZ)Z"), ("isMoved", "WitnessBenchModel", "(IIII)Z"), ("changesAt", "WitnessBenchModel", "(I)I"), ("note", "WitnessBenchModel", "(I)V"), ("tried", "WitnessBenchModel", "(I)I"), ("places", "WitnessBench", "()I"), ("count", "WitnessBench$Table", "()I"), ("apparatus", "WitnessBench", "(Z)I"), ("write", "WitnessBench$Sheet", "(LWitnessBench$Table;LWitnessBench$Words;Z)V"), ("lemma", "WitnessBench$Table", "(I)I"), ("numberAt", "WitnessBench$Table", "(II)I"), ("cell", "WitnessBench$Table", "(II)I"), ("isJoined", "WitnessBench$Table", "(I)Z"), ("areAlike", "WitnessBench$Words", "(II)Z"), ("isGap", "WitnessBench$Words", "(I)Z"), ("isGap", "WitnessBench$Letters", "()Z"), ("formOf", "WitnessBench$Words", "(I)LWitnessBench$Letters;"), ("size", "WitnessBench$Letters", "()I"), ("letter", "WitnessBench$Letters", "(I)C"), ("size", "WitnessBench$Sheet", "()I"), ("built", "WitnessBench", "(II)I"), ("builtLetter", "WitnessBench$Reader", "(II)I"), ("concord", "WitnessBench", "()I"), ("bring", "WitnessBench$Rules", "(LWitnessBench$Letters;LWitnessBench$Letters;)V"), ("keep", "WitnessBench$Letters", "(I)V"), ("standsIn", "WitnessBench$Letters", "(LWitnessBench$Letters;I)Z"), ("add", "WitnessBench$Letters", "(C)V"), ("addPart", "WitnessBench$Letters", "(LWitnessBench$Letters;II)V"), ("becomeGap", "WitnessBench$Letters", "()V"), ("firstAlike", "WitnessBench$Words", "(LWitnessBench$Letters;)I"), ("isThere", "WitnessBench$Words", "(I)Z"), ("isSame", "WitnessBench$Letters", "(LWitnessBench$Letters;)Z"), ("areEqual", "WitnessBench$Words", "(II)Z"), ("type", "WitnessBench", "(C)I"), ("cut", "WitnessBench", "(I)V"), ("word", "WitnessBench", "(I)I"), ("count", "WitnessBench$Words", "(I)I"), ("add", "WitnessBench$Words", "(ILWitnessBench$Letters;LWitnessBench$Rules;)V"), ("become", "WitnessBench$Letters", "(LWitnessBench$Letters;)V"), ("rule", "WitnessBench", "(I)I"), ("count", "WitnessBench$Rules", "()I"), ("add", "WitnessBench$Rules", "(LWitnessBench$Letters;I)V"), ("formAll", "WitnessBench$Words", "(LWitnessBench$Rules;)V")]
def ev_tS_2 : List (String × String × String) := [("equate", "WitnessBench", "(IIII)I"), ("equalities", "WitnessBench$Words", "()I"), ("addEquality", "WitnessBench$Words", "(II)V"), ("form", "WitnessBench", "(II)I"), ("distance", "WitnessBench", "(IIII)I"), ("apart", "WitnessBench$Words", "(II)I"), ("join", "WitnessBench", "(I)I"), ("plan", "WitnessBench$Joiner", "(LWitnessBench$Table;LWitnessBench$Words;I)I"), ("plannedPlaces", "WitnessBench$Joiner", "()I"), ("carryOut", "WitnessBench$Joiner", "(LWitnessBench$Table;I)V"), ("clearPlace", "WitnessBench$Table", "(I)V"), ("putCell", "WitnessBench$Table", "(III)V"), ("copyPlace", "WitnessBench$Table", "(II)V"), ("admit", "WitnessBench$Table", "(II)V"), ("retract", "WitnessBench", "()I"), ("lastJoined", "WitnessBench$Table", "()I"), ("takeOut", "WitnessBench$Table", "(I)V"), ("at", "WitnessBench", "(II)I"), ("beside", "WitnessBench", "(III)I"), ("neighbour", "WitnessBench$Table", "(III)I"), ("base", "WitnessBench", "(I)V"), ("rebase", "WitnessBench$Table", "(I)V"), ("choose", "WitnessBench", "(II)V"), ("setChoice", "WitnessBench$Table", "(II)V"), ("out", "WitnessBench", "(I)I"), ("sign", "WitnessBench$Sheet", "(I)C"), ("amend", "WitnessBench", "(IC)V"), ("change", "WitnessBench$Sheet", "(IC)V"), ("rebuild", "WitnessBench", "(I)I"), ("read", "WitnessBench$Reader", "(LWitnessBench$Sheet;LWitnessBench$Table;LWitnessBench$Words;I)I"), ("run", "WitnessBench$Sheet", "(ICCI)I"), ("builtCount", "WitnessBench$Reader", "()I"), ("found", "WitnessBench", "(I)I"), ("blocks", "WitnessBench", "(II)I"), ("find", "WitnessBench$BlockFinder", "(LWitnessBench$Table;LWitnessBench$Words;II)I"), ("block", "WitnessBench", "(II)I"), ("count", "WitnessBench$BlockFinder", "()I"), ("field", "WitnessBench$BlockFinder", "(II)I"), ("parent", "WitnessBench", "(II)V"), ("isAtOrBelow", "WitnessBench$Family", "(II)Z"), ("setParent", "WitnessBench$Family", "(II)V"), ("changes", "WitnessBench", "(I)I"), ("leastChanges", "WitnessBench$Family", "(LWitnessBench$Table;LWitnessBench$Words;I)I"), ("thrown", "WitnessBenchModel", "()I"), ("type", "WitnessBenchModel", "(C)I"), ("cut", "WitnessBenchModel", "(I)V"), ("word", "WitnessBenchModel", "(I)I"), ("rule", "WitnessBenchModel", "(I)I"), ("equate", "WitnessBenchModel", "(IIII)I"), ("form", "WitnessBenchModel", "(II)I"), ("distance", "WitnessBenchModel", "(IIII)I"), ("join", "WitnessBenchModel", "(I)I"), ("retract", "WitnessBenchModel", "()I"), ("places", "WitnessBenchModel", "()I"), ("at", "WitnessBenchModel", "(II)I"), ("beside", "WitnessBenchModel", "(III)I"), ("base", "WitnessBenchModel", "(I)V"), ("choose", "WitnessBenchModel", "(II)V"), ("apparatus", "WitnessBenchModel", "(Z)I"), ("out", "WitnessBenchModel", "(I)I")]
def ev_tS_3 : List (String × String × String) := [("amend", "WitnessBenchModel", "(IC)V"), ("rebuild", "WitnessBenchModel", "(I)I"), ("built", "WitnessBenchModel", "(II)I"), ("concord", "WitnessBenchModel", "()I"), ("found", "WitnessBenchModel", "(I)I"), ("blocks", "WitnessBenchModel", "(II)I"), ("block", "WitnessBenchModel", "(II)I"), ("parent", "WitnessBenchModel", "(II)V"), ("changes", "WitnessBenchModel", "(I)I")]
def ev_tS : List (String × String × String) := ev_tS_0 ++ ev_tS_1 ++ ev_tS_2 ++ ev_tS_3
def ev_tT_0 : List (String × String × String) := [("fill", "java/util/Arrays", "([II)V"), ("needsEntry", "WitnessBench$Sheet", "(LWitnessBench$Table;LWitnessBench$Words;I)Z"), ("number", "WitnessBench", "(II)I"), ("firstReader", "WitnessBench$Sheet", "(LWitnessBench$Table;LWitnessBench$Words;II)I"), ("type", "WitnessBenchLaw", "(LWitnessBench;C[J)I"), ("cut", "WitnessBenchLaw", "(LWitnessBench;I)I"), ("word", "WitnessBenchLaw", "(LWitnessBench;I[J)I"), ("checkWitness", "WitnessBench", "(I)V"), ("rule", "WitnessBenchLaw", "(LWitnessBench;I[J)I"), ("equate", "WitnessBenchLaw", "(LWitnessBench;IIII[J)I"), ("form", "WitnessBenchLaw", "(LWitnessBench;II[J)I"), ("distance", "WitnessBenchLaw", "(LWitnessBench;IIII[J)I"), ("min", "java/lang/Math", "(II)I"), ("join", "WitnessBenchLaw", "(LWitnessBench;I[J)I"), ("matchCost", "WitnessBench$Joiner", "(LWitnessBench$Table;LWitnessBench$Words;II)I"), ("retract", "WitnessBenchLaw", "(LWitnessBench;[J)I"), ("at", "WitnessBenchLaw", "(LWitnessBench;II[J)I"), ("beside", "WitnessBenchLaw", "(LWitnessBench;III[J)I"), ("base", "WitnessBenchLaw", "(LWitnessBench;I)I"), ("choose", "WitnessBenchLaw", "(LWitnessBench;II)I"), ("out", "WitnessBenchLaw", "(LWitnessBench;I[J)I"), ("amend", "WitnessBenchLaw", "(LWitnessBench;IC)I"), ("rebuild", "WitnessBenchLaw", "(LWitnessBench;I[J)I"), ("found", "WitnessBenchLaw", "(LWitnessBench;I[J)I"), ("blocks", "WitnessBenchLaw", "(LWitnessBench;II[J)I"), ("isMoved", "WitnessBench$BlockFinder", "(LWitnessBench$Table;LWitnessBench$Words;II)Z"), ("movedRun", "WitnessBench$BlockFinder", "(LWitnessBench$Table;LWitnessBench$Words;II)I"), ("max", "java/lang/Math", "(II)I"), ("block", "WitnessBenchLaw", "(LWitnessBench;II[J)I"), ("parent", "WitnessBenchLaw", "(LWitnessBench;II)I"), ("changes", "WitnessBenchLaw", "(LWitnessBench;I[J)I"), ("isWitness", "WitnessBenchModel", "(I)Z")]
def ev_tT : List (String × String × String) := ev_tT_0
def ev_tN_0 : List (String) := ["WitnessBenchLaw", "WitnessBench", "WitnessBench$Letters", "WitnessBench$Rules", "WitnessBench$Words", "WitnessBench$Table", "WitnessBench$Joiner", "WitnessBench$Sheet", "WitnessBench$Reader", "WitnessBench$BlockFinder", "WitnessBench$Family", "java/util/Arrays", "WitnessBenchModel", "java/lang/Throwable", "java/lang/Exception", "java/lang/RuntimeException", "java/lang/IllegalArgumentException", "java/lang/IllegalStateException", "java/lang/IndexOutOfBoundsException", "java/lang/UnsupportedOperationException", "java/lang/Math"]
def ev_tN : List (String) := ev_tN_0
def ev_tC_0 : List (Nat × String × String) := [(8, "WitnessBenchLaw", "WitnessBench"), (9, "WitnessBench", "WitnessBench$Letters"), (21, "WitnessBench", "WitnessBench$Rules"), (9, "WitnessBench$Rules", "WitnessBench$Letters"), (28, "WitnessBench", "WitnessBench$Words"), (9, "WitnessBench$Words", "WitnessBench$Letters"), (35, "WitnessBench", "WitnessBench$Table"), (42, "WitnessBench", "WitnessBench$Joiner"), (49, "WitnessBench", "WitnessBench$Sheet"), (56, "WitnessBench", "WitnessBench$Reader"), (9, "WitnessBench$Reader", "WitnessBench$Letters"), (67, "WitnessBench", "WitnessBench$BlockFinder"), (74, "WitnessBench", "WitnessBench$Family"), (13, "WitnessBenchLaw", "java/lang/IllegalArgumentException"), (15, "WitnessBenchLaw", "java/lang/IllegalStateException"), (81, "WitnessBench", "java/lang/IllegalArgumentException"), (92, "WitnessBench", "java/lang/IllegalStateException"), (25, "WitnessBenchLaw", "java/lang/IndexOutOfBoundsException"), (27, "WitnessBenchLaw", "java/lang/UnsupportedOperationException"), (258, "WitnessBench", "java/lang/IndexOutOfBoundsException"), (121, "WitnessBench", "java/lang/UnsupportedOperationException"), (90, "WitnessBenchLaw", "WitnessBenchModel")]
def ev_tC : List (Nat × String × String) := ev_tC_0
def ev_pF (x : Cond) : Option (Nat × String × String × String × String) := match x with | .fieldLink own idx ref n d => some (idx, own, ref, n, d) | _ => none
def ev_pM (x : Cond) : Option (Nat × String × String × String × String) := match x with | .methodLink own idx y => some (idx, own, y.cls, y.name, y.desc) | _ => none
def ev_pI (x : Cond) : Option (String × String × String) := match x with | .instanceMethod y => some (y.name, y.cls, y.desc) | _ => none
def ev_pS (x : Cond) : Option (String × String × String) := match x with | .selects C y z => if C = y.cls ∧ y = z then some (y.name, y.cls, y.desc) else none | _ => none
def ev_pT (x : Cond) : Option (String × String × String) := match x with | .static y => some (y.name, y.cls, y.desc) | _ => none
def ev_pN (x : Cond) : Option String := match x with | .initialized c => some c | _ => none
def ev_pC (x : Cond) : Option (Nat × String × String) := match x with | .classLink own idx c => some (idx, own, c) | _ => none
theorem ev_tN_eq : lw_tbl.filterMap ev_pN = ev_tN := by decide +kernel
theorem ev_tC_eq : lw_tbl.filterMap ev_pC = ev_tC := by decide +kernel
theorem ev_tF_eq : lw_tbl.filterMap ev_pF = ev_tF := by decide +kernel
theorem ev_tM_eq : lw_tbl.filterMap ev_pM = ev_tM := by decide +kernel
theorem ev_tI_eq : lw_tbl.filterMap ev_pI = ev_tI := by decide +kernel
theorem ev_tS_eq : lw_tbl.filterMap ev_pS = ev_tS := by decide +kernel
theorem ev_tT_eq : lw_tbl.filterMap ev_pT = ev_tT := by decide +kernel
/-- a word that stays true while the tables grow warmer -/
def ev_gw (x : Cond) : Bool := match x with
  | .methodLinkNest _ _ _ _ => true
  | .fieldLinkNest _ _ _ _ _ _ => true
  | .arrayOver (.object _) => true
  | .declares _ => true
  | .castable _ _ => true
  | x => goodWord x
theorem ev_gw_at {x : Cond} {s U : State} (hW : s.WarmedH U.vm) (hg : ev_gw x = true) {a1 a2 : Array Value} (hx : x.before a1 s = true) : x.before a2 U = true := by
  unfold ev_gw at hg
  split at hg
  · exact va_Nw.use rfl (va_Nw.warmM hW (va_Nw.of rfl hx))
  · exact va_Nw.use rfl (va_Nw.warmF hW (va_Nw.of rfl hx))
  · exact va_AO.use (va_AO.moved hW.alike (va_AO.of hx))
  · exact va_tabs rfl (rfl : (s.setVm U.vm).vm = U.vm) (Cond.before_shiftedFace (State.Shifted.of_warmed hW) _ rfl hx)
  · exact va_tabs rfl (rfl : (s.setVm U.vm).vm = U.vm) (Cond.before_shiftedFace (State.Shifted.of_warmed hW) _ rfl hx)
  · exact word_at hW (good_of_word hg) hx
def ev_has (x : Cond) : Bool := match x with
  | .fieldLink own idx ref n d => decide ((idx, own, ref, n, d) ∈ ev_tF)
  | .methodLink own idx y => decide ((idx, own, y.cls, y.name, y.desc) ∈ ev_tM)
  | .instanceMethod y => decide ((y.name, y.cls, y.desc) ∈ ev_tI)
  | .selects C y z => if C = y.cls ∧ y = z then decide ((y.name, y.cls, y.desc) ∈ ev_tS) else decide (Cond.selects C y z ∈ lw_tbl)
  | .static y => decide ((y.name, y.cls, y.desc) ∈ ev_tT)
  | .initialized c => decide (c ∈ ev_tN)
  | .classLink own idx c => decide ((idx, own, c) ∈ ev_tC)
  | x => decide (x ∈ lw_tbl) && ev_gw x
theorem ev_ba {a b : ByteArray} (h : a.data = b.data) : a = b := by
  cases a; cases b
  simp only at h
  rw [h]
theorem ev_mn_mem {f : MethodName → Cond} {y z : MethodName} {l : List Cond} (hz : f z ∈ l) (hp : z.name = y.name ∧ z.cls = y.cls ∧ z.desc = y.desc) : f y ∈ l := by
  obtain ⟨h1, h2, h3⟩ := hp
  have e1 : z = y := by
    cases z; cases y
    simp only at h1 h2 h3
    rw [h1, h2, h3]
  rw [e1] at hz
  exact hz
theorem ev_has_in {x : Cond} (hx : ev_has x = true) : x ∈ lw_tbl ∧ ev_gw x = true := by
  unfold ev_has at hx
  split at hx
  · have h1 := of_decide_eq_true hx
    rw [← ev_tF_eq] at h1
    obtain ⟨z, hz, hp⟩ := List.mem_filterMap.mp h1
    unfold ev_pF at hp
    split at hp
    · simp only [Option.some.injEq, Prod.mk.injEq] at hp
      obtain ⟨rfl, rfl, rfl, rfl, rfl⟩ := hp
      exact ⟨hz, rfl⟩
    · cases hp
  · have h1 := of_decide_eq_true hx
    rw [← ev_tM_eq] at h1
    obtain ⟨z, hz, hp⟩ := List.mem_filterMap.mp h1
    unfold ev_pM at hp
    split at hp
    · simp only [Option.some.injEq, Prod.mk.injEq] at hp
      obtain ⟨rfl, rfl, h3, h4, h5⟩ := hp
      exact ⟨ev_mn_mem (f := Cond.methodLink _ _) hz ⟨h4, h3, h5⟩, rfl⟩
    · cases hp
  · have h1 := of_decide_eq_true hx
    rw [← ev_tI_eq] at h1
    obtain ⟨z, hz, hp⟩ := List.mem_filterMap.mp h1
    unfold ev_pI at hp
    split at hp
    · simp only [Option.some.injEq, Prod.mk.injEq] at hp
      exact ⟨ev_mn_mem (f := Cond.instanceMethod) hz hp, rfl⟩
    · cases hp
  · split at hx
    · rename_i hcc
      obtain ⟨e1, e2⟩ := hcc
      have h1 := of_decide_eq_true hx
      subst e1
      subst e2
      rw [← ev_tS_eq] at h1
      obtain ⟨z, hz, hp⟩ := List.mem_filterMap.mp h1
      unfold ev_pS at hp
      split at hp
      · split at hp
        · rename_i hc
          obtain ⟨e1, e2⟩ := hc
          subst e1
          subst e2
          simp only [Option.some.injEq, Prod.mk.injEq] at hp
          exact ⟨ev_mn_mem (f := fun y => Cond.selects y.cls y y) hz hp, rfl⟩
        · cases hp
      · cases hp
    · exact ⟨of_decide_eq_true hx, rfl⟩
  · have h1 := of_decide_eq_true hx
    rw [← ev_tT_eq] at h1
    obtain ⟨z, hz, hp⟩ := List.mem_filterMap.mp h1
    unfold ev_pT at hp
    split at hp
    · simp only [Option.some.injEq, Prod.mk.injEq] at hp
      exact ⟨ev_mn_mem (f := Cond.static) hz hp, rfl⟩
    · cases hp
  · have h1 := of_decide_eq_true hx
    rw [← ev_tN_eq] at h1
    obtain ⟨z, hz, hp⟩ := List.mem_filterMap.mp h1
    unfold ev_pN at hp
    split at hp
    · simp only [Option.some.injEq] at hp
      subst hp
      exact ⟨hz, rfl⟩
    · cases hp
  · have h1 := of_decide_eq_true hx
    rw [← ev_tC_eq] at h1
    obtain ⟨z, hz, hp⟩ := List.mem_filterMap.mp h1
    unfold ev_pC at hp
    split at hp
    · simp only [Option.some.injEq, Prod.mk.injEq] at hp
      obtain ⟨rfl, rfl, rfl⟩ := hp
      exact ⟨hz, rfl⟩
    · cases hp
  · simp only [Bool.and_eq_true, decide_eq_true_eq] at hx
    exact hx
end EvWords
end
section
/-! the small world: a heap that is a list; its k-th cell lies k behind the heap that the law was begun with -/
section EvWorld
abbrev ev_E : Type := (Nat × vp_A) ⊕ (Nat × List Value)
abbrev ev_H : Type := List ev_E
/-- launch, the law's first state, its arguments, the classes' numbers, the array classes' numbers, the script's address, how many cells and slots there may be in all, the script's length and numbers -/
abbrev ev_W : Type := Launch × State × Array Value × va_G × (Nat → ClassId) × Nat × Nat × Nat × Nat × (Nat → Int32)
/-- what a call comes to: a value or nothing, or the place of what it threw -/
abbrev ev_R : Type := Option Value ⊕ Nat
def ev_base (w : ev_W) : Nat := w.2.1.heap.size
def ev_A (w : ev_W) : Nat → Prop := fun q => ev_base w ≤ q
def ev_v (w : ev_W) (v : Value) : Value := match v with
  | .ref k => .ref (ev_base w + k)
  | .retAddr _ => .ref w.2.2.2.2.2.1
  | .int x => .int x
  | .long x => .long x
  | .float x => .float x
  | .double x => .double x
  | .null => .null
theorem ev_v_cat (w : ev_W) (v : Value) : (ev_v w v).category = v.category := by cases v <;> rfl
def ev_arr (w : ev_W) (x : vp_A) : vp_A := (x.1, match x.2 with
  | .inl f => .inl f
  | .inr (.inl f) => .inr (.inl f)
  | .inr (.inr (.inl f)) => .inr (.inr (.inl f))
  | .inr (.inr (.inr (.inl f))) => .inr (.inr (.inr (.inl f)))
  | .inr (.inr (.inr (.inr f))) => .inr (.inr (.inr (.inr (fun j => (f j).map (fun k => ev_base w + k))))))
def ev_e (w : ev_W) (x : ev_E) : va_E := match x with
  | .inl (k, a) => .inl (w.2.2.2.2.1 k, ev_arr w a)
  | .inr (c, fs) => .inr (c, fs.map (ev_v w))
def ev_ws (w : ev_W) (h : ev_H) : va_W := h.mapIdx (fun k x => (ev_base w + k, ev_e w x))
theorem ev_ws_len (w : ev_W) (h : ev_H) : (ev_ws w h).length = h.length := by simp [ev_ws]
theorem ev_ws_get {w : ev_W} {h : ev_H} {k : Nat} {x : ev_E} (hk : h[k]? = some x) : (ev_ws w h)[k]? = some (ev_base w + k, ev_e w x) := by
  simp [ev_ws, hk]
theorem ev_ws_at {w : ev_W} {h : ev_H} {k : Nat} {q : Nat × va_E} (hk : (ev_ws w h)[k]? = some q) : ∃ x, h[k]? = some x ∧ q = (ev_base w + k, ev_e w x) := by
  simp only [ev_ws, List.getElem?_mapIdx] at hk
  cases hx : h[k]? with
  | none => rw [hx] at hk; cases hk
  | some x => rw [hx] at hk; exact ⟨x, rfl, (Option.some.inj hk).symm⟩
theorem ev_ws_set (w : ev_W) (h : ev_H) (k : Nat) (x : ev_E) : ev_ws w (h.set k x) = (ev_ws w h).set k (ev_base w + k, ev_e w x) := by
  apply List.ext_getElem?
  intro i
  simp only [ev_ws, List.getElem?_mapIdx, List.getElem?_set, List.length_mapIdx]
  by_cases hik : k = i
  · subst hik
    by_cases hl : k < h.length
    · simp [hl]
    · simp [hl]
  · simp [hik]
theorem ev_ws_app (w : ev_W) (h : ev_H) (x : ev_E) : ev_ws w (h ++ [x]) = ev_ws w h ++ [(ev_base w + h.length, ev_e w x)] := by
  simp [ev_ws, List.mapIdx_append]
theorem ev_ws_D (w : ev_W) (h : ev_H) : va_D (ev_A w) (ev_ws w h) := by
  refine ⟨fun i j p q hi hj hpq => ?_, fun k q hk => ?_⟩
  · obtain ⟨x, -, rfl⟩ := ev_ws_at hi
    obtain ⟨y, -, rfl⟩ := ev_ws_at hj
    have h1 : ev_base w + i = ev_base w + j := hpq
    omega
  · obtain ⟨x, -, rfl⟩ := ev_ws_at hk
    show ev_base w ≤ ev_base w + k
    omega
/-- how many slots the cells have -/
def ev_c1 (x : ev_E) : Nat := match x with
  | .inl (_, a) => a.1
  | .inr (c, _) => ev_sz c
def ev_cost (h : ev_H) : Nat := (h.map ev_c1).sum
theorem ev_cost_app (h : ev_H) (x : ev_E) : ev_cost (h ++ [x]) = ev_cost h + ev_c1 x := by simp [ev_cost]
theorem ev_cost_set {h : ev_H} {k : Nat} {x y : ev_E} (hk : h[k]? = some x) (hc : ev_c1 y = ev_c1 x) : ev_cost (h.set k y) = ev_cost h := by
  induction h generalizing k with
  | nil => simp at hk
  | cons a t ih =>
    cases k with
    | zero =>
      simp only [List.getElem?_cons_zero, Option.some.injEq] at hk
      subst hk
      simp [ev_cost, hc]
    | succ k =>
      simp only [List.getElem?_cons_succ] at hk
      have h1 := ih hk
      simp only [ev_cost] at h1
      simp only [ev_cost, List.set_cons_succ, List.map_cons, List.sum_cons, h1]
/-- the heap H holds the small heap h, and nothing else is new -/
def ev_rep (w : ev_W) (h : ev_H) (H : Heap) : Prop :=
  va_P w.2.2.2.1 ev_cl (ev_ws w h) H ∧ H.size = ev_base w + h.length ∧ ∀ q : Nat, q < ev_base w → H[q]? = w.2.1.heap[q]?
/-- locals: what is known of them; all of one slot -/
def ev_lv (w : ev_W) (L : List (Option Value)) : List (Nat × Value) := (List.range L.length).filterMap (fun i => (L[i]?.join).map (fun v => (i, ev_v w v)))
theorem ev_lv_mem {w : ev_W} {L : List (Option Value)} {i : Nat} {v : Value} (h : L[i]? = some (some v)) : (i, ev_v w v) ∈ ev_lv w L := by
  refine List.mem_filterMap.mpr ⟨i, List.mem_range.mpr (List.getElem?_eq_some_iff.mp h).1, ?_⟩
  simp [h]
theorem ev_lv_of {w : ev_W} {L : List (Option Value)} {q : Nat × Value} (h : q ∈ ev_lv w L) : ∃ v, L[q.1]? = some (some v) ∧ q.2 = ev_v w v := by
  obtain ⟨i, -, hi⟩ := List.mem_filterMap.mp h
  cases hL : L[i]? with
  | none => simp [hL] at hi
  | some o =>
    cases o with
    | none => simp [hL] at hi
    | some v =>
      simp only [hL, Option.join_some, Option.map_some, Option.some.injEq] at hi
      subst hi
      exact ⟨v, hL, rfl⟩
def ev_ls (w : ev_W) (nL : Nat) (L : List (Option Value)) (ls : Array Slot) : Prop :=
  lv_has ls nL (ev_lv w L) ∧ ∀ (i : Nat) (v : Value), L[i]? = some (some v) → v.category = 1
theorem ev_ls.get {w : ev_W} {nL : Nat} {L : List (Option Value)} {ls : Array Slot} (h : ev_ls w nL L ls) {i : Nat} {v : Value} (hi : L[i]? = some (some v)) : ls[i]? = some (.val (ev_v w v)) :=
  h.1.2.2 _ (ev_lv_mem hi)
theorem ev_ls.put {w : ev_W} {nL : Nat} {L : List (Option Value)} {ls ls' : Array Slot} (h : ev_ls w nL L ls) {i : Nat} {v : Value} (hc : v.category = 1)
    (h' : lv_has ls' nL ((i, ev_v w v) :: (ev_lv w L).filter (fun q => !(q.1 == i) && !(q.1 + 1 == i && q.2.category == 2)))) : ev_ls w nL (L.set i (some v)) ls' := by
  have key : ∀ (j : Nat) (u : Value), (L.set i (some v))[j]? = some (some u) → (j = i ∧ u = v) ∨ (j ≠ i ∧ L[j]? = some (some u)) := by
    intro j u hj
    by_cases hji : i = j
    · subst hji
      rw [List.getElem?_set_self'] at hj
      cases hL : L[i]? with
      | none => rw [hL] at hj; cases hj
      | some o => rw [hL] at hj; simp at hj; exact Or.inl ⟨rfl, hj.symm⟩
    · rw [List.getElem?_set_ne hji] at hj
      exact Or.inr ⟨fun e => hji e.symm, hj⟩
  refine ⟨⟨h'.1, h'.2.1, fun q hq => ?_⟩, fun j u hj => ?_⟩
  · obtain ⟨u, hu, hq2⟩ := ev_lv_of hq
    obtain ⟨qi, qv⟩ := q
    dsimp only at hu hq2
    subst hq2
    rcases key qi u hu with ⟨rfl, rfl⟩ | ⟨hne, hL⟩
    · exact h'.2.2 _ List.mem_cons_self
    · refine h'.2.2 _ (List.mem_cons_of_mem _ (List.mem_filter.mpr ⟨ev_lv_mem hL, ?_⟩))
      have h1 : u.category = 1 := h.2 _ _ hL
      have h2 : (ev_v w u).category = 1 := by rw [ev_v_cat]; exact h1
      simp [hne, h2]
  · rcases key j u hj with ⟨rfl, rfl⟩ | ⟨hne, hL⟩
    · exact hc
    · exact h.2 _ _ hL
end EvWorld
end
section
/-! the judgement: a frame of a method over a small heap comes to its end with Q; a row an instruction -/
section EvG
/-- name, bytes, locals, return type, handlers, and the listing: place, instruction, two numbers of its link -/
abbrev ev_M : Type := MethodName × ByteArray × Nat × Option FieldType × List (Nat × Nat × Nat × Nat) × List (Nat × Instr × Nat × Nat)
def ev_len (i : Instr) (a : Nat) : Nat := match i with
  | .bipush _ => 2 | .iload _ => 2 | .istore _ => 2 | .aload _ => 2 | .astore _ => 2 | .newarray _ => 2 | .ldc _ => 2
  | .ldc_w _ => 3 | .sipush _ => 3 | .iinc _ _ => 3 | .ifCond _ _ => 3 | .if_icmp _ _ => 3 | .goto _ => 3 | .getfield _ => 3 | .putfield _ => 3
  | .invokevirtual _ => 3 | .invokespecial _ => 3 | .invokestatic _ => 3 | .new _ => 3 | .anewarray _ => 3
  | .tableswitch _ _ _ _ => a
  | _ => 1
def ev_ins (M : ev_M) (pc : Nat) : Option (Instr × Nat × Nat) := (M.2.2.2.2.2.find? (fun q => q.1 == pc)).map (fun q => q.2)
def ev_dec (M : ev_M) : Bool := M.2.2.2.2.2.all (fun q => decide (decode M.2.1 q.1 = .ok (q.2.1, ev_len q.2.1 q.2.2.1)))
theorem ev_ins_mem {M : ev_M} {pc : Nat} {x : Instr × Nat × Nat} (hi : ev_ins M pc = some x) : (pc, x) ∈ M.2.2.2.2.2 := by
  unfold ev_ins at hi
  cases hf : M.2.2.2.2.2.find? (fun q => q.1 == pc) with
  | none => rw [hf] at hi; cases hi
  | some q =>
    rw [hf] at hi
    have h1 : q.1 = pc := by simpa using List.find?_some hf
    have h2 : q.2 = x := Option.some.inj hi
    have h3 : q = (pc, x) := by rw [← h1, ← h2]
    rw [← h3]
    exact List.mem_of_find?_eq_some hf
theorem ev_dec_at {M : ev_M} {pc : Nat} {i : Instr} {a b : Nat} (hM : ev_dec M = true) (hi : ev_ins M pc = some (i, a, b)) : decode M.2.1 pc = .ok (i, ev_len i a) := by
  have h := List.all_eq_true.mp hM _ (ev_ins_mem hi)
  exact of_decide_eq_true h
/-- what stays the same while a method runs -/
def ev_fx (w : ev_W) (M : ev_M) (p : Program) (s : State) (m : MethodId) (meth : Method) (c : Code) : Prop :=
  p.tables.exec = Jvm.exec ∧ c.code = M.2.1 ∧ c.maxLocals = M.2.2.1 ∧ meth.sig.returnType = M.2.2.2.1 ∧ meth.locks = false ∧ s.vm.findClass M.1.cls = some m.cls ∧ meth.name = M.1.name ∧
  c.exceptionTable.toList.map (fun h => (h.startPc, h.endPc, h.handlerPc, h.catchType)) = M.2.2.2.2.1 ∧ w.2.1.WarmedH s.vm
/-- the room of a method that needs d.1 frames and d.2 words, begun with the small heap h0 -/
def ev_fit (w : ev_W) (d : Nat × Nat) (h0 : ev_H) (R : Room) : Prop := d.1 ≤ R.frames ∧ d.2 ≤ R.locals ∧ w.2.2.2.2.2.2.1 ≤ h0.length + R.cells ∧ w.2.2.2.2.2.2.2.1 ≤ ev_cost h0 + R.slots
def ev_out (w : ev_W) (r : ev_R) (h' : ev_H) (o : Outcome) : Prop := match r with
  | .inl v => o = .returned (v.map (ev_v w))
  | .inr k => o = .threw (ev_base w + k) ∧ ∃ c, h'[k]? = some (.inr (c, []))
def ev_end (w : ev_W) (h0 : ev_H) (Q : ev_R → ev_H → Prop) (s : State) (o : Outcome) (t : State) : Prop :=
  ∃ (r : ev_R) (h' : ev_H), Q r h' ∧ ev_out w r h' o ∧ ev_rep w h' t.heap ∧ h0.length ≤ h'.length ∧ ev_cost h0 ≤ ev_cost h' ∧ h'.length ≤ w.2.2.2.2.2.2.1 ∧ ev_cost h' ≤ w.2.2.2.2.2.2.2.1 ∧ s.WarmedH t.vm ∧
    ∃ L : List Loc, s.sameButNew ({ t with vm := s.vm } : State) L (h'.length - h0.length) (ev_cost h' - ev_cost h0) ∧ ∀ z ∈ L, ev_A w z.base
def ev_PQ (w : ev_W) (h0 : ev_H) (Q : ev_R → ev_H → Prop) (below : List Frame) (s : State) : State → Prop := fun t =>
  ∃ o, t.status = .running ∧ Ended t below o ∧ ev_end w h0 Q s o t
def ev_cx (w : ev_W) (M : ev_M) (d : Nat × Nat) (h0 : ev_H) (p : Program) (R : Room) (s : State) (m : MethodId) (meth : Method) (c : Code) (h : ev_H) (H : Heap) (locs : List Loc) (L : List (Option Value)) (ls : Array Slot) : Prop :=
  ev_fx w M p s m meth c ∧ ev_rep w h0 s.heap ∧ ev_fit w d h0 R ∧ va_P w.2.2.2.1 ev_cl (ev_ws w h) H ∧ va_S (ev_A w) s.heap H locs ∧ ev_ls w M.2.2.1 L ls ∧ h0.length ≤ h.length ∧ ev_cost h0 ≤ ev_cost h ∧ h.length ≤ w.2.2.2.2.2.2.1 ∧ ev_cost h ≤ w.2.2.2.2.2.2.2.1
def ev_G (w : ev_W) (M : ev_M) (d : Nat × Nat) (h0 : ev_H) (Q : ev_R → ev_H → Prop) (pc : Nat) (L : List (Option Value)) (st : List Value) (h : ev_H) : Prop :=
  ∀ (p : Program) (e : Env) (R : Room) (s : State) (m : MethodId) (args : Array Value) (below : List Frame) (meth : Method) (c : Code) (H : Heap) (locs : List Loc) (ls : Array Slot),
    ev_cx w M d h0 p R s m meth c h H locs L ls →
    W p w.1 e R s m args below meth c H locs (h.length - h0.length) (ev_cost h - ev_cost h0) (ev_PQ w h0 Q below s) (F0 m pc ls (st.map (ev_v w)))
variable {w : ev_W} {M : ev_M} {d : Nat × Nat} {h0 : ev_H} {Q : ev_R → ev_H → Prop} {pc : Nat} {L : List (Option Value)} {st : List Value} {h : ev_H} {a b : Nat}
theorem ev_cx.stored {p : Program} {R : Room} {s : State} {m : MethodId} {meth : Method} {c : Code} {H : Heap} {locs : List Loc} {ls ls' : Array Slot} (C : ev_cx w M d h0 p R s m meth c h H locs L ls) {i : Nat} {v : Value} (hc : v.category = 1)
    (h' : lv_has ls' M.2.2.1 ((i, ev_v w v) :: (ev_lv w L).filter (fun q => !(q.1 == i) && !(q.1 + 1 == i && q.2.category == 2)))) : ev_cx w M d h0 p R s m meth c h H locs (L.set i (some v)) ls' := by
  obtain ⟨c1, c2, c3, c4, c5, c6, c7⟩ := C
  exact ⟨c1, c2, c3, c4, c5, c6.put hc h', c7⟩
theorem ev_iconst (hM : ev_dec M = true) {n : Int} (hi : ev_ins M pc = some (.iconst n, a, b)) (k : ev_G w M d h0 Q (pc + 1) L (.int (Int32.ofInt n) :: st) h) : ev_G w M d h0 Q pc L st h := by
  intro p e R s m args below meth c H locs ls C
  exact lv_iconst C.1.1 C.1.2.1 (ev_dec_at hM hi) rfl (k p e R s m args below meth c H locs ls C)
theorem ev_bipush (hM : ev_dec M = true) {n : Int} (hi : ev_ins M pc = some (.bipush n, a, b)) (k : ev_G w M d h0 Q (pc + 2) L (.int (Int8.ofInt n).toInt32 :: st) h) : ev_G w M d h0 Q pc L st h := by
  intro p e R s m args below meth c H locs ls C
  exact lv_bipush C.1.1 C.1.2.1 (ev_dec_at hM hi) rfl (k p e R s m args below meth c H locs ls C)
theorem ev_sipush (hM : ev_dec M = true) {n : Int} (hi : ev_ins M pc = some (.sipush n, a, b)) (k : ev_G w M d h0 Q (pc + 3) L (.int (Int16.ofInt n).toInt32 :: st) h) : ev_G w M d h0 Q pc L st h := by
  intro p e R s m args below meth c H locs ls C
  exact lv_sipush C.1.1 C.1.2.1 (ev_dec_at hM hi) rfl (k p e R s m args below meth c H locs ls C)
theorem ev_iload_n (hM : ev_dec M = true) {i : Fin 4} {x : Int32} (hi : ev_ins M pc = some (.iload_n i, a, b)) (hl : L[(i : Nat)]? = some (some (.int x))) (k : ev_G w M d h0 Q (pc + 1) L (.int x :: st) h) : ev_G w M d h0 Q pc L st h := by
  intro p e R s m args below meth c H locs ls C
  exact lv_iload_n C.1.1 C.1.2.1 (ev_dec_at hM hi) rfl (C.2.2.2.2.2.1.get hl) (k p e R s m args below meth c H locs ls C)
theorem ev_iload (hM : ev_dec M = true) {i : Nat} {x : Int32} (hi : ev_ins M pc = some (.iload i, a, b)) (hl : L[i]? = some (some (.int x))) (k : ev_G w M d h0 Q (pc + 2) L (.int x :: st) h) : ev_G w M d h0 Q pc L st h := by
  intro p e R s m args below meth c H locs ls C
  exact lv_iload C.1.1 C.1.2.1 (ev_dec_at hM hi) (C.2.2.2.2.2.1.get hl) (k p e R s m args below meth c H locs ls C)
theorem ev_aload_n (hM : ev_dec M = true) {i : Fin 4} {x : Nat} (hi : ev_ins M pc = some (.aload_n i, a, b)) (hl : L[(i : Nat)]? = some (some (.ref x))) (k : ev_G w M d h0 Q (pc + 1) L (.ref x :: st) h) : ev_G w M d h0 Q pc L st h := by
  intro p e R s m args below meth c H locs ls C
  exact lv_aload_n C.1.1 C.1.2.1 (ev_dec_at hM hi) rfl (C.2.2.2.2.2.1.get hl) (k p e R s m args below meth c H locs ls C)
theorem ev_aload (hM : ev_dec M = true) {i : Nat} {x : Nat} (hi : ev_ins M pc = some (.aload i, a, b)) (hl : L[i]? = some (some (.ref x))) (k : ev_G w M d h0 Q (pc + 2) L (.ref x :: st) h) : ev_G w M d h0 Q pc L st h := by
  intro p e R s m args below meth c H locs ls C
  exact lv_aload C.1.1 C.1.2.1 (ev_dec_at hM hi) (C.2.2.2.2.2.1.get hl) (k p e R s m args below meth c H locs ls C)
theorem ev_aload_nS (hM : ev_dec M = true) {i : Fin 4} {x : Nat} (hi : ev_ins M pc = some (.aload_n i, a, b)) (hl : L[(i : Nat)]? = some (some (.retAddr x))) (k : ev_G w M d h0 Q (pc + 1) L (.retAddr x :: st) h) : ev_G w M d h0 Q pc L st h := by
  intro p e R s m args below meth c H locs ls C
  exact lv_aload_n C.1.1 C.1.2.1 (ev_dec_at hM hi) rfl (C.2.2.2.2.2.1.get hl) (k p e R s m args below meth c H locs ls C)
theorem ev_aloadS (hM : ev_dec M = true) {i : Nat} {x : Nat} (hi : ev_ins M pc = some (.aload i, a, b)) (hl : L[i]? = some (some (.retAddr x))) (k : ev_G w M d h0 Q (pc + 2) L (.retAddr x :: st) h) : ev_G w M d h0 Q pc L st h := by
  intro p e R s m args below meth c H locs ls C
  exact lv_aload C.1.1 C.1.2.1 (ev_dec_at hM hi) (C.2.2.2.2.2.1.get hl) (k p e R s m args below meth c H locs ls C)
theorem ev_istore_n (hM : ev_dec M = true) {i : Fin 4} {x : Int32} (hi : ev_ins M pc = some (.istore_n i, a, b)) (hn : (i : Nat) < M.2.2.1) (k : ev_G w M d h0 Q (pc + 1) (L.set (i : Nat) (some (.int x))) st h) : ev_G w M d h0 Q pc L (.int x :: st) h := by
  intro p e R s m args below meth c H locs ls C
  exact lv_istore_n C.1.1 C.1.2.1 (ev_dec_at hM hi) rfl C.2.2.2.2.2.1.1 hn rfl (fun ls' h' => k p e R s m args below meth c H locs ls' (C.stored (v := .int x) rfl h'))
theorem ev_istore (hM : ev_dec M = true) {i : Nat} {x : Int32} (hi : ev_ins M pc = some (.istore i, a, b)) (hn : i < M.2.2.1) (k : ev_G w M d h0 Q (pc + 2) (L.set i (some (.int x))) st h) : ev_G w M d h0 Q pc L (.int x :: st) h := by
  intro p e R s m args below meth c H locs ls C
  exact lv_istore C.1.1 C.1.2.1 (ev_dec_at hM hi) C.2.2.2.2.2.1.1 hn rfl (fun ls' h' => k p e R s m args below meth c H locs ls' (C.stored (v := .int x) rfl h'))
theorem ev_astore_n (hM : ev_dec M = true) {i : Fin 4} {x : Nat} (hi : ev_ins M pc = some (.astore_n i, a, b)) (hn : (i : Nat) < M.2.2.1) (k : ev_G w M d h0 Q (pc + 1) (L.set (i : Nat) (some (.ref x))) st h) : ev_G w M d h0 Q pc L (.ref x :: st) h := by
  intro p e R s m args below meth c H locs ls C
  exact lv_astore_n C.1.1 C.1.2.1 (ev_dec_at hM hi) rfl C.2.2.2.2.2.1.1 hn rfl (fun ls' h' => k p e R s m args below meth c H locs ls' (C.stored (v := .ref x) rfl h'))
theorem ev_astore (hM : ev_dec M = true) {i : Nat} {x : Nat} (hi : ev_ins M pc = some (.astore i, a, b)) (hn : i < M.2.2.1) (k : ev_G w M d h0 Q (pc + 2) (L.set i (some (.ref x))) st h) : ev_G w M d h0 Q pc L (.ref x :: st) h := by
  intro p e R s m args below meth c H locs ls C
  exact lv_astore C.1.1 C.1.2.1 (ev_dec_at hM hi) C.2.2.2.2.2.1.1 hn rfl (fun ls' h' => k p e R s m args below meth c H locs ls' (C.stored (v := .ref x) rfl h'))
theorem ev_astore_nS (hM : ev_dec M = true) {i : Fin 4} {x : Nat} (hi : ev_ins M pc = some (.astore_n i, a, b)) (hn : (i : Nat) < M.2.2.1) (k : ev_G w M d h0 Q (pc + 1) (L.set (i : Nat) (some (.retAddr x))) st h) : ev_G w M d h0 Q pc L (.retAddr x :: st) h := by
  intro p e R s m args below meth c H locs ls C
  exact lv_astore_n C.1.1 C.1.2.1 (ev_dec_at hM hi) rfl C.2.2.2.2.2.1.1 hn rfl (fun ls' h' => k p e R s m args below meth c H locs ls' (C.stored (v := .retAddr x) rfl h'))
theorem ev_astoreS (hM : ev_dec M = true) {i : Nat} {x : Nat} (hi : ev_ins M pc = some (.astore i, a, b)) (hn : i < M.2.2.1) (k : ev_G w M d h0 Q (pc + 2) (L.set i (some (.retAddr x))) st h) : ev_G w M d h0 Q pc L (.retAddr x :: st) h := by
  intro p e R s m args below meth c H locs ls C
  exact lv_astore C.1.1 C.1.2.1 (ev_dec_at hM hi) C.2.2.2.2.2.1.1 hn rfl (fun ls' h' => k p e R s m args below meth c H locs ls' (C.stored (v := .retAddr x) rfl h'))
theorem ev_iinc (hM : ev_dec M = true) {i : Nat} {n : Int} {x : Int32} (hi : ev_ins M pc = some (.iinc i n, a, b)) (hl : L[i]? = some (some (.int x))) (hn : i < M.2.2.1) (k : ev_G w M d h0 Q (pc + 3) (L.set i (some (.int (x + Int32.ofInt n)))) st h) : ev_G w M d h0 Q pc L st h := by
  intro p e R s m args below meth c H locs ls C
  obtain ⟨j, hj⟩ := List.getElem?_of_mem (ev_lv_mem (w := w) hl)
  exact lv_iinc (k := j) (x := x) C.1.1 C.1.2.1 (ev_dec_at hM hi) C.2.2.2.2.2.1.1 hj rfl hn rfl (fun ls' h' => k p e R s m args below meth c H locs ls' (C.stored (v := .int (x + Int32.ofInt n)) rfl h'))
theorem ev_iadd (hM : ev_dec M = true) {x y : Int32} (hi : ev_ins M pc = some (.iadd, a, b)) (k : ev_G w M d h0 Q (pc + 1) L (.int (x + y) :: st) h) : ev_G w M d h0 Q pc L (.int y :: .int x :: st) h := by
  intro p e R s m args below meth c H locs ls C
  exact lv_iadd C.1.1 C.1.2.1 (ev_dec_at hM hi) (k p e R s m args below meth c H locs ls C)
theorem ev_isub (hM : ev_dec M = true) {x y : Int32} (hi : ev_ins M pc = some (.isub, a, b)) (k : ev_G w M d h0 Q (pc + 1) L (.int (x - y) :: st) h) : ev_G w M d h0 Q pc L (.int y :: .int x :: st) h := by
  intro p e R s m args below meth c H locs ls C
  exact lv_isub C.1.1 C.1.2.1 (ev_dec_at hM hi) (k p e R s m args below meth c H locs ls C)
theorem ev_imul (hM : ev_dec M = true) {x y : Int32} (hi : ev_ins M pc = some (.imul, a, b)) (k : ev_G w M d h0 Q (pc + 1) L (.int (x * y) :: st) h) : ev_G w M d h0 Q pc L (.int y :: .int x :: st) h := by
  intro p e R s m args below meth c H locs ls C
  exact lv_imul C.1.1 C.1.2.1 (ev_dec_at hM hi) (k p e R s m args below meth c H locs ls C)
theorem ev_iand (hM : ev_dec M = true) {x y : Int32} (hi : ev_ins M pc = some (.iand, a, b)) (k : ev_G w M d h0 Q (pc + 1) L (.int (x &&& y) :: st) h) : ev_G w M d h0 Q pc L (.int y :: .int x :: st) h := by
  intro p e R s m args below meth c H locs ls C
  exact lv_iand C.1.1 C.1.2.1 (ev_dec_at hM hi) (k p e R s m args below meth c H locs ls C)
theorem ev_ior (hM : ev_dec M = true) {x y : Int32} (hi : ev_ins M pc = some (.ior, a, b)) (k : ev_G w M d h0 Q (pc + 1) L (.int (x ||| y) :: st) h) : ev_G w M d h0 Q pc L (.int y :: .int x :: st) h := by
  intro p e R s m args below meth c H locs ls C
  exact lv_ior C.1.1 C.1.2.1 (ev_dec_at hM hi) (k p e R s m args below meth c H locs ls C)
theorem ev_ishl (hM : ev_dec M = true) {x y : Int32} (hi : ev_ins M pc = some (.ishl, a, b)) (k : ev_G w M d h0 Q (pc + 1) L (.int (x <<< (y &&& 31)) :: st) h) : ev_G w M d h0 Q pc L (.int y :: .int x :: st) h := by
  intro p e R s m args below meth c H locs ls C
  exact lv_ishl C.1.1 C.1.2.1 (ev_dec_at hM hi) (k p e R s m args below meth c H locs ls C)
theorem ev_ishr (hM : ev_dec M = true) {x y : Int32} (hi : ev_ins M pc = some (.ishr, a, b)) (k : ev_G w M d h0 Q (pc + 1) L (.int (x >>> (y &&& 31)) :: st) h) : ev_G w M d h0 Q pc L (.int y :: .int x :: st) h := by
  intro p e R s m args below meth c H locs ls C
  exact lv_ishr C.1.1 C.1.2.1 (ev_dec_at hM hi) (k p e R s m args below meth c H locs ls C)
theorem ev_idiv (hM : ev_dec M = true) {x y : Int32} (hi : ev_ins M pc = some (.idiv, a, b)) (hne : ¬ y = 0) (k : ev_G w M d h0 Q (pc + 1) L (.int (x / y) :: st) h) : ev_G w M d h0 Q pc L (.int y :: .int x :: st) h := by
  intro p e R s m args below meth c H locs ls C
  exact lv_idiv C.1.1 C.1.2.1 (ev_dec_at hM hi) hne (k p e R s m args below meth c H locs ls C)
theorem ev_irem (hM : ev_dec M = true) {x y : Int32} (hi : ev_ins M pc = some (.irem, a, b)) (hne : ¬ y = 0) (k : ev_G w M d h0 Q (pc + 1) L (.int (x - x / y * y) :: st) h) : ev_G w M d h0 Q pc L (.int y :: .int x :: st) h := by
  intro p e R s m args below meth c H locs ls C
  exact lv_irem C.1.1 C.1.2.1 (ev_dec_at hM hi) hne (k p e R s m args below meth c H locs ls C)
theorem ev_ineg (hM : ev_dec M = true) {x : Int32} (hi : ev_ins M pc = some (.ineg, a, b)) (k : ev_G w M d h0 Q (pc + 1) L (.int (-x) :: st) h) : ev_G w M d h0 Q pc L (.int x :: st) h := by
  intro p e R s m args below meth c H locs ls C
  exact lv_ineg C.1.1 C.1.2.1 (ev_dec_at hM hi) (k p e R s m args below meth c H locs ls C)
theorem ev_i2c (hM : ev_dec M = true) {x : Int32} (hi : ev_ins M pc = some (.i2c, a, b)) (k : ev_G w M d h0 Q (pc + 1) L (.int (x.toUInt32 % 65536).toInt32 :: st) h) : ev_G w M d h0 Q pc L (.int x :: st) h := by
  intro p e R s m args below meth c H locs ls C
  exact lv_i2c C.1.1 C.1.2.1 (ev_dec_at hM hi) rfl (k p e R s m args below meth c H locs ls C)
theorem ev_i2l (hM : ev_dec M = true) {x : Int32} (hi : ev_ins M pc = some (.i2l, a, b)) (k : ev_G w M d h0 Q (pc + 1) L (.long x.toInt64 :: st) h) : ev_G w M d h0 Q pc L (.int x :: st) h := by
  intro p e R s m args below meth c H locs ls C
  exact lv_i2l C.1.1 C.1.2.1 (ev_dec_at hM hi) rfl (k p e R s m args below meth c H locs ls C)
theorem ev_lcmp (hM : ev_dec M = true) {x y : Int64} (hi : ev_ins M pc = some (.lcmp, a, b)) (k : ev_G w M d h0 Q (pc + 1) L (.int (lg_cmp x y) :: st) h) : ev_G w M d h0 Q pc L (.long y :: .long x :: st) h := by
  intro p e R s m args below meth c H locs ls C
  exact W.lcmp C.1.1 C.1.2.1 (ev_dec_at hM hi) (k p e R s m args below meth c H locs ls C)
theorem ev_dup (hM : ev_dec M = true) {v : Value} (hi : ev_ins M pc = some (.dup, a, b)) (hv : v.category = 1) (k : ev_G w M d h0 Q (pc + 1) L (v :: v :: st) h) : ev_G w M d h0 Q pc L (v :: st) h := by
  intro p e R s m args below meth c H locs ls C
  exact lv_dup C.1.1 C.1.2.1 (ev_dec_at hM hi) ((ev_v_cat w v).trans hv) (k p e R s m args below meth c H locs ls C)
theorem ev_pop (hM : ev_dec M = true) {v : Value} (hi : ev_ins M pc = some (.pop, a, b)) (hv : v.category = 1) (k : ev_G w M d h0 Q (pc + 1) L st h) : ev_G w M d h0 Q pc L (v :: st) h := by
  intro p e R s m args below meth c H locs ls C
  exact lv_pop C.1.1 C.1.2.1 (ev_dec_at hM hi) ((ev_v_cat w v).trans hv) (k p e R s m args below meth c H locs ls C)
theorem ev_dup_x1 (hM : ev_dec M = true) {v u : Value} (hi : ev_ins M pc = some (.dup_x1, a, b)) (hv : v.category = 1) (hu : u.category = 1) (k : ev_G w M d h0 Q (pc + 1) L (v :: u :: v :: st) h) : ev_G w M d h0 Q pc L (v :: u :: st) h := by
  intro p e R s m args below meth c H locs ls C
  exact lv_dup_x1 C.1.1 C.1.2.1 (ev_dec_at hM hi) ((ev_v_cat w v).trans hv) ((ev_v_cat w u).trans hu) (k p e R s m args below meth c H locs ls C)
theorem ev_dup2 (hM : ev_dec M = true) {v u : Value} (hi : ev_ins M pc = some (.dup2, a, b)) (hv : v.category = 1) (hu : u.category = 1) (k : ev_G w M d h0 Q (pc + 1) L (v :: u :: v :: u :: st) h) : ev_G w M d h0 Q pc L (v :: u :: st) h := by
  intro p e R s m args below meth c H locs ls C
  exact lv_dup2_11 C.1.1 C.1.2.1 (ev_dec_at hM hi) ((ev_v_cat w v).trans hv) ((ev_v_cat w u).trans hu) (k p e R s m args below meth c H locs ls C)
/-- the conditions of the branches -/
def ev_c0 (c : Jvm.ClassFile.Cond) (x : Int32) : Bool := match c with
  | .eq => decide (x = 0) | .ne => decide (¬ x = 0) | .lt => decide (x < 0) | .ge => decide (0 ≤ x) | .gt => decide (0 < x) | .le => decide (x ≤ 0)
def ev_c2 (c : Jvm.ClassFile.Cond) (x y : Int32) : Bool := match c with
  | .eq => decide (x = y) | .ne => decide (¬ x = y) | .lt => decide (x < y) | .ge => decide (y ≤ x) | .gt => decide (y < x) | .le => decide (x ≤ y)
theorem ev_goto (hM : ev_dec M = true) {off : Int} {tgt : Nat} (hi : ev_ins M pc = some (.goto off, a, b)) (ht : (pc : Int) + off = (tgt : Int)) (k : ev_G w M d h0 Q tgt L st h) : ev_G w M d h0 Q pc L st h := by
  intro p e R s m args below meth c H locs ls C
  exact lv_goto C.1.1 C.1.2.1 (ev_dec_at hM hi) ht (k p e R s m args below meth c H locs ls C)
theorem ev_if (hM : ev_dec M = true) {x : Int32} {cd : Jvm.ClassFile.Cond} {off : Int} {tgt : Nat} (hi : ev_ins M pc = some (.ifCond cd off, a, b)) (ht : (pc : Int) + off = (tgt : Int)) (kt : ev_c0 cd x = true → ev_G w M d h0 Q tgt L st h) (kf : ev_c0 cd x = false → ev_G w M d h0 Q (pc + 3) L st h) : ev_G w M d h0 Q pc L (.int x :: st) h := by
  intro p e R s m args below meth c H locs ls C
  cases cd
  · exact lv_if_eq C.1.1 C.1.2.1 (ev_dec_at hM hi) ht (fun q => kt (decide_eq_true q) p e R s m args below meth c H locs ls C) (fun q => kf (decide_eq_false q) p e R s m args below meth c H locs ls C)
  · exact lv_if_ne C.1.1 C.1.2.1 (ev_dec_at hM hi) ht (fun q => kt (decide_eq_true q) p e R s m args below meth c H locs ls C) (fun q => kf (decide_eq_false (fun z => z q)) p e R s m args below meth c H locs ls C)
  · exact lv_if_lt C.1.1 C.1.2.1 (ev_dec_at hM hi) ht (fun q => kt (decide_eq_true q) p e R s m args below meth c H locs ls C) (fun q => kf (decide_eq_false q) p e R s m args below meth c H locs ls C)
  · exact lv_if_ge C.1.1 C.1.2.1 (ev_dec_at hM hi) ht (fun q => kt (decide_eq_true q) p e R s m args below meth c H locs ls C) (fun q => kf (decide_eq_false q) p e R s m args below meth c H locs ls C)
  · exact lv_if_gt C.1.1 C.1.2.1 (ev_dec_at hM hi) ht (fun q => kt (decide_eq_true q) p e R s m args below meth c H locs ls C) (fun q => kf (decide_eq_false q) p e R s m args below meth c H locs ls C)
  · exact lv_if_le C.1.1 C.1.2.1 (ev_dec_at hM hi) ht (fun q => kt (decide_eq_true q) p e R s m args below meth c H locs ls C) (fun q => kf (decide_eq_false q) p e R s m args below meth c H locs ls C)
theorem ev_icmp (hM : ev_dec M = true) {x y : Int32} {cd : Jvm.ClassFile.Cond} {off : Int} {tgt : Nat} (hi : ev_ins M pc = some (.if_icmp cd off, a, b)) (ht : (pc : Int) + off = (tgt : Int)) (kt : ev_c2 cd x y = true → ev_G w M d h0 Q tgt L st h) (kf : ev_c2 cd x y = false → ev_G w M d h0 Q (pc + 3) L st h) : ev_G w M d h0 Q pc L (.int y :: .int x :: st) h := by
  intro p e R s m args below meth c H locs ls C
  cases cd
  · exact lv_icmp_eq C.1.1 C.1.2.1 (ev_dec_at hM hi) ht (fun q => kt (decide_eq_true q) p e R s m args below meth c H locs ls C) (fun q => kf (decide_eq_false q) p e R s m args below meth c H locs ls C)
  · exact lv_icmp_ne C.1.1 C.1.2.1 (ev_dec_at hM hi) ht (fun q => kt (decide_eq_true q) p e R s m args below meth c H locs ls C) (fun q => kf (decide_eq_false (fun z => z q)) p e R s m args below meth c H locs ls C)
  · exact lv_icmp_lt C.1.1 C.1.2.1 (ev_dec_at hM hi) ht (fun q => kt (decide_eq_true q) p e R s m args below meth c H locs ls C) (fun q => kf (decide_eq_false q) p e R s m args below meth c H locs ls C)
  · exact lv_icmp_ge C.1.1 C.1.2.1 (ev_dec_at hM hi) ht (fun q => kt (decide_eq_true q) p e R s m args below meth c H locs ls C) (fun q => kf (decide_eq_false q) p e R s m args below meth c H locs ls C)
  · exact lv_icmp_gt C.1.1 C.1.2.1 (ev_dec_at hM hi) ht (fun q => kt (decide_eq_true q) p e R s m args below meth c H locs ls C) (fun q => kf (decide_eq_false q) p e R s m args below meth c H locs ls C)
  · exact lv_icmp_le C.1.1 C.1.2.1 (ev_dec_at hM hi) ht (fun q => kt (decide_eq_true q) p e R s m args below meth c H locs ls C) (fun q => kf (decide_eq_false q) p e R s m args below meth c H locs ls C)
theorem ev_tableIn (hM : ev_dec M = true) {x : Int32} {dflt lo hi' off : Int} {offs : Array Int} {tgt : Nat} (hi : ev_ins M pc = some (.tableswitch dflt lo hi' offs, a, b)) (h1 : ¬ x.toInt < lo) (h2 : ¬ hi' < x.toInt) (ho : offs[(x.toInt - lo).toNat]? = some off) (ht : (pc : Int) + off = (tgt : Int)) (k : ev_G w M d h0 Q tgt L st h) : ev_G w M d h0 Q pc L (.int x :: st) h := by
  intro p e R s m args below meth c H locs ls C
  exact lv_tableIn C.1.1 C.1.2.1 (ev_dec_at hM hi) h1 h2 ho ht (k p e R s m args below meth c H locs ls C)
theorem ev_tableOut (hM : ev_dec M = true) {x : Int32} {dflt lo hi' : Int} {offs : Array Int} {tgt : Nat} (hi : ev_ins M pc = some (.tableswitch dflt lo hi' offs, a, b)) (h1 : x.toInt < lo ∨ hi' < x.toInt) (ht : (pc : Int) + dflt = (tgt : Int)) (k : ev_G w M d h0 Q tgt L st h) : ev_G w M d h0 Q pc L (.int x :: st) h := by
  intro p e R s m args below meth c H locs ls C
  exact lv_tableOut C.1.1 C.1.2.1 (ev_dec_at hM hi) h1 ht (k p e R s m args below meth c H locs ls C)
end EvG
end
section
/-! the rows that read and write the heap, and those that make cells -/
section EvHeap
def ev_Tg : List Cond := lw_tbl.filter ev_gw
theorem ev_has_mem {x : Cond} (hx : ev_has x = true) : x ∈ ev_Tg := List.mem_filter.mpr (ev_has_in hx)
def ev_tys (w : ev_W) : List (ClassId × FieldType) := [(w.2.2.2.2.1 0, .int), (w.2.2.2.2.1 1, .char), (w.2.2.2.2.1 2, .long), (w.2.2.2.2.1 3, .object ev_Let)]
/-- what is known of the world: the tables' words, the classes, no traces, the script -/
def ev_ok (w : ev_W) : Prop := (∀ x ∈ lw_tbl, x.before w.2.2.1 w.2.1 = true) ∧ va_K w.2.2.2.1 ev_cl (ev_tys w) w.2.1 ∧ w.1.stackTraces = false ∧
  va_X w.2.2.2.2.2.1 w.2.2.2.2.2.2.2.2.1 w.2.2.2.2.2.2.2.2.2 w.2.1 w.2.1.heap ∧ w.2.2.2.2.2.1 < w.2.1.heap.size
theorem ev_word {w : ev_W} (ok : ev_ok w) {s : State} (hW : w.2.1.WarmedH s.vm) {x : Cond} (hx : ev_has x = true) (args : Array Value) : x.before args s = true :=
  ev_gw_at hW (ev_has_in hx).2 (ok.1 x (ev_has_in hx).1)
theorem ev_hts {w : ev_W} (ok : ev_ok w) {s : State} (hW : w.2.1.WarmedH s.vm) {args : Array Value} : ∀ x ∈ ev_Tg, x.before args s = true := fun x hx =>
  ev_gw_at hW (List.mem_filter.mp hx).2 (ok.1 x (List.mem_filter.mp hx).1)
def ev_fty (q : vw_C) (k : Nat) : FieldType := (parseFieldDescriptor (q.2.1 k).2.2.1).getD .int
def ev_clq (q : vw_C) : Bool := (u_ws q.1 q.2.1 q.2.2).all ev_has && (List.range q.2.2).all (fun k => decide (parseFieldDescriptor (q.2.1 k).2.2.1 = some (ev_fty q k))) &&
  (List.range q.2.2).all (fun a => (List.range q.2.2).all (fun b => decide (a = b) || decide ((q.2.1 a).2.1 ≠ (q.2.1 b).2.1)))
theorem ev_clq_in {q : vw_C} (h : ev_clq q = true) : ∀ x ∈ u_ws q.1 q.2.1 q.2.2, x ∈ ev_Tg := by
  simp only [ev_clq, Bool.and_eq_true] at h
  exact fun x hx => ev_has_mem (List.all_eq_true.mp h.1.1 x hx)
theorem ev_clq_ty {q : vw_C} (h : ev_clq q = true) : ∀ k, k < q.2.2 → parseFieldDescriptor (q.2.1 k).2.2.1 = some (ev_fty q k) := by
  simp only [ev_clq, Bool.and_eq_true] at h
  exact fun k hk => of_decide_eq_true (List.all_eq_true.mp h.1.2 k (List.mem_range.mpr hk))
theorem ev_clq_nm {q : vw_C} (h : ev_clq q = true) : ∀ a, a < q.2.2 → ∀ b, b < q.2.2 → a ≠ b → (q.2.1 a).2.1 ≠ (q.2.1 b).2.1 := by
  simp only [ev_clq, Bool.and_eq_true] at h
  intro a ha b hb hne
  have h1 := List.all_eq_true.mp (List.all_eq_true.mp h.2 a (List.mem_range.mpr ha)) b (List.mem_range.mpr hb)
  simp only [Bool.or_eq_true, decide_eq_true_eq] at h1
  exact h1.resolve_left hne
theorem ev_cl_all : ev_cl.all ev_clq = true := by decide +kernel
end EvHeap
end
section
section EvHeap2
theorem ev_cl_q {ci : Nat} {q : vw_C} (hc : ev_cl[ci]? = some q) : ev_clq q = true := List.all_eq_true.mp ev_cl_all q (List.mem_of_getElem? hc)
/-- a field's link -/
def ev_lkf (own : String) (idx ci k : Nat) : Bool := match ev_cl[ci]? with
  | none => false
  | some q => decide (k < q.2.2) && (ev_has (.fieldLink own idx (q.2.1 k).1 (q.2.1 k).2.1 (q.2.1 k).2.2.1) || ev_has (.fieldLinkNest own idx (q.2.1 k).1 (q.2.1 k).2.1 (q.2.1 k).2.2.1 ev_host))
theorem ev_lkf_of {own : String} {idx ci k : Nat} (h : ev_lkf own idx ci k = true) : ∃ q : vw_C, ev_cl[ci]? = some q ∧ k < q.2.2 ∧
    (ev_has (.fieldLink own idx (q.2.1 k).1 (q.2.1 k).2.1 (q.2.1 k).2.2.1) = true ∨ ev_has (.fieldLinkNest own idx (q.2.1 k).1 (q.2.1 k).2.1 (q.2.1 k).2.2.1 ev_host) = true) := by
  unfold ev_lkf at h
  cases hc : ev_cl[ci]? with
  | none => rw [hc] at h; cases h
  | some q =>
    rw [hc] at h
    simp only [Bool.and_eq_true, Bool.or_eq_true, decide_eq_true_eq] at h
    exact ⟨q, rfl, h.1, h.2⟩
variable {w : ev_W} {M : ev_M} {d : Nat × Nat} {h0 : ev_H} {Q : ev_R → ev_H → Prop} {pc : Nat} {L : List (Option Value)} {st : List Value} {h : ev_H} {a b : Nat}
theorem ev_fx.warm {p : Program} {s : State} {m : MethodId} {meth : Method} {c : Code} (F : ev_fx w M p s m meth c) : w.2.1.WarmedH s.vm := F.2.2.2.2.2.2.2.2
theorem ev_fx.own {p : Program} {s : State} {m : MethodId} {meth : Method} {c : Code} (F : ev_fx w M p s m meth c) : s.vm.findClass M.1.cls = some m.cls := F.2.2.2.2.2.1
theorem ev_getf (ok : ev_ok w) (hM : ev_dec M = true) {idx ci k x : Nat} {fs : List Value} {v : Value} (hi : ev_ins M pc = some (.getfield idx, ci, k)) (hlk : ev_lkf M.1.cls idx ci k = true) (hcell : h[x]? = some (.inr (ci, fs))) (hv : fs[k]? = some v)
    (kk : ev_G w M d h0 Q (pc + 3) L (v :: st) h) : ev_G w M d h0 Q pc L (.ref x :: st) h := by
  intro p e R s m args below meth c H locs ls C
  obtain ⟨⟨R0, T0, N0⟩, hc, hk, hl⟩ := ev_lkf_of hlk
  have hW := C.1.warm
  have hv' : (fs.map (ev_v w))[k]? = some (ev_v w v) := by rw [List.getElem?_map, hv]; rfl
  rcases hl with hl | hl
  · exact va_get C.1.1 C.1.2.1 (ev_hts ok hW) (ev_clq_in (ev_cl_q hc)) C.1.own (va_K.moved hW.alike ok.2.1) C.2.2.2.1 x (ev_ws_get hcell) hc k hk (ev_word ok hW hl args) (fun _ z => z) hv' (ev_dec_at hM hi) (kk p e R s m args below meth c H locs ls C)
  · exact va_getN C.1.1 C.1.2.1 (ev_hts ok hW) (ev_clq_in (ev_cl_q hc)) C.1.own (va_K.moved hW.alike ok.2.1) C.2.2.2.1 x (ev_ws_get hcell) hc k hk (ev_word ok hW hl args) (fun _ z => z) hv' (ev_dec_at hM hi) (kk p e R s m args below meth c H locs ls C)
/-- behind a store: the same heap but for one cell -/
theorem ev_G_set {x : Nat} {y y' : ev_E} (kk : ev_G w M d h0 Q pc L st (h.set x y')) (hx : h[x]? = some y) (hc : ev_c1 y' = ev_c1 y) {p : Program} {e : Env} {R : Room} {s : State} {m : MethodId} {args : Array Value} {below : List Frame} {meth : Method} {c : Code} {H H1 : Heap} {locs locs1 : List Loc} {ls : Array Slot}
    (C : ev_cx w M d h0 p R s m meth c h H locs L ls) (hP1 : va_P w.2.2.2.1 ev_cl ((ev_ws w h).set x (ev_base w + x, ev_e w y')) H1) (hS1 : va_S (ev_A w) s.heap H1 locs1) :
    W p w.1 e R s m args below meth c H1 locs1 (h.length - h0.length) (ev_cost h - ev_cost h0) (ev_PQ w h0 Q below s) (F0 m pc ls (st.map (ev_v w))) := by
  obtain ⟨c1, c2, c3, c4, c5, c6, c7, c8, c9, c10⟩ := C
  have h1 := kk p e R s m args below meth c H1 locs1 ls ⟨c1, c2, c3, by rw [ev_ws_set]; exact hP1, hS1, c6, by rw [List.length_set]; exact c7, by rw [ev_cost_set hx hc]; exact c8, by rw [List.length_set]; exact c9, by rw [ev_cost_set hx hc]; exact c10⟩
  rw [List.length_set, ev_cost_set hx hc] at h1
  exact h1
/-- what a field of a type takes -/
def ev_fitv (ty : FieldType) (v : Value) : Bool := match ty, v with
  | .int, .int _ => true
  | .boolean, .int x => decide (x = 0) || decide (x = 1)
  | .object _, .ref _ => true
  | .array _, .ref _ => true
  | _, _ => false
theorem ev_fitv_of {ty : FieldType} {v : Value} (hf : ev_fitv ty v = true) : narrow ty (ev_v w v) = ev_v w v ∧ fits ty (ev_v w v) = true := by
  cases ty <;> cases v <;> first | (exact ⟨rfl, rfl⟩) | (simp [ev_fitv] at hf; done) | skip
  all_goals
    simp only [ev_fitv, Bool.or_eq_true, decide_eq_true_eq] at hf
    rcases hf with rfl | rfl <;> exact ⟨rfl, rfl⟩
theorem ev_putf (ok : ev_ok w) (hM : ev_dec M = true) {idx ci k x : Nat} {q : vw_C} {fs : List Value} {v : Value} (hi : ev_ins M pc = some (.putfield idx, ci, k)) (hlk : ev_lkf M.1.cls idx ci k = true) (hq : ev_cl[ci]? = some q)
    (hfin : (q.2.1 k).2.2.2 = false ∨ ((q.2.1 k).2.2.2 = true ∧ M.1.name = "<init>" ∧ (q.2.1 k).1 = M.1.cls ∧ ev_has (.fieldLink M.1.cls idx (q.2.1 k).1 (q.2.1 k).2.1 (q.2.1 k).2.2.1) = true)) (hfit : ev_fitv (ev_fty q k) v = true) (hcell : h[x]? = some (.inr (ci, fs))) (hkl : k < fs.length)
    (kk : ev_G w M d h0 Q (pc + 3) L st (h.set x (.inr (ci, fs.set k v)))) : ev_G w M d h0 Q pc L (v :: .ref x :: st) h := by
  intro p e R s m args below meth c H locs ls C
  obtain ⟨q', hc, hk, hl⟩ := ev_lkf_of hlk
  cases hq.symm.trans hc
  have hW := C.1.warm
  have hcq := ev_cl_q hq
  obtain ⟨hnar, hfits⟩ := ev_fitv_of (w := w) hfit
  have hkl' : k < (fs.map (ev_v w)).length := by rw [List.length_map]; exact hkl
  have key : ∀ (H1 : Heap) (locs1 : List Loc), va_P w.2.2.2.1 ev_cl ((ev_ws w h).set x (ev_base w + x, .inr (ci, (fs.map (ev_v w)).set k (ev_v w v)))) H1 → va_D (ev_A w) ((ev_ws w h).set x (ev_base w + x, .inr (ci, (fs.map (ev_v w)).set k (ev_v w v)))) → va_S (ev_A w) s.heap H1 locs1 →
      W p w.1 e R s m args below meth c H1 locs1 (h.length - h0.length) (ev_cost h - ev_cost h0) (ev_PQ w h0 Q below s) (F0 m (pc + 3) ls (st.map (ev_v w))) := by
    intro H1 locs1 hP1 _ hS1
    refine ev_G_set kk hcell rfl C ?_ hS1
    show va_P w.2.2.2.1 ev_cl ((ev_ws w h).set x (ev_base w + x, .inr (ci, (fs.set k v).map (ev_v w)))) H1
    rw [List.map_set]
    exact hP1
  obtain ⟨R0, T0, N0⟩ := q
  rcases hfin with hfin | ⟨hfin, hnm, hdecl, hl⟩
  · rcases hl with hl | hl
    · exact va_put C.1.1 C.1.2.1 (ev_hts ok hW) (ev_clq_in hcq) (ev_fty (R0, T0, N0)) (ev_clq_ty hcq) (ev_clq_nm hcq) C.1.own (va_K.moved hW.alike ok.2.1) C.2.2.2.1 (ev_ws_D w h) C.2.2.2.2.1 x (ev_ws_get hcell) hq k hk (ev_word ok hW hl args) (fun _ z => z) hfin (ev_clq_ty hcq k hk) hnar hfits hkl' (ev_dec_at hM hi) key
    · exact va_putN C.1.1 C.1.2.1 (ev_hts ok hW) (ev_clq_in hcq) (ev_fty (R0, T0, N0)) (ev_clq_ty hcq) (ev_clq_nm hcq) C.1.own (va_K.moved hW.alike ok.2.1) C.2.2.2.1 (ev_ws_D w h) C.2.2.2.2.1 x (ev_ws_get hcell) hq k hk (ev_word ok hW hl args) (fun _ z => z) hfin (ev_clq_ty hcq k hk) hnar hfits hkl' (ev_dec_at hM hi) key
  · exact va_putF C.1.1 C.1.2.1 (ev_hts ok hW) (ev_clq_in hcq) (ev_fty (R0, T0, N0)) (ev_clq_ty hcq) (ev_clq_nm hcq) C.1.own (va_K.moved hW.alike ok.2.1) C.2.2.2.1 (ev_ws_D w h) C.2.2.2.2.1 x (ev_ws_get hcell) hq k hk (ev_word ok hW hl args) (fun _ z => z) hfin (C.1.2.2.2.2.2.2.1.trans hnm) hdecl (ev_clq_ty hcq k hk) hnar hfits hkl' (ev_dec_at hM hi) key
theorem ev_iald (ok : ev_ok w) (hM : ev_dec M = true) {x n : Nat} {f : Nat → Int32} {i : Int32} (hi : ev_ins M pc = some (.iaload, a, b)) (hcell : h[x]? = some (.inl (0, n, .inl f))) (hin : vp_in i n) (kk : ev_G w M d h0 Q (pc + 1) L (.int (f i.toNatClampNeg) :: st) h) : ev_G w M d h0 Q pc L (.int i :: .ref x :: st) h := by
  intro p e R s m args below meth c H locs ls C
  exact va_iald C.1.1 C.1.2.1 (va_K.moved C.1.warm.alike ok.2.1) C.2.2.2.1 x 0 (ev_ws_get hcell) rfl hin (ev_dec_at hM hi) (kk p e R s m args below meth c H locs ls C)
theorem ev_cald (ok : ev_ok w) (hM : ev_dec M = true) {x n : Nat} {f : Nat → Int32} {i : Int32} (hi : ev_ins M pc = some (.caload, a, b)) (hcell : h[x]? = some (.inl (1, n, .inl f))) (hin : vp_in i n) (kk : ev_G w M d h0 Q (pc + 1) L (.int (f i.toNatClampNeg) :: st) h) : ev_G w M d h0 Q pc L (.int i :: .ref x :: st) h := by
  intro p e R s m args below meth c H locs ls C
  exact va_cald C.1.1 C.1.2.1 (va_K.moved C.1.warm.alike ok.2.1) C.2.2.2.1 x 1 (ev_ws_get hcell) rfl hin (ev_dec_at hM hi) (kk p e R s m args below meth c H locs ls C)
theorem ev_lald (ok : ev_ok w) (hM : ev_dec M = true) {x n : Nat} {f : Nat → Int64} {i : Int32} (hi : ev_ins M pc = some (.laload, a, b)) (hcell : h[x]? = some (.inl (2, n, .inr (.inl f)))) (hin : vp_in i n) (kk : ev_G w M d h0 Q (pc + 1) L (.long (f i.toNatClampNeg) :: st) h) : ev_G w M d h0 Q pc L (.int i :: .ref x :: st) h := by
  intro p e R s m args below meth c H locs ls C
  exact va_lald C.1.1 C.1.2.1 (va_K.moved C.1.warm.alike ok.2.1) C.2.2.2.1 x 2 (ev_ws_get hcell) rfl hin (ev_dec_at hM hi) (kk p e R s m args below meth c H locs ls C)
theorem ev_iast (ok : ev_ok w) (hM : ev_dec M = true) {x n : Nat} {f : Nat → Int32} {i : Int32} {v : Int32} (hi : ev_ins M pc = some (.iastore, a, b)) (hcell : h[x]? = some (.inl (0, n, .inl f))) (hin : vp_in i n) (kk : ev_G w M d h0 Q (pc + 1) L st (h.set x (.inl (0, n, .inl (upd f i.toNatClampNeg v))))) : ev_G w M d h0 Q pc L (.int v :: .int i :: .ref x :: st) h := by
  intro p e R s m args below meth c H locs ls C
  exact va_iast C.1.1 C.1.2.1 (va_K.moved C.1.warm.alike ok.2.1) C.2.2.2.1 (ev_ws_D w h) C.2.2.2.2.1 x 0 (ev_ws_get hcell) rfl hin (ev_dec_at hM hi) (fun H1 locs1 hP1 _ hS1 => ev_G_set kk hcell rfl C hP1 hS1)
theorem ev_cast (ok : ev_ok w) (hM : ev_dec M = true) {x n : Nat} {f : Nat → Int32} {i : Int32} {v : Int32} (hi : ev_ins M pc = some (.castore, a, b)) (hcell : h[x]? = some (.inl (1, n, .inl f))) (hin : vp_in i n) (kk : ev_G w M d h0 Q (pc + 1) L st (h.set x (.inl (1, n, .inl (upd f i.toNatClampNeg (vp_nar .char v)))))) : ev_G w M d h0 Q pc L (.int v :: .int i :: .ref x :: st) h := by
  intro p e R s m args below meth c H locs ls C
  exact va_cast C.1.1 C.1.2.1 (va_K.moved C.1.warm.alike ok.2.1) C.2.2.2.1 (ev_ws_D w h) C.2.2.2.2.1 x 1 (ev_ws_get hcell) rfl hin (ev_dec_at hM hi) (fun H1 locs1 hP1 _ hS1 => ev_G_set kk hcell rfl C hP1 hS1)
theorem ev_last (ok : ev_ok w) (hM : ev_dec M = true) {x n : Nat} {f : Nat → Int64} {i : Int32} {v : Int64} (hi : ev_ins M pc = some (.lastore, a, b)) (hcell : h[x]? = some (.inl (2, n, .inr (.inl f)))) (hin : vp_in i n) (kk : ev_G w M d h0 Q (pc + 1) L st (h.set x (.inl (2, n, .inr (.inl (vp_updL f i.toNatClampNeg v)))))) : ev_G w M d h0 Q pc L (.long v :: .int i :: .ref x :: st) h := by
  intro p e R s m args below meth c H locs ls C
  exact va_last C.1.1 C.1.2.1 (va_K.moved C.1.warm.alike ok.2.1) C.2.2.2.1 (ev_ws_D w h) C.2.2.2.2.1 x 2 (ev_ws_get hcell) rfl hin (ev_dec_at hM hi) (fun H1 locs1 hP1 _ hS1 => ev_G_set kk hcell rfl C hP1 hS1)
theorem ev_v_rf (r : Option Nat) : ev_v w (va_rf r) = va_rf (r.map (fun k => ev_base w + k)) := by cases r <;> rfl
theorem ev_aald (ok : ev_ok w) (hM : ev_dec M = true) {x n : Nat} {f : Nat → Option Nat} {i : Int32} (hi : ev_ins M pc = some (.aaload, a, b)) (hcell : h[x]? = some (.inl (3, n, .inr (.inr (.inr (.inr f)))))) (hin : vp_in i n) (kk : ev_G w M d h0 Q (pc + 1) L (va_rf (f i.toNatClampNeg) :: st) h) : ev_G w M d h0 Q pc L (.int i :: .ref x :: st) h := by
  intro p e R s m args below meth c H locs ls C
  refine va_aldq C.1.1 C.1.2.1 (va_K.moved C.1.warm.alike ok.2.1) C.2.2.2.1 x 3 (ev_ws_get hcell) rfl hin (ev_dec_at hM hi) ?_
  have h1 := kk p e R s m args below meth c H locs ls C
  rw [List.map_cons, ev_v_rf] at h1
  exact h1
theorem ev_aast (ok : ev_ok w) (hM : ev_dec M = true) {x n y ci : Nat} {q : vw_C} {fs : List Value} {f : Nat → Option Nat} {i : Int32} (hi : ev_ins M pc = some (.aastore, a, b)) (hcell : h[x]? = some (.inl (3, n, .inr (.inr (.inr (.inr f)))))) (hy : h[y]? = some (.inr (ci, fs))) (hq : ev_cl[ci]? = some q) (hqn : q.1 = ev_Let) (hin : vp_in i n)
    (kk : ev_G w M d h0 Q (pc + 1) L st (h.set x (.inl (3, n, .inr (.inr (.inr (.inr (va_up f i.toNatClampNeg (some y))))))))) : ev_G w M d h0 Q pc L (.ref y :: .int i :: .ref x :: st) h := by
  intro p e R s m args below meth c H locs ls C
  refine va_astq (r := q) C.1.1 C.1.2.1 (va_K.moved C.1.warm.alike ok.2.1) C.2.2.2.1 (ev_ws_D w h) C.2.2.2.2.1 x 3 y ci (ev_ws_get hcell) (by rw [hqn]; rfl) (ev_ws_get hy) hq hin (ev_dec_at hM hi) (fun H1 locs1 hP1 _ hS1 => ?_)
  refine ev_G_set kk hcell rfl C ?_ hS1
  have e1 : (fun j => (va_up f i.toNatClampNeg (some y) j).map (fun k => ev_base w + k)) = va_up (fun j => (f j).map (fun k => ev_base w + k)) i.toNatClampNeg (some (ev_base w + y)) := by
    funext j
    unfold va_up
    split <;> rfl
  show va_P w.2.2.2.1 ev_cl ((ev_ws w h).set x (ev_base w + x, .inl (w.2.2.2.2.1 3, n, .inr (.inr (.inr (.inr (fun j => (va_up f i.toNatClampNeg (some y) j).map (fun k => ev_base w + k)))))))) H1
  rw [e1]
  exact hP1
theorem ev_alen (ok : ev_ok w) (hM : ev_dec M = true) {x t : Nat} {z : vp_A} (ht : t < 4) (hi : ev_ins M pc = some (.arraylength, a, b)) (hcell : h[x]? = some (.inl (t, z))) (kk : ev_G w M d h0 Q (pc + 1) L (.int (Int32.ofNat z.1) :: st) h) : ev_G w M d h0 Q pc L (.ref x :: st) h := by
  intro p e R s m args below meth c H locs ls C
  have hK := va_K.moved C.1.warm.alike ok.2.1
  match t, ht, hcell with
  | 0, _, hcell => exact va_alen C.1.1 C.1.2.1 hK C.2.2.2.1 x 0 (ev_ws_get hcell) rfl rfl (ev_dec_at hM hi) (kk p e R s m args below meth c H locs ls C)
  | 1, _, hcell => exact va_alen C.1.1 C.1.2.1 hK C.2.2.2.1 x 1 (ev_ws_get hcell) rfl rfl (ev_dec_at hM hi) (kk p e R s m args below meth c H locs ls C)
  | 2, _, hcell => exact va_alen C.1.1 C.1.2.1 hK C.2.2.2.1 x 2 (ev_ws_get hcell) rfl rfl (ev_dec_at hM hi) (kk p e R s m args below meth c H locs ls C)
  | 3, _, hcell => exact va_alen C.1.1 C.1.2.1 hK C.2.2.2.1 x 3 (ev_ws_get hcell) rfl rfl (ev_dec_at hM hi) (kk p e R s m args below meth c H locs ls C)
theorem ev_scr (ok : ev_ok w) {p : Program} {R : Room} {s : State} {m : MethodId} {meth : Method} {c : Code} {H : Heap} {locs : List Loc} {ls : Array Slot} (C : ev_cx w M d h0 p R s m meth c h H locs L ls) :
    va_X w.2.2.2.2.2.1 w.2.2.2.2.2.2.2.2.1 w.2.2.2.2.2.2.2.2.2 s s.heap ∧ w.2.2.2.2.2.1 < s.heap.size ∧ ¬ ev_A w w.2.2.2.2.2.1 := by
  have h1 := C.2.1.2.1
  have hb : w.2.2.2.2.2.1 < ev_base w := ok.2.2.2.2
  exact ⟨(ok.2.2.2.1.moved C.1.warm.alike).kept (C.2.1.2.2 _ hb), by omega, by unfold ev_A; omega⟩
theorem ev_sld (ok : ev_ok w) (hM : ev_dec M = true) {x : Nat} {i : Int32} (hi : ev_ins M pc = some (.iaload, a, b)) (hin : vp_in i w.2.2.2.2.2.2.2.2.1) (kk : ev_G w M d h0 Q (pc + 1) L (.int (w.2.2.2.2.2.2.2.2.2 i.toNatClampNeg) :: st) h) : ev_G w M d h0 Q pc L (.int i :: .retAddr x :: st) h := by
  intro p e R s m args below meth c H locs ls C
  obtain ⟨h1, h2, h3⟩ := ev_scr ok C
  exact va_sld C.1.1 C.1.2.1 h1 h2 h3 C.2.2.2.2.1 hin (ev_dec_at hM hi) (kk p e R s m args below meth c H locs ls C)
theorem ev_slen (ok : ev_ok w) (hM : ev_dec M = true) {x : Nat} (hi : ev_ins M pc = some (.arraylength, a, b)) (kk : ev_G w M d h0 Q (pc + 1) L (.int (Int32.ofNat w.2.2.2.2.2.2.2.2.1) :: st) h) : ev_G w M d h0 Q pc L (.retAddr x :: st) h := by
  intro p e R s m args below meth c H locs ls C
  obtain ⟨h1, h2, h3⟩ := ev_scr ok C
  exact va_slen C.1.1 C.1.2.1 h1 h2 h3 C.2.2.2.2.1 (ev_dec_at hM hi) (kk p e R s m args below meth c H locs ls C)
/-- behind a new cell: it lies just behind the others -/
theorem ev_G_app {y : ev_E} (hcap1 : h.length + 1 ≤ w.2.2.2.2.2.2.1) (hcap2 : ev_cost h + ev_c1 y ≤ w.2.2.2.2.2.2.2.1) (kk : ev_G w M d h0 Q pc L (.ref h.length :: st) (h ++ [y])) {p : Program} {e : Env} {R : Room} {s : State} {m : MethodId} {args : Array Value} {below : List Frame} {meth : Method} {c : Code} {H H1 : Heap} {locs : List Loc} {ls : Array Slot} {x n : Nat} (hn : n = ev_c1 y)
    (C : ev_cx w M d h0 p R s m meth c h H locs L ls) (hP1 : va_P w.2.2.2.1 ev_cl (ev_ws w h ++ [(x, ev_e w y)]) H1) (hD1 : va_D (ev_A w) (ev_ws w h ++ [(x, ev_e w y)])) (hS1 : va_S (ev_A w) s.heap H1 locs) :
    W p w.1 e R s m args below meth c H1 locs (h.length - h0.length + 1) (ev_cost h - ev_cost h0 + n) (ev_PQ w h0 Q below s) (F0 m pc ls (.ref x :: st.map (ev_v w))) := by
  obtain ⟨c1, c2, c3, c4, c5, c6, c7, c8, c9, c10⟩ := C
  subst hn
  intro T hT X
  have hz := X.heapSize
  have hs := c2.2.1
  have hlast : (ev_ws w h ++ [(x, ev_e w y)])[h.length]? = some (x, ev_e w y) := by
    rw [List.getElem?_append_right (by rw [ev_ws_len]; exact Nat.le_refl _), ev_ws_len, Nat.sub_self]; rfl
  have hlt : x < H1.size := (hP1 h.length _ hlast).lt
  have hge : ev_base w ≤ x := hD1.2 h.length _ hlast
  have hne : ∀ j, j < h.length → x ≠ ev_base w + j := by
    intro j hj hxj
    obtain ⟨z, hz'⟩ : ∃ z, h[j]? = some z := ⟨_, List.getElem?_eq_getElem hj⟩
    have h2 : (ev_ws w h ++ [(x, ev_e w y)])[j]? = some (ev_base w + j, ev_e w z) := by
      rw [List.getElem?_append_left (by rw [ev_ws_len]; exact hj)]; exact ev_ws_get hz'
    have h3 := hD1.1 h.length j _ _ hlast h2 hxj
    omega
  have hx : x = ev_base w + h.length := by
    rw [hT] at hz
    rcases Nat.lt_or_ge (x - ev_base w) h.length with hl | hl
    · exact absurd (by omega) (hne (x - ev_base w) hl)
    · omega
  subst hx
  have h1 := kk p e R s m args below meth c H1 locs ls ⟨c1, c2, c3, by rw [ev_ws_app]; exact hP1, hS1, c6, by rw [List.length_append]; exact Nat.le_trans c7 (Nat.le_add_right _ _), by rw [ev_cost_app]; exact Nat.le_trans c8 (Nat.le_add_right _ _), by rw [List.length_append]; exact hcap1, by rw [ev_cost_app]; exact hcap2⟩
  have e1 : (h ++ [y]).length - h0.length = h.length - h0.length + 1 := by rw [List.length_append, List.length_singleton]; omega
  have e2 : ev_cost (h ++ [y]) - ev_cost h0 = ev_cost h - ev_cost h0 + ev_c1 y := by rw [ev_cost_app]; omega
  rw [e1, e2] at h1
  exact h1 T hT X
theorem ev_cx.room {p : Program} {R : Room} {s : State} {m : MethodId} {meth : Method} {c : Code} {H : Heap} {locs : List Loc} {ls : Array Slot} (C : ev_cx w M d h0 p R s m meth c h H locs L ls) {n : Nat} (h1 : h.length + 1 ≤ w.2.2.2.2.2.2.1) (h2 : ev_cost h + n ≤ w.2.2.2.2.2.2.2.1) :
    h.length - h0.length + 1 ≤ R.cells ∧ ev_cost h - ev_cost h0 + n ≤ R.slots := by
  obtain ⟨-, -, ⟨-, -, f3, f4⟩, -, -, -, c7, c8, -, -⟩ := C
  omega
theorem ev_cx.A {p : Program} {R : Room} {s : State} {m : MethodId} {meth : Method} {c : Code} {H : Heap} {locs : List Loc} {ls : Array Slot} (C : ev_cx w M d h0 p R s m meth c h H locs L ls) : ∀ q, s.heap.size ≤ q → ev_A w q := by
  intro q hq
  have h1 := C.2.1.2.1
  show ev_base w ≤ q
  omega
def ev_dft (q : vw_C) : List Value := (List.range q.2.2).map (fun j => defaultValue (ev_fty q j))
theorem ev_v_dft (ty : FieldType) : ev_v w (defaultValue ty) = defaultValue ty := by cases ty <;> rfl
theorem ev_dft_map (q : vw_C) : (ev_dft q).map (ev_v w) = ev_dft q := by
  simp [ev_dft, ev_v_dft]
theorem ev_dft_V (q : vw_C) : ∀ j, j < q.2.2 → defaultValue (ev_fty q j) = vp_V (ev_dft q) j := by
  intro j hj
  simp [vp_V, ev_dft, hj]
theorem ev_new (ok : ev_ok w) (hM : ev_dec M = true) {idx ci : Nat} {q : vw_C} (hi : ev_ins M pc = some (.new idx, ci, b)) (hq : ev_cl[ci]? = some q) (hn : q.2.2 = ev_sz ci) (hl : ev_has (.classLink M.1.cls idx q.1) = true) (hin : ev_has (.instantiable q.1 q.2.2) = true) (hii : ev_has (.initialized q.1) = true)
    (h1 : h.length + 1 ≤ w.2.2.2.2.2.2.1) (h2 : ev_cost h + q.2.2 ≤ w.2.2.2.2.2.2.2.1) (kk : ev_G w M d h0 Q (pc + 3) L (.ref h.length :: st) (h ++ [.inr (ci, ev_dft q)])) : ev_G w M d h0 Q pc L st h := by
  intro p e R s m args below meth c H locs ls C
  have hW := C.1.warm
  have hcq := ev_cl_q hq
  obtain ⟨r1, r2⟩ := C.room h1 h2
  have hA := C.A
  obtain ⟨R0, T0, N0⟩ := q
  refine va_new (fs := ev_dft (R0, T0, N0)) C.1.1 C.1.2.1 (ev_hts ok hW) (ev_clq_in hcq) (ev_fty (R0, T0, N0)) (ev_clq_ty hcq) C.1.own (ev_word ok hW hl args) (ev_word ok hW hin args) (ev_word ok hW hii args) (va_K.moved hW.alike ok.2.1) C.2.2.2.1 (ev_ws_D w h) C.2.2.2.2.1 hA hq (ev_dft_V (R0, T0, N0)) r1 r2 (ev_dec_at hM hi) (fun x H1 hP1 hD1 hS1 => ?_)
  have e1 : ev_e w (.inr (ci, ev_dft (R0, T0, N0))) = .inr (ci, ev_dft (R0, T0, N0)) := by
    show Sum.inr (ci, (ev_dft (R0, T0, N0)).map (ev_v w)) = _
    rw [ev_dft_map]
  exact ev_G_app h1 (by show ev_cost h + ev_sz ci ≤ _; rw [← hn]; exact h2) kk (y := .inr (ci, ev_dft (R0, T0, N0))) hn C (by rw [e1]; exact hP1) (by rw [e1]; exact hD1) hS1
theorem ev_RA_eq {U : State} {cA cB : ClassId} {ty : FieldType} (h1 : va_RA U cA ty) (h2 : va_RA U cB ty) : cA = cB := by
  cases ty with
  | object C =>
    obtain ⟨_, _, _, _, _, q1⟩ := h1
    obtain ⟨_, _, _, _, _, q2⟩ := h2
    exact Option.some.inj (q1.symm.trans q2)
  | _ => exact Option.some.inj (Eq.trans (Eq.symm h1) h2)
theorem ev_tyN {U : State} {D : va_G} {tys : List (ClassId × FieldType)} {cA cB : ClassId} {ty : FieldType} {t : Nat} (hK : va_K D ev_cl (tys ++ [(cA, ty)]) U) (ht : tys[t]? = some (cB, ty)) : cA = cB := by
  have h1 := (hK.2 tys.length (cA, ty) (by rw [List.getElem?_append_right (Nat.le_refl _), Nat.sub_self]; rfl)).2
  have h2 := (hK.2 t (cB, ty) (by rw [List.getElem?_append_left (List.getElem?_eq_some_iff.mp ht).1]; exact ht)).2
  exact ev_RA_eq h1 h2
theorem ev_newR (ok : ev_ok w) (hM : ev_dec M = true) {idx : Nat} {n : Int32} (hi : ev_ins M pc = some (.anewarray idx, a, b)) (hl : ev_has (.classLink M.1.cls idx ev_Let) = true) (ho : ev_has (.arrayOver (.object ev_Let)) = true) (hn : ¬ n < 0) (hb : n.toNatClampNeg ≤ 10000) (h1 : h.length + 1 ≤ w.2.2.2.2.2.2.1) (h2 : ev_cost h + n.toNatClampNeg ≤ w.2.2.2.2.2.2.2.1)
    (kk : ev_G w M d h0 Q (pc + 3) L (.ref h.length :: st) (h ++ [.inl (3, n.toNatClampNeg, .inr (.inr (.inr (.inr (fun _ => none)))))])) : ev_G w M d h0 Q pc L (.int n :: st) h := by
  intro p e R s m args below meth c H locs ls C
  have hW := C.1.warm
  obtain ⟨r1, r2⟩ := C.room h1 h2
  refine va_newq C.1.1 C.1.2.1 C.1.own (ev_word ok hW hl args) (ev_word ok hW ho #[]) (va_K.moved hW.alike ok.2.1) C.2.2.2.1 (ev_ws_D w h) C.2.2.2.2.1 C.A hn rfl (by omega) r1 r2 (ev_dec_at hM hi) (fun x cA H1 hK1 hP1 hD1 hS1 => ?_)
  obtain rfl : cA = w.2.2.2.2.1 3 := ev_tyN (t := 3) hK1 rfl
  exact ev_G_app h1 h2 kk (y := .inl (3, n.toNatClampNeg, .inr (.inr (.inr (.inr (fun _ => none)))))) rfl C hP1 hD1 hS1
end EvHeap2
end
section
section EvNew
variable {w : ev_W} {M : ev_M} {d : Nat × Nat} {h0 : ev_H} {Q : ev_R → ev_H → Prop} {pc : Nat} {L : List (Option Value)} {st : List Value} {h : ev_H} {a b : Nat}
theorem ev_a0I (N : Nat) : ∀ cA : ClassId, vp_cell cA (N, .inl (fun _ => 0)) = arrV cA N (fun _ => defaultValue .int) := fun cA => by rw [vp_cell_i]; rfl
theorem ev_a0C (N : Nat) : ∀ cA : ClassId, vp_cell cA (N, .inl (fun _ => 0)) = arrV cA N (fun _ => defaultValue .char) := fun cA => by rw [vp_cell_i]; rfl
theorem ev_a0L (N : Nat) : ∀ cA : ClassId, vp_cell cA (N, .inr (.inl (fun _ => 0))) = arrV cA N (fun _ => defaultValue .long) := fun cA => by rw [vp_cell_l]; rfl
theorem ev_newI (ok : ev_ok w) (hM : ev_dec M = true) {n : Int32} (hi : ev_ins M pc = some (.newarray .int, a, b)) (hl : ev_has (.arrayClass .int) = true) (hn : ¬ n < 0) (hb : n.toNatClampNeg ≤ 10000) (h1 : h.length + 1 ≤ w.2.2.2.2.2.2.1) (h2 : ev_cost h + n.toNatClampNeg ≤ w.2.2.2.2.2.2.2.1)
    (kk : ev_G w M d h0 Q (pc + 2) L (.ref h.length :: st) (h ++ [.inl (0, n.toNatClampNeg, .inl (fun _ => 0))])) : ev_G w M d h0 Q pc L (.int n :: st) h := by
  intro p e R s m args below meth c H locs ls C
  have hW := C.1.warm
  obtain ⟨r1, r2⟩ := C.room h1 h2
  have e4 : componentBytes FieldType.int = 4 := rfl
  have hb4 : n.toNatClampNeg * componentBytes FieldType.int ≤ 536870912 := by rw [e4]; omega
  generalize hN : n.toNatClampNeg = N at hb4 r2 h2 kk ⊢
  refine va_newa (atype := .int) (ty := .int) (N' := N) (a0 := (N, .inl (fun _ => 0))) C.1.1 C.1.2.1 (ev_word ok hW hl args) rfl (va_K.moved hW.alike ok.2.1) C.2.2.2.1 (ev_ws_D w h) C.2.2.2.2.1 C.A (ev_a0I N) hn hN hb4 r1 r2 (ev_dec_at hM hi) (fun x cA H1 hK1 hP1 hD1 hS1 => ?_)
  obtain rfl : cA = w.2.2.2.2.1 0 := ev_tyN (t := 0) hK1 rfl
  exact ev_G_app h1 h2 kk (y := .inl (0, N, .inl (fun _ => 0))) rfl C hP1 hD1 hS1
theorem ev_newC (ok : ev_ok w) (hM : ev_dec M = true) {n : Int32} (hi : ev_ins M pc = some (.newarray .char, a, b)) (hl : ev_has (.arrayClass .char) = true) (hn : ¬ n < 0) (hb : n.toNatClampNeg ≤ 10000) (h1 : h.length + 1 ≤ w.2.2.2.2.2.2.1) (h2 : ev_cost h + n.toNatClampNeg ≤ w.2.2.2.2.2.2.2.1)
    (kk : ev_G w M d h0 Q (pc + 2) L (.ref h.length :: st) (h ++ [.inl (1, n.toNatClampNeg, .inl (fun _ => 0))])) : ev_G w M d h0 Q pc L (.int n :: st) h := by
  intro p e R s m args below meth c H locs ls C
  have hW := C.1.warm
  obtain ⟨r1, r2⟩ := C.room h1 h2
  have e4 : componentBytes FieldType.char = 2 := rfl
  have hb4 : n.toNatClampNeg * componentBytes FieldType.char ≤ 536870912 := by rw [e4]; omega
  generalize hN : n.toNatClampNeg = N at hb4 r2 h2 kk ⊢
  refine va_newa (atype := .char) (ty := .char) (N' := N) (a0 := (N, .inl (fun _ => 0))) C.1.1 C.1.2.1 (ev_word ok hW hl args) rfl (va_K.moved hW.alike ok.2.1) C.2.2.2.1 (ev_ws_D w h) C.2.2.2.2.1 C.A (ev_a0C N) hn hN hb4 r1 r2 (ev_dec_at hM hi) (fun x cA H1 hK1 hP1 hD1 hS1 => ?_)
  obtain rfl : cA = w.2.2.2.2.1 1 := ev_tyN (t := 1) hK1 rfl
  exact ev_G_app h1 h2 kk (y := .inl (1, N, .inl (fun _ => 0))) rfl C hP1 hD1 hS1
theorem ev_newL (ok : ev_ok w) (hM : ev_dec M = true) {n : Int32} (hi : ev_ins M pc = some (.newarray .long, a, b)) (hl : ev_has (.arrayClass .long) = true) (hn : ¬ n < 0) (hb : n.toNatClampNeg ≤ 10000) (h1 : h.length + 1 ≤ w.2.2.2.2.2.2.1) (h2 : ev_cost h + n.toNatClampNeg ≤ w.2.2.2.2.2.2.2.1)
    (kk : ev_G w M d h0 Q (pc + 2) L (.ref h.length :: st) (h ++ [.inl (2, n.toNatClampNeg, .inr (.inl (fun _ => 0)))])) : ev_G w M d h0 Q pc L (.int n :: st) h := by
  intro p e R s m args below meth c H locs ls C
  have hW := C.1.warm
  obtain ⟨r1, r2⟩ := C.room h1 h2
  have e4 : componentBytes FieldType.long = 8 := rfl
  have hb4 : n.toNatClampNeg * componentBytes FieldType.long ≤ 536870912 := by rw [e4]; omega
  generalize hN : n.toNatClampNeg = N at hb4 r2 h2 kk ⊢
  refine va_newa (atype := .long) (ty := .long) (N' := N) (a0 := (N, .inr (.inl (fun _ => 0)))) C.1.1 C.1.2.1 (ev_word ok hW hl args) rfl (va_K.moved hW.alike ok.2.1) C.2.2.2.1 (ev_ws_D w h) C.2.2.2.2.1 C.A (ev_a0L N) hn hN hb4 r1 r2 (ev_dec_at hM hi) (fun x cA H1 hK1 hP1 hD1 hS1 => ?_)
  obtain rfl : cA = w.2.2.2.2.1 2 := ev_tyN (t := 2) hK1 rfl
  exact ev_G_app h1 h2 kk (y := .inl (2, N, .inr (.inl (fun _ => 0)))) rfl C hP1 hD1 hS1
end EvNew
end
section
/-! returns and calls: a callee is walked in its caller's room, by its own judgement -/
section EvCall
variable {w : ev_W} {M : ev_M} {d : Nat × Nat} {h0 : ev_H} {Q : ev_R → ev_H → Prop} {pc : Nat} {L : List (Option Value)} {st : List Value} {h : ev_H} {a b : Nat}
theorem ev_weaken {tb : Tables} {e : Env} {mid below : List Frame} {x y : State} (hs : Steps tb e (mid ++ below) x y) : Steps tb e below x y := by
  obtain ⟨n, hn, hw⟩ := hs
  exact ⟨n, hn, fun k hk => (hw k hk).weaken⟩
theorem ev_size {p : Program} {e : Env} {R : Room} {s : State} {m : MethodId} {args : Array Value} {below : List Frame} {meth : Method} {c : Code} {H : Heap} {locs : List Loc} {ls : Array Slot} (C : ev_cx w M d h0 p R s m meth c h H locs L ls) {T : State} {slots : Nat} (hT : T.heap = H)
    (X : Stand p w.1 e R s m args below meth c T locs (h.length - h0.length) slots) : H.size = ev_base w + h.length := by
  have hz := X.heapSize
  have hs := C.2.1.2.1
  have h7 := C.2.2.2.2.2.2.1
  rw [hT] at hz
  have hge : ev_base w + h.length ≤ H.size := by
    rcases Nat.eq_zero_or_pos h.length with hl | hl
    · have h5 := C.2.2.2.2.1.1
      omega
    · have hn : h.length - 1 < h.length := by omega
      have h1 := (C.2.2.2.1 (h.length - 1) _ (ev_ws_get (List.getElem?_eq_getElem hn))).lt
      have h2 : ev_base w + (h.length - 1) < H.size := h1
      omega
  omega
theorem ev_rep_of {p : Program} {R : Room} {s : State} {m : MethodId} {meth : Method} {c : Code} {H : Heap} {locs : List Loc} {ls : Array Slot} (C : ev_cx w M d h0 p R s m meth c h H locs L ls) (hsz : H.size = ev_base w + h.length) {H' : Heap} (ht : H' = H) : ev_rep w h H' := by
  subst ht
  refine ⟨C.2.2.2.1, hsz, fun q hq => ?_⟩
  have hs := C.2.1.2.1
  rw [C.2.2.2.2.1.2.1 q (by omega) (by unfold ev_A; omega)]
  exact C.2.1.2.2 q hq
theorem ev_ireturn (hM : ev_dec M = true) {v : Int32} {ty : FieldType} (hi : ev_ins M pc = some (.ireturn, a, b)) (hr : M.2.2.2.1 = some ty) (hn : narrow ty (.int v) = .int v) (hQ : Q (.inl (some (.int v))) h) : ev_G w M d h0 Q pc L [.int v] h := by
  intro p e R s m args below meth c H locs ls C T hT X
  have hsz := ev_size C hT X
  obtain ⟨t, st1, o, b1, b2, ⟨ho, ht, hW'⟩, L1, hF, hL⟩ := (W.zret (Qc := fun _ s' o t => o = .returned (some (.int v)) ∧ t.heap = H ∧ s'.WarmedH t.vm) (free := ev_A w) C.1.1 C.1.2.1 (C.1.2.2.2.1.trans hr) hn (fun t ht hW => ⟨rfl, ht, hW⟩) C.2.2.2.2.1.2.2 (ev_dec_at hM hi) C.1.2.2.2.2.1) T hT X
  exact ⟨t, st1, o, b1, b2, .inl (some (.int v)), h, hQ, ho, ev_rep_of C hsz ht, C.2.2.2.2.2.2.1, C.2.2.2.2.2.2.2.1, C.2.2.2.2.2.2.2.2.1, C.2.2.2.2.2.2.2.2.2, hW', L1, hF.2.2, hL⟩
theorem ev_return (hM : ev_dec M = true) (hi : ev_ins M pc = some (.return_, a, b)) (hr : M.2.2.2.1 = none) (hQ : Q (.inl none) h) : ev_G w M d h0 Q pc L [] h := by
  intro p e R s m args below meth c H locs ls C T hT X
  have hsz := ev_size C hT X
  obtain ⟨t, st1, o, b1, b2, ⟨ho, ht, hW'⟩, L1, hF, hL⟩ := (W.vret (Qc := fun _ s' o t => o = .returned none ∧ t.heap = H ∧ s'.WarmedH t.vm) (free := ev_A w) C.1.1 C.1.2.1 (C.1.2.2.2.1.trans hr) (fun t ht hW => ⟨rfl, ht, hW⟩) C.2.2.2.2.1.2.2 (ev_dec_at hM hi) C.1.2.2.2.2.1) T hT X
  exact ⟨t, st1, o, b1, b2, .inl none, h, hQ, ho, ev_rep_of C hsz ht, C.2.2.2.2.2.2.1, C.2.2.2.2.2.2.2.1, C.2.2.2.2.2.2.2.2.1, C.2.2.2.2.2.2.2.2.2, hW', L1, hF.2.2, hL⟩
theorem ev_areturn (hM : ev_dec M = true) {x : Nat} {rt : FieldType} (hi : ev_ins M pc = some (.areturn, a, b)) (hr : M.2.2.2.1 = some rt) (hrt : (∃ n, rt = .object n) ∨ ∃ t, rt = .array t) (hQ : Q (.inl (some (.ref x))) h) : ev_G w M d h0 Q pc L [.ref x] h := by
  intro p e R s m args below meth c H locs ls C T hT X
  have hsz := ev_size C hT X
  obtain ⟨t, st1, o, b1, b2, ⟨ho, ht, hW'⟩, L1, hF, hL⟩ := (W.aret (v := .ref (ev_base w + x)) (Qc := fun _ s' o t => o = .returned (some (.ref (ev_base w + x))) ∧ t.heap = H ∧ s'.WarmedH t.vm) (free := ev_A w) C.1.1 C.1.2.1 (C.1.2.2.2.1.trans hr) hrt (Or.inr ⟨_, rfl⟩) (fun t ht hW => ⟨rfl, ht, hW⟩) C.2.2.2.2.1.2.2 (ev_dec_at hM hi) C.1.2.2.2.2.1) T hT X
  exact ⟨t, st1, o, b1, b2, .inl (some (.ref x)), h, hQ, ho, ev_rep_of C hsz ht, C.2.2.2.2.2.2.1, C.2.2.2.2.2.2.2.1, C.2.2.2.2.2.2.2.2.1, C.2.2.2.2.2.2.2.2.2, hW', L1, hF.2.2, hL⟩
/-- the locals at an entry -/
def ev_L0 (n : Nat) (vs : List Value) : List (Option Value) := vs.map some ++ List.replicate (n - vs.length) none
theorem ev_args_mem : ∀ (vs : List Value) (i : Nat), (∀ v ∈ vs, v.category = 1) → ∀ (j : Nat) (v : Value), vs[j]? = some v → (i + j, v) ∈ lv_args i vs
  | [], _, _, j, v, hj => by simp at hj
  | u :: vs, i, hc, 0, v, hj => by
    simp only [List.getElem?_cons_zero, Option.some.injEq] at hj
    subst hj
    exact List.mem_cons_self
  | u :: vs, i, hc, j + 1, v, hj => by
    simp only [List.getElem?_cons_succ] at hj
    have h1 : ¬ u.category = 2 := by rw [hc u List.mem_cons_self]; decide
    have h2 := ev_args_mem vs (i + 1) (fun v hv => hc v (List.mem_cons_of_mem _ hv)) j v hj
    show (i + (j + 1), v) ∈ (i, u) :: lv_args (if u.category = 2 then i + 2 else i + 1) vs
    rw [if_neg h1]
    have e1 : i + (j + 1) = i + 1 + j := by omega
    rw [e1]
    exact List.mem_cons_of_mem _ h2
theorem ev_sl_len (vs : List Value) (hc : ∀ v ∈ vs, v.category = 1) : (lg_sl vs).length = vs.length := by
  induction vs with
  | nil => rfl
  | cons u vs ih =>
    have h1 : ¬ u.category = 2 := by rw [hc u List.mem_cons_self]; decide
    have h2 := ih (fun v hv => hc v (List.mem_cons_of_mem _ hv))
    simp only [lg_sl] at h2
    simp only [lg_sl, List.flatMap_cons, if_neg h1, List.length_append, List.length_cons, List.length_nil, h2]
    omega
theorem ev_entry (w : ev_W) (vs : List Value) (n : Nat) (hc : ∀ v ∈ vs, v.category = 1) (hn : vs.length ≤ n) :
    ev_ls w n (ev_L0 n vs) ((lg_sl (vs.map (ev_v w)) ++ List.replicate (n - (lg_sl (vs.map (ev_v w))).length) Slot.unset).toArray) := by
  have hc' : ∀ v ∈ vs.map (ev_v w), v.category = 1 := by
    intro v hv
    obtain ⟨u, hu, rfl⟩ := List.mem_map.mp hv
    rw [ev_v_cat]; exact hc u hu
  have key : ∀ (i : Nat) (v : Value), (ev_L0 n vs)[i]? = some (some v) → vs[i]? = some v := by
    intro i v hi
    unfold ev_L0 at hi
    by_cases hl : i < (vs.map some).length
    · rw [List.getElem?_append_left hl, List.getElem?_map] at hi
      cases hv : vs[i]? with
      | none => rw [hv] at hi; cases hi
      | some u => rw [hv] at hi; simp at hi; rw [hi]
    · rw [List.getElem?_append_right (by omega)] at hi
      have h1 := List.mem_of_getElem? hi
      have h2 := (List.mem_replicate.mp h1).2
      cases h2
  have h1 := lv_entry (vs.map (ev_v w)) (n := n) (by rw [ev_sl_len _ hc', List.length_map]; exact hn)
  refine ⟨⟨h1.1, h1.2.1, fun q hq => ?_⟩, fun i v hi => hc v (List.mem_of_getElem? (key i v hi))⟩
  obtain ⟨v, hv, hq2⟩ := ev_lv_of hq
  obtain ⟨qi, qv⟩ := q
  dsimp only at hv hq2
  subst hq2
  have h2 := ev_args_mem (vs.map (ev_v w)) 0 hc' qi (ev_v w v) (by rw [List.getElem?_map, key qi v hv]; rfl)
  rw [Nat.zero_add] at h2
  exact h1.2.2 _ h2
/-- a method's words -/
def ev_mw (M' : ev_M) : Bool := (match M'.2.2.2.2.1 with
  | [] => ev_has (.code M'.1 M'.2.1 M'.2.2.1 M'.2.2.2.1)
  | hs => ev_has (.codeWith M'.1 M'.2.1 M'.2.2.1 M'.2.2.2.1 hs)) && ev_has (.initialized M'.1.cls) && plainFor M'.1 && decide (M'.1.cls ≠ "java/lang/invoke/MethodHandle" ∧ M'.1.cls ≠ "java/lang/invoke/VarHandle") && ev_dec M'
theorem ev_mw_of (ok : ev_ok w) {M' : ev_M} (hm : ev_mw M' = true) {s : State} (hW : w.2.1.WarmedH s.vm) (args : Array Value) : ∃ (mk : MethodId) (meth : Method) (c : Code), s.methodNamed? M'.1 = some mk ∧ s.vm.method? mk = some meth ∧ meth.code = some c ∧ c.code = M'.2.1 ∧ c.maxLocals = M'.2.2.1 ∧ meth.sig.returnType = M'.2.2.2.1 ∧ meth.locks = false ∧
    c.exceptionTable.toList.map (fun h => (h.startPc, h.endPc, h.handlerPc, h.catchType)) = M'.2.2.2.2.1 ∧ parseMethodDescriptor M'.1.desc = some meth.sig ∧ (Cond.initialized M'.1.cls).before args s = true ∧ plainFor M'.1 = true ∧ (M'.1.cls ≠ "java/lang/invoke/MethodHandle" ∧ M'.1.cls ≠ "java/lang/invoke/VarHandle") ∧ ev_dec M' = true := by
  simp only [ev_mw, Bool.and_eq_true, decide_eq_true_eq] at hm
  obtain ⟨⟨⟨⟨hc, hi⟩, hp⟩, hy⟩, hd⟩ := hm
  cases hh : M'.2.2.2.2.1 with
  | nil =>
    rw [hh] at hc
    have h1 := ev_word ok hW hc args
    obtain ⟨mk, hmk⟩ := Cond.code_named h1
    obtain ⟨meth, c, q1, q2, q3, q4, q5, q6, q7, q8⟩ := Cond.code_spec hmk h1
    refine ⟨mk, meth, c, hmk, q1, q2, q3, q4, q5, q6, ?_, q8, ev_word ok hW hi args, hp, hy, hd⟩
    have e1 : c.exceptionTable = #[] := by simpa using q7
    rw [e1]; rfl
  | cons x xs =>
    rw [hh] at hc
    have h1 := ev_word ok hW hc args
    obtain ⟨mk, meth, c, hmk, q1, q2, q3, q4, q5, q6, q7, q8⟩ := Cond.codeWith_spec h1
    exact ⟨mk, meth, c, hmk, q1, q2, q3, q4, q6, q7, q5, q8, ev_word ok hW hi args, hp, hy, hd⟩
/-- what a call has come to: it returned, or it threw -/
def ev_Cr (w : ev_W) (M : ev_M) (d : Nat × Nat) (h0 : ev_H) (L : List (Option Value)) (Q' : ev_R → ev_H → Prop) (p : Program) (e : Env) (R : Room) (s : State) (m : MethodId) (args : Array Value) (below : List Frame) (meth : Method) (c : Code) (ls : Array Slot) (T : State) (g : JFrame) (mk : MethodId) (av : Array Value) : Prop :=
  (∃ (v : Option Value) (h' : ev_H) (T' : State) (locs' : List Loc), Q' (.inl v) h' ∧ Stand p w.1 e R s m args below meth c T' locs' (h'.length - h0.length) (ev_cost h' - ev_cost h0) ∧ ev_cx w M d h0 p R s m meth c h' T'.heap locs' L ls ∧
    ∀ acts, Steps p.tables e below (doInvoke e (T.setTop g) acts mk av).1 (T'.setTop { g with pc := g.pc + 3, stack := (v.map (ev_v w)).toList ++ g.stack })) ∨
  (∃ (k ce : Nat) (h' : ev_H) (T' : State) (locs' : List Loc), Q' (.inr k) h' ∧ h'[k]? = some (.inr (ce, [])) ∧ Stand p w.1 e R s m args below meth c T' locs' (h'.length - h0.length) (ev_cost h' - ev_cost h0) ∧ ev_cx w M d h0 p R s m meth c h' T'.heap locs' L ls ∧
    ∀ acts, Steps p.tables e below (doInvoke e (T.setTop g) acts mk av).1 ((T'.setTop g).pushFrame (.throwing (ev_base w + k))))
theorem ev_callee {d' : Nat × Nat} {M' : ev_M} {Q' : ev_R → ev_H → Prop} {vs : List Value} (K : ev_G w M' d' h Q' 0 (ev_L0 M'.2.2.1 vs) [] h) (hvs : ∀ v ∈ vs, v.category = 1) (hvn : vs.length ≤ M'.2.2.1) (hdf : d'.1 + 1 ≤ d.1)
    {p : Program} {e : Env} {R : Room} {s : State} {m : MethodId} {args : Array Value} {below : List Frame} {meth : Method} {c : Code} {H : Heap} {locs : List Loc} {ls : Array Slot} (C : ev_cx w M d h0 p R s m meth c h H locs L ls) {T : State} (hT : T.heap = H)
    (X : Stand p w.1 e R s m args below meth c T locs (h.length - h0.length) (ev_cost h - ev_cost h0)) {g : JFrame} (hg : g.method = m) (hsize : g.locals.size = c.maxLocals) (hgm : g.monitorRoom = 0) {ig : Instr} (hdg : decode c.code g.pc = .ok (ig, 3)) (hgs : (g.stack.map fun v => v.category).sum + (M'.2.2.1 + 11) + d'.2 ≤ d.2)
    {mk : MethodId} {methk : Method} {ck : Code} (hnm : s.methodNamed? M'.1 = some mk) (hmk : s.vm.method? mk = some methk) (hck : methk.code = some ck) (hcb : ck.code = M'.2.1) (hcl : ck.maxLocals = M'.2.2.1) (hcr : methk.sig.returnType = M'.2.2.2.1) (hlk : methk.locks = false)
    (hch : ck.exceptionTable.toList.map (fun h => (h.startPc, h.endPc, h.handlerPc, h.catchType)) = M'.2.2.2.2.1) (hpn : plainFor M'.1 = true) :
    ev_Cr w M d h0 L Q' p e R s m args below meth c ls T g mk (vs.map (ev_v w)).toArray := by
  have hsz := ev_size C hT X
  have hWT : w.2.1.WarmedH T.vm := State.WarmedH.trans C.1.warm X.warmed
  have hmkT : T.vm.method? mk = some methk := by rw [X.warmed.alike.method?]; exact hmk
  have hnmT : T.methodNamed? M'.1 = some mk := X.named hnm
  have hplain : T.plainMethod mk := State.plainMethod.of_named hpn hnmT hmkT
  have c3 := C.2.2.1
  have c7 := C.2.2.2.2.2.2.1
  have c8 := C.2.2.2.2.2.2.2.1
  have c9 := C.2.2.2.2.2.2.2.2.1
  have c10 := C.2.2.2.2.2.2.2.2.2
  obtain ⟨f1, f2, f3, f4⟩ := c3
  obtain ⟨Y, hin⟩ := X.into (R' := { frames := d'.1, locals := d'.2, cells := w.2.2.2.2.2.2.1 - h.length, slots := w.2.2.2.2.2.2.2.1 - ev_cost h }) hg hsize hdg (vs.map (ev_v w)).toArray hmkT hck hlk hplain (by show d'.1 + 1 ≤ _; omega)
    (by show 2 * g.monitorRoom + (g.stack.map fun v => v.category).sum + (ck.maxLocals + 11) + d'.2 ≤ R.locals; rw [hgm, hcl]; omega) (by show h.length - h0.length + (w.2.2.2.2.2.2.1 - h.length) ≤ _; omega) (by show ev_cost h - ev_cost h0 + (w.2.2.2.2.2.2.2.1 - ev_cost h) ≤ _; omega)
  rw [hcl, lg_entry_eq] at Y hin
  have hls := ev_entry w vs M'.2.2.1 hvs hvn
  generalize (lg_sl (vs.map (ev_v w)) ++ List.replicate (M'.2.2.1 - (lg_sl (vs.map (ev_v w))).length) Slot.unset).toArray = lk at Y hin hls
  generalize hT0 : (T.setTop g).pushFrame (.java (F0 mk 0 lk [])) = T0 at Y hin
  have hT0h : T0.heap = H := by rw [← hT0, ← hT]; rfl
  have hsh : (T.calling g mk (vs.map (ev_v w)).toArray).heap = H := by rw [← hT]; rfl
  have hCk : ev_cx w M' d' h p { frames := d'.1, locals := d'.2, cells := w.2.2.2.2.2.2.1 - h.length, slots := w.2.2.2.2.2.2.2.1 - ev_cost h } (T.calling g mk (vs.map (ev_v w)).toArray) mk methk ck h H [] (ev_L0 M'.2.2.1 vs) lk := by
    refine ⟨⟨C.1.1, hcb, hcl, hcr, hlk, ?_, (name_of_methodNamed hnm hmk).1, hch, hWT⟩, ?_, ⟨Nat.le_refl _, Nat.le_refl _, ?_, ?_⟩, C.2.2.2.1, ?_, hls, Nat.le_refl _, Nat.le_refl _, c9, c10⟩
    · exact findClass_of_methodNamed hnmT
    · exact ev_rep_of C hsz hsh
    · show w.2.2.2.2.2.2.1 ≤ h.length + (w.2.2.2.2.2.2.1 - h.length); omega
    · show w.2.2.2.2.2.2.2.1 ≤ ev_cost h + (w.2.2.2.2.2.2.2.1 - ev_cost h); omega
    · rw [hsh]; exact va_S.rf
  have hWk := K p e _ (T.calling g mk (vs.map (ev_v w)).toArray) mk (vs.map (ev_v w)).toArray (.java g :: below) methk ck H [] lk hCk
  rw [Nat.sub_self, Nat.sub_self] at hWk
  obtain ⟨t, hst, o, hrun, hend, r, h', hQ', hout, hrep, g1, g2, g3, g4, hWt, Lk, hsame, hLk⟩ := hWk T0 hT0h Y
  have hst2 : Steps p.tables e below (T0.setTop (F0 mk 0 lk [])) t := ev_weaken (mid := [.java g]) hst
  have hcx : ∀ (T' : State), T'.heap = t.heap → ev_cx w M d h0 p R s m meth c h' T'.heap (locs ++ Lk) L ls := by
    intro T' e1
    obtain ⟨k1, k2, k3, k4, k5, k6, -, -, -, -⟩ := C
    refine ⟨k1, k2, k3, by rw [e1]; exact hrep.1, ⟨?_, fun q q1 q2 => ?_, fun z hz => ?_⟩, k6, by omega, by omega, g3, g4⟩
    · have h1 := hrep.2.1
      have h2 := k2.2.1
      rw [e1]; omega
    · have hq : q < ev_base w := by unfold ev_A at q2; omega
      rw [e1, hrep.2.2 q hq, k2.2.2 q hq]
    · rcases List.mem_append.mp hz with hz | hz
      · exact k5.2.2 z hz
      · exact hLk z hz
  have e1 : h.length - h0.length + (h'.length - h.length) = h'.length - h0.length := by omega
  have e2 : ev_cost h - ev_cost h0 + (ev_cost h' - ev_cost h) = ev_cost h' - ev_cost h0 := by omega
  cases r with
  | inl v =>
    have ho : o = .returned (v.map (ev_v w)) := hout
    subst ho
    obtain ⟨T', X', -, -, ht⟩ := X.outOf hg hdg hend hWt hsame
    rw [e1, e2] at X'
    have hh : T'.heap = t.heap := by rw [ht]; rfl
    refine Or.inl ⟨v, h', T', locs ++ Lk, hQ', X', hcx T' hh, fun acts => ?_⟩
    rw [hin acts, ← ht]
    exact hst2
  | inr k =>
    obtain ⟨ho, ce, hce⟩ : o = .threw (ev_base w + k) ∧ ∃ c, h'[k]? = some (.inr (c, [])) := hout
    subst ho
    obtain ⟨T', X', -, -, ht⟩ := X.outOfThrown hg hend hWt hsame
    rw [e1, e2] at X'
    have hh : T'.heap = t.heap := by rw [ht]; rfl
    refine Or.inr ⟨k, ce, h', T', locs ++ Lk, hQ', hce, X', hcx T' hh, fun acts => ?_⟩
    rw [hin acts, ← ht]
    exact hst2
/-- a frame over which something was thrown -/
def ev_X (w : ev_W) (M : ev_M) (d : Nat × Nat) (h0 : ev_H) (Q : ev_R → ev_H → Prop) (pc : Nat) (L : List (Option Value)) (st : List Value) (h : ev_H) (k : Nat) : Prop :=
  ∀ (p : Program) (e : Env) (R : Room) (s : State) (m : MethodId) (args : Array Value) (below : List Frame) (meth : Method) (c : Code) (H : Heap) (locs : List Loc) (ls : Array Slot),
    ev_cx w M d h0 p R s m meth c h H locs L ls → ∀ T : State, T.heap = H → Stand p w.1 e R s m args below meth c T locs (h.length - h0.length) (ev_cost h - ev_cost h0) →
    ∃ t, Steps p.tables e below ((T.setTop (F0 m pc ls (st.map (ev_v w)))).pushFrame (.throwing (ev_base w + k))) t ∧ ev_PQ w h0 Q below s t
def ev_npar (y : MethodName) (n : Nat) : Bool := decide ((parseMethodDescriptor y.desc).map (fun q => q.parameters.length) = some n)
theorem ev_npar_of {y : MethodName} {n : Nat} (hp : ev_npar y n = true) {sig : MethodDescriptor} (hs : parseMethodDescriptor y.desc = some sig) : n = sig.parameters.length := by
  have h1 := of_decide_eq_true hp
  rw [hs] at h1
  exact (Option.some.inj h1).symm
/-- the end of a call: with what came of it the caller goes on -/
theorem ev_goOn {Q' : ev_R → ev_H → Prop} {p : Program} {e : Env} {R : Room} {s : State} {m : MethodId} {args : Array Value} {below : List Frame} {meth : Method} {c : Code} {ls : Array Slot} {T T1 : State} {mk : MethodId} {av : Array Value} {g0 : JFrame}
    (hr : ev_Cr w M d h0 L Q' p e R s m args below meth c ls T1 (F0 m pc ls (st.map (ev_v w))) mk av)
    (hstep : ∀ target, (∀ acts, Steps p.tables e below (doInvoke e (T1.setTop (F0 m pc ls (st.map (ev_v w)))) acts mk av).1 target) → Steps p.tables e below (T.setTop g0) target)
    (kk : ∀ (v : Option Value) (h' : ev_H), Q' (.inl v) h' → ev_G w M d h0 Q (pc + 3) L (v.toList ++ st) h')
    (kx : ∀ (k ce : Nat) (h' : ev_H), Q' (.inr k) h' → h'[k]? = some (.inr (ce, [])) → ev_X w M d h0 Q pc L st h' k) :
    ∃ t, Steps p.tables e below (T.setTop g0) t ∧ ev_PQ w h0 Q below s t := by
  rcases hr with ⟨v, h', T', locs', hQ', X', C', hs⟩ | ⟨k, ce, h', T', locs', hQ', hce, X', C', hs⟩
  · obtain ⟨t, st1, q⟩ := kk v h' hQ' p e R s m args below meth c T'.heap locs' ls C' T' rfl X'
    refine ⟨t, (hstep _ hs).trans ?_, q⟩
    have e1 : (v.map (ev_v w)).toList ++ st.map (ev_v w) = (v.toList ++ st).map (ev_v w) := by cases v <;> rfl
    show Steps p.tables e below (T'.setTop (F0 m (pc + 3) ls ((v.map (ev_v w)).toList ++ st.map (ev_v w)))) t
    rw [e1]
    exact st1
  · obtain ⟨t, st1, q⟩ := kx k ce h' hQ' hce p e R s m args below meth c T'.heap locs' ls C' T' rfl X'
    exact ⟨t, (hstep _ hs).trans st1, q⟩
theorem ev_catsum (st : List Value) : ((st.map (ev_v w)).map fun v => v.category).sum = (st.map fun v => v.category).sum := by
  rw [List.map_map]
  congr 1
  apply List.map_congr_left
  intro v _
  exact ev_v_cat w v
/-- a static method -/
theorem ev_callS {d' : Nat × Nat} (ok : ev_ok w) (hM : ev_dec M = true) {idx : Nat} {M' : ev_M} {vs : List Value} {Q' : ev_R → ev_H → Prop} (hi : ev_ins M pc = some (.invokestatic idx, a, b)) (hm : ev_mw M' = true) (hl : ev_has (.methodLink M.1.cls idx M'.1) = true ∨ ev_has (.methodLinkNest M.1.cls idx M'.1 ev_host) = true) (hs' : ev_has (.static M'.1) = true)
    (hnp : ev_npar M'.1 vs.length = true) (hvn : vs.length ≤ M'.2.2.1) (hvs : ∀ v ∈ vs, v.category = 1) (hdf : d'.1 + 1 ≤ d.1) (hgs : (st.map fun v => v.category).sum + (M'.2.2.1 + 11) + d'.2 ≤ d.2) (K : ev_G w M' d' h Q' 0 (ev_L0 M'.2.2.1 vs) [] h)
    (kk : ∀ (v : Option Value) (h' : ev_H), Q' (.inl v) h' → ev_G w M d h0 Q (pc + 3) L (v.toList ++ st) h')
    (kx : ∀ (k ce : Nat) (h' : ev_H), Q' (.inr k) h' → h'[k]? = some (.inr (ce, [])) → ev_X w M d h0 Q pc L st h' k) : ev_G w M d h0 Q pc L (vs.reverse ++ st) h := by
  intro p e R s m args below meth c H locs ls C T hT X
  have hW := C.1.warm
  obtain ⟨mk, methk, ck, q1, q2, q3, q4, q5, q6, q7, q8, q9, q10, q11, q12, -⟩ := ev_mw_of ok hm hW args
  have hstatic : methk.isStatic = true := Cond.static_spec q1 q2 (ev_word ok hW hs' args)
  obtain ⟨kP, hkP, -⟩ := className_of_methodNamed q1
  have hinitP : kP.init = .initialized := Cond.initialized_spec (findClass_of_methodNamed q1) hkP q10
  have hst : (F0 m pc ls ((vs.reverse ++ st).map (ev_v w))).stack = (vs.map (ev_v w)).reverse ++ st.map (ev_v w) := by
    show (vs.reverse ++ st).map (ev_v w) = _
    rw [List.map_append, List.map_reverse]
  have hd : decode c.code (F0 m pc ls ((vs.reverse ++ st).map (ev_v w))).pc = .ok (.invokestatic idx, 3) := by rw [C.1.2.1]; exact ev_dec_at hM hi
  have hlen : (vs.map (ev_v w)).length = methk.sig.parameters.length := by rw [List.length_map]; exact ev_npar_of hnp q9
  have hlsz : ls.size = c.maxLocals := by rw [C.1.2.2.1]; exact C.2.2.2.2.2.1.1.1
  obtain ⟨vm1, X1, hstep⟩ : ∃ vm', Stand p w.1 e R s m args below meth c (T.setVm vm') locs (h.length - h0.length) (ev_cost h - ev_cost h0) ∧
      ∀ target, (∀ acts, Steps p.tables e below (doInvoke e ((T.setVm vm').setTop { (F0 m pc ls ((vs.reverse ++ st).map (ev_v w))) with stack := st.map (ev_v w) }) acts mk (vs.map (ev_v w)).toArray).1 target) → Steps p.tables e below (T.setTop (F0 m pc ls ((vs.reverse ++ st).map (ev_v w)))) target := by
    rcases hl with hl | hl
    · exact X.invokestatic C.1.1 C.1.own (ev_word ok hW hl args) q1 q2 hstatic hkP hinitP q12 rfl hlen hst hd
    · exact X.invokestaticNest C.1.1 C.1.own (ev_word ok hW hl args) q1 q2 hstatic hkP hinitP q12 rfl hlen hst hd
  have hr := ev_callee K hvs hvn hdf C (T := T.setVm vm1) hT X1 (g := F0 m pc ls (st.map (ev_v w))) rfl hlsz rfl hd (by rw [ev_catsum]; exact hgs) q1 q2 q3 q4 q5 q6 q7 q8 q11
  exact ev_goOn hr hstep kk kx
/-- a method of an object -/
theorem ev_callV {d' : Nat × Nat} (ok : ev_ok w) (hM : ev_dec M = true) {idx x ci : Nat} {q : vw_C} {fs : List Value} {M' : ev_M} {vs : List Value} {Q' : ev_R → ev_H → Prop} (hi : ev_ins M pc = some (.invokevirtual idx, a, b)) (hm : ev_mw M' = true) (hl : ev_has (.methodLink M.1.cls idx M'.1) = true ∨ ev_has (.methodLinkNest M.1.cls idx M'.1 ev_host) = true)
    (hin : ev_has (.instanceMethod M'.1) = true) (hsel : ev_has (.selects M'.1.cls M'.1 M'.1) = true) (hcell : h[x]? = some (.inr (ci, fs))) (hq : ev_cl[ci]? = some q) (hqn : q.1 = M'.1.cls)
    (hnp : ev_npar M'.1 vs.length = true) (hvn : vs.length + 1 ≤ M'.2.2.1) (hvs : ∀ v ∈ vs, v.category = 1) (hdf : d'.1 + 1 ≤ d.1) (hgs : (st.map fun v => v.category).sum + (M'.2.2.1 + 11) + d'.2 ≤ d.2) (K : ev_G w M' d' h Q' 0 (ev_L0 M'.2.2.1 (.ref x :: vs)) [] h)
    (kk : ∀ (v : Option Value) (h' : ev_H), Q' (.inl v) h' → ev_G w M d h0 Q (pc + 3) L (v.toList ++ st) h')
    (kx : ∀ (k ce : Nat) (h' : ev_H), Q' (.inr k) h' → h'[k]? = some (.inr (ce, [])) → ev_X w M d h0 Q pc L st h' k) : ev_G w M d h0 Q pc L (vs.reverse ++ .ref x :: st) h := by
  intro p e R s m args below meth c H locs ls C T hT X
  have hW := C.1.warm
  obtain ⟨mk, methk, ck, q1, q2, q3, q4, q5, q6, q7, q8, q9, q10, q11, q12, -⟩ := ev_mw_of ok hm hW args
  obtain ⟨mk2, methM, hnamed, hmethM, hstM, habM⟩ := Cond.instanceMethod_spec (ev_word ok hW hin args)
  cases q1.symm.trans hnamed
  cases q2.symm.trans hmethM
  obtain ⟨r0, hr0, cell, hcl1, hcl2, hcl3, -⟩ := C.2.2.2.1 x _ (ev_ws_get hcell)
  cases hq.symm.trans hr0
  have hK := va_K.moved hW.alike ok.2.1
  have hfc : s.vm.findClass q.1 = some cell.cls := by rw [hcl2]; exact (hK.1 ci q hq).2.1
  obtain ⟨c2, r2, m2, s1, s2, s3, s4, kP, hkP, hkPi⟩ := Cond.selects_spec (ev_word ok hW hsel args)
  rw [← hqn] at s1
  cases hfc.symm.trans s1
  cases (State.methodFound?_of_named q1 q12).symm.trans s2
  cases q1.symm.trans s3
  have hselP : selectMethod e.platform s.vm cell.cls mk = .method mk := by rw [Launch.admits_selectMethod X.admits]; exact s4
  have hst : (F0 m pc ls ((vs.reverse ++ .ref x :: st).map (ev_v w))).stack = (vs.map (ev_v w)).reverse ++ .ref (ev_base w + x) :: st.map (ev_v w) := by
    show (vs.reverse ++ .ref x :: st).map (ev_v w) = _
    rw [List.map_append, List.map_reverse]; rfl
  have hd : decode c.code (F0 m pc ls ((vs.reverse ++ .ref x :: st).map (ev_v w))).pc = .ok (.invokevirtual idx, 3) := by rw [C.1.2.1]; exact ev_dec_at hM hi
  have hlen : (vs.map (ev_v w)).length = methk.sig.parameters.length := by rw [List.length_map]; exact ev_npar_of hnp q9
  have hlsz : ls.size = c.maxLocals := by rw [C.1.2.2.1]; exact C.2.2.2.2.2.1.1.1
  have hcT : T.heap[ev_base w + x]? = some cell := by rw [hT]; exact hcl1
  obtain ⟨vm1, X1, hstep⟩ : ∃ vm', Stand p w.1 e R s m args below meth c (T.setVm vm') locs (h.length - h0.length) (ev_cost h - ev_cost h0) ∧
      ∀ target, (∀ acts, Steps p.tables e below (doInvoke e ((T.setVm vm').setTop { (F0 m pc ls ((vs.reverse ++ .ref x :: st).map (ev_v w))) with stack := st.map (ev_v w) }) acts mk (Value.ref (ev_base w + x) :: vs.map (ev_v w)).toArray).1 target) → Steps p.tables e below (T.setTop (F0 m pc ls ((vs.reverse ++ .ref x :: st).map (ev_v w)))) target := by
    rcases hl with hl | hl
    · exact X.invokevirtual C.1.1 C.1.own (ev_word ok hW hl args) q1 q2 hstM hkP hkPi q12 hcT (fun z hz => by rw [hcl3] at hz; cases hz) hselP q2 habM hkP hkPi rfl hlen hst hd
    · exact X.invokevirtualNest C.1.1 C.1.own (ev_word ok hW hl args) q1 q2 hstM hkP hkPi q12 hcT (fun z hz => by rw [hcl3] at hz; cases hz) hselP q2 habM hkP hkPi rfl hlen hst hd
  have hr := ev_callee (vs := .ref x :: vs) K (fun v hv => (List.mem_cons.mp hv).elim (fun e => by rw [e]; rfl) (hvs v)) (by rw [List.length_cons]; exact hvn) hdf C (T := T.setVm vm1) hT X1 (g := F0 m pc ls (st.map (ev_v w))) rfl hlsz rfl hd (by rw [ev_catsum]; exact hgs) q1 q2 q3 q4 q5 q6 q7 q8 q11
  exact ev_goOn hr hstep kk kx
/-- a constructor of ours -/
theorem ev_callI {d' : Nat × Nat} (ok : ev_ok w) (hM : ev_dec M = true) {idx x : Nat} {M' : ev_M} {vs : List Value} {Q' : ev_R → ev_H → Prop} (hi : ev_ins M pc = some (.invokespecial idx, a, b)) (hm : ev_mw M' = true) (hh : M'.2.2.2.2.1 = []) (hrn : M'.2.2.2.1 = none) (hl : ev_has (.methodLink M.1.cls idx M'.1) = true ∨ ev_has (.methodLinkNest M.1.cls idx M'.1 ev_host) = true)
    (hin : ev_has (.instanceMethod M'.1) = true) (hname : M'.1.name = "<init>")
    (hnp : ev_npar M'.1 vs.length = true) (hvn : vs.length + 1 ≤ M'.2.2.1) (hvs : ∀ v ∈ vs, v.category = 1) (hdf : d'.1 + 1 ≤ d.1) (hgs : (st.map fun v => v.category).sum + (M'.2.2.1 + 11) + d'.2 ≤ d.2) (K : ev_G w M' d' h Q' 0 (ev_L0 M'.2.2.1 (.ref x :: vs)) [] h)
    (kk : ∀ (v : Option Value) (h' : ev_H), Q' (.inl v) h' → ev_G w M d h0 Q (pc + 3) L (v.toList ++ st) h')
    (kx : ∀ (k ce : Nat) (h' : ev_H), Q' (.inr k) h' → h'[k]? = some (.inr (ce, [])) → ev_X w M d h0 Q pc L st h' k) : ev_G w M d h0 Q pc L (vs.reverse ++ .ref x :: st) h := by
  intro p e R s m args below meth c H locs ls C T hT X
  have hW := C.1.warm
  obtain ⟨mk, methk, ck, q1, q2, q3, q4, q5, q6, q7, q8, q9, q10, q11, q12, -⟩ := ev_mw_of ok hm hW args
  have hcode : (Cond.code M'.1 M'.2.1 M'.2.2.1 none).before args s = true := by
    have h1 := hm
    simp only [ev_mw, Bool.and_eq_true, hh, hrn] at h1
    exact ev_word ok hW h1.1.1.1.1 args
  have hpl : e.platform.magicAccessors = ({} : Platform).magicAccessors := by rw [X.admits.platform]
  have hst : (F0 m pc ls ((vs.reverse ++ .ref x :: st).map (ev_v w))).stack = (vs.map (ev_v w)).reverse ++ .ref (ev_base w + x) :: st.map (ev_v w) := by
    show (vs.reverse ++ .ref x :: st).map (ev_v w) = _
    rw [List.map_append, List.map_reverse]; rfl
  have hd : decode c.code (F0 m pc ls ((vs.reverse ++ .ref x :: st).map (ev_v w))).pc = .ok (.invokespecial idx, 3) := by rw [C.1.2.1]; exact ev_dec_at hM hi
  have hlen : ∀ sig, parseMethodDescriptor M'.1.desc = some sig → (vs.map (ev_v w)).length = sig.parameters.length := fun sig hsig => by rw [List.length_map]; exact ev_npar_of hnp hsig
  have hlsz : ls.size = c.maxLocals := by rw [C.1.2.2.1]; exact C.2.2.2.2.2.1.1.1
  obtain ⟨vm1, hW1, hstep⟩ : ∃ vm', s.WarmedH vm' ∧
      ∀ target, (∀ acts, Steps p.tables e below (doInvoke e ((T.setVm vm').setTop { (F0 m pc ls ((vs.reverse ++ .ref x :: st).map (ev_v w))) with stack := st.map (ev_v w) }) acts mk (Value.ref (ev_base w + x) :: vs.map (ev_v w)).toArray).1 target) → Steps p.tables e below (T.setTop (F0 m pc ls ((vs.reverse ++ .ref x :: st).map (ev_v w)))) target := by
    rcases hl with hl | hl
    · obtain ⟨mk2, -, -, -, vm1, z1, -, -, -, -, -, -, -, z2, z3⟩ := Steps.initColdArgs (e := e) X.here C.1.1 X.warmed hpl C.1.own hname q12 (ev_word ok hW hl args) (ev_word ok hW hin args) hcode (f := F0 m pc ls ((vs.reverse ++ .ref x :: st).map (ev_v w))) rfl hlen hst hd
      cases q1.symm.trans z1
      exact ⟨vm1, z2, z3⟩
    · obtain ⟨mk2, -, -, -, vm1, z1, -, -, -, -, -, -, -, z2, z3⟩ := Steps.initColdArgsNest (e := e) X.here C.1.1 X.warmed hpl C.1.own hname q12 (ev_word ok hW hl args) (ev_word ok hW hin args) hcode (f := F0 m pc ls ((vs.reverse ++ .ref x :: st).map (ev_v w))) rfl hlen hst hd
      cases q1.symm.trans z1
      exact ⟨vm1, z2, z3⟩
  have X1 := X.noted hW1
  have hr := ev_callee (vs := .ref x :: vs) K (fun v hv => (List.mem_cons.mp hv).elim (fun e => by rw [e]; rfl) (hvs v)) (by rw [List.length_cons]; exact hvn) hdf C (T := T.setVm vm1) hT X1 (g := F0 m pc ls (st.map (ev_v w))) rfl hlsz rfl hd (by rw [ev_catsum]; exact hgs) q1 q2 q3 q4 q5 q6 q7 q8 q11
  exact ev_goOn hr hstep kk kx
/-- Object's constructor -/
theorem ev_objInit (ok : ev_ok w) (hM : ev_dec M = true) {idx x : Nat} (hi : ev_ins M pc = some (.invokespecial idx, a, b)) (hl : ev_has (.methodLink M.1.cls idx Lib.objectInit) = true) (hin : ev_has (.instanceMethod Lib.objectInit) = true) (hc : ev_has (.code Lib.objectInit ⟨#[0xb1]⟩ 1 none) = true) (hdf : 1 ≤ d.1) (hgs : (st.map fun v => v.category).sum + 12 ≤ d.2)
    (kk : ev_G w M d h0 Q (pc + 3) L st h) : ev_G w M d h0 Q pc L (.ref x :: st) h := by
  intro p e R s m args below meth c H locs ls C
  have hW := C.1.warm
  obtain ⟨f1, f2, -, -⟩ := C.2.2.1
  have hlsz : ls.size = c.maxLocals := by rw [C.1.2.2.1]; exact C.2.2.2.2.2.1.1.1
  refine W.objInit C.1.1 C.1.2.1 C.1.own (ev_word ok hW hl args) (ev_word ok hW hin args) (ev_word ok hW hc args) rfl hlsz rfl (ev_dec_at hM hi) (by omega) ?_ (kk p e R s m args below meth c H locs ls C)
  show 2 * 0 + ((st.map (ev_v w)).map fun v => v.category).sum + 12 ≤ R.locals
  rw [ev_catsum]; omega
/-- what was thrown leaves the method -/
theorem ev_leaves {k ce : Nat} (hce : h[k]? = some (.inr (ce, []))) (hh : ∀ q ∈ M.2.2.2.2.1, (decide (q.1 ≤ pc) && decide (pc < q.2.1)) = false) (hQ : Q (.inr k) h) : ev_X w M d h0 Q pc L st h k := by
  intro p e R s m args below meth c H locs ls C T hT X
  have hsz := ev_size C hT X
  obtain ⟨st1, hrun, hend, hW, hsm⟩ := X.leaveThrown (ev_base w + k) (g := F0 m pc ls (st.map (ev_v w))) rfl rfl rfl (fun x hx => by
    have h1 := hh (x.startPc, x.endPc, x.handlerPc, x.catchType) (by rw [← C.1.2.2.2.2.2.2.2.1]; exact List.mem_map.mpr ⟨x, hx, rfl⟩)
    simpa [covers] using h1) C.1.2.2.2.2.1
  exact ⟨_, st1, .threw (ev_base w + k), hrun, hend, .inr k, h, hQ, ⟨rfl, ce, hce⟩, ev_rep_of C hsz hT, C.2.2.2.2.2.2.1, C.2.2.2.2.2.2.2.1, C.2.2.2.2.2.2.2.2.1, C.2.2.2.2.2.2.2.2.2, hW, locs, hsm, C.2.2.2.2.1.2.2⟩
end EvCall
end
section
/-! the words of a throw: each is a good one of the tables, or one of the four that speak of the heap; by the constructors that are called -/
section EvThW
def ev_sp : List Cond := [.isRef (.static Bundle.tN "UNASSIGNED_STACK" Bundle.steD), .isRef (.static Bundle.tN "SUPPRESSED_SENTINEL" Bundle.listD), .laysStatic Bundle.tN "UNASSIGNED_STACK" Bundle.steD, .laysStatic Bundle.tN "SUPPRESSED_SENTINEL" Bundle.listD]
def ev_names : List String := ["java/lang/RuntimeException", "java/lang/Exception"]
def ev_thL : List (Nat × String × String) := [(85, "WitnessBench", "java/lang/IllegalArgumentException"), (96, "WitnessBench", "java/lang/IllegalStateException"), (125, "WitnessBench", "java/lang/UnsupportedOperationException"), (262, "WitnessBench", "java/lang/IndexOutOfBoundsException")]
theorem ev_thL_ok : ∀ t ∈ ev_thL, (Bundle.ownAtoms t.2.1 t.1 t.2.2 ev_names).all (fun x => ev_has x || decide (x ∈ ev_sp)) = true := by decide +kernel
def ev_thw (own : String) (ik is ic : Nat) (E tx : String) : Bool := decide ((ic, own, E) ∈ ev_thL) && ev_has (.classLink own ik E) && ev_has (.initialized E) && decide (Cond.stringRef own is tx ∈ lw_tbl) && Bundle.fit E
end EvThW
end
section
/-! throwing and catching -/
section EvThrow
/-- the first row of a handler table that takes an object of the class 'thrown' at pc is the one that goes on at n -/
def ev_first (pl : Platform) (s0 : State) (dc : ClassId) (pc : Nat) (thrown : ClassId) : List ExceptionTableEntry → Nat → Prop
  | [], _ => False
  | x :: t, n => (covers x pc = false ∧ ev_first pl s0 dc pc thrown t n) ∨
      (covers x pc = true ∧ x.catchType ≠ 0 ∧ ∃ c, s0.vm.ClassLinks pl dc x.catchType c ∧ ((s0.vm.assignable thrown c = true ∧ x.handlerPc = n) ∨ (s0.vm.assignable thrown c = false ∧ ev_first pl s0 dc pc thrown t n)))
theorem ev_find {e : Env} {s0 : State} {f : JFrame} {q : Addr} {cell : Cell} (hobj : ∀ k, cell.vm ≠ .statics k) (hk0 : ∃ k, s0.vm.classes[cell.cls]? = some k) {n : Nat} :
    ∀ (es : List ExceptionTableEntry) (S : State), s0.WarmedH S.vm → S.heap[q]? = some cell → ev_first e.platform s0 f.method.cls f.pc cell.cls es n →
      ∃ vm', s0.WarmedH vm' ∧ ∀ (Q : Handler → Pre) (E : CtlPost) (dd : Bool) (acts : List Action), wp (findHandler.go f q es) Q E e dd acts S ↔ Q (.found n) dd acts (S.setVm vm') := by
  obtain ⟨k0, hk0⟩ := hk0
  intro es
  induction es with
  | nil => intro S _ _ hf; exact hf.elim
  | cons x t ih =>
    intro S hW hcell hf
    rcases hf with ⟨hx, hf⟩ | ⟨hx, h0, c, hl, hc⟩
    · obtain ⟨vm', hW', hq⟩ := ih S hW hcell hf
      exact ⟨vm', hW', fun Q E dd acts => (W.findHandler_go_skip hx).trans (hq Q E dd acts)⟩
    · have hlS := hW.classLinks hl
      obtain ⟨dk, _, _, kt, hdk, _, _, _, _, hkt, _, hopen⟩ := hl.here
      have hWn : s0.WarmedH (S.vm.noted f.method.cls x.catchType (.cls c)) := hW.noted hdk hopen (State.rightAt_cls hl)
      have hal : S.vm.Alike (S.vm.noted f.method.cls x.catchType (.cls c)) := (Vm.Alike.refl S.vm).noted _ _ _
      obtain ⟨ha, ht⟩ := (resolveClass_links e.toSetting hlS).op (op := VmOp.resolveClass f.method.cls x.catchType) rfl
      obtain ⟨k1, hk1, -⟩ := hWn.alike.2.2 _ _ hk0
      obtain ⟨k2, hk2, -⟩ := hWn.alike.2.2 _ _ hkt
      have hx' := hx
      simp only [covers] at hx'
      rcases hc with ⟨has, rfl⟩ | ⟨has, hf⟩
      · have has' : (S.vm.noted f.method.cls x.catchType (.cls c)).assignable cell.cls c = true := by rw [hWn.alike.assignable]; exact has
        refine ⟨_, hWn, fun Q E dd acts => ?_⟩
        simp [findHandler.go, hx', h0, ha, ht, hcell, hobj, hk1, hk2, has', VmOp.dirties, VmOp.acts]
      · have has' : (S.vm.noted f.method.cls x.catchType (.cls c)).assignable cell.cls c = false := by rw [hWn.alike.assignable]; exact has
        obtain ⟨vm', hW', hq⟩ := ih (S.setVm (S.vm.noted f.method.cls x.catchType (.cls c))) hWn hcell hf
        refine ⟨vm', hW', fun Q E dd acts => ?_⟩
        have h1 : wp (findHandler.go f q (x :: t)) Q E e dd acts S ↔ wp (findHandler.go f q t) Q E e dd acts (S.setVm (S.vm.noted f.method.cls x.catchType (.cls c))) := by
          simp [findHandler.go, hx', h0, ha, ht, hcell, hobj, hk1, hk2, has', VmOp.dirties, VmOp.acts]
        exact h1.trans (hq Q E dd acts)
variable {w : ev_W} {M : ev_M} {d : Nat × Nat} {h0 : ev_H} {Q : ev_R → ev_H → Prop} {pc : Nat} {L : List (Option Value)} {st : List Value} {h : ev_H} {a b : Nat}
/-- does the first row that takes an exception of the class named E at pc go on at n? the rows ahead that cover pc name classes to which E can't be cast -/
def ev_fst (own E : String) (pc n : Nat) : List (Nat × Nat × Nat × Nat) → Bool
  | [] => false
  | q :: t => if (decide (q.1 ≤ pc) && decide (pc < q.2.1)) = true then
      decide (q.2.2.2 ≠ 0) && ev_has (.classLink own q.2.2.2 (ev_cn q.2.2.2)) &&
        (if ev_cn q.2.2.2 = E then ev_has (.castable E E) && decide (q.2.2.1 = n) else decide (Cond.not (.castable E (ev_cn q.2.2.2)) ∈ ev_nots) && ev_fst own E pc n t)
    else ev_fst own E pc n t
theorem ev_fst_of (ok : ev_ok w) (hnots : ∀ x ∈ ev_nots, x.before w.2.2.1 w.2.1 = true) {pl : Platform} (hpl : pl.magicAccessors = ({} : Platform).magicAccessors) {s : State} (hW : w.2.1.WarmedH s.vm) {own E : String} {dc cE : ClassId} (hown : s.vm.findClass own = some dc) (hE : s.vm.findClass E = some cE) {n : Nat} :
    ∀ es : List ExceptionTableEntry, ev_fst own E pc n (es.map (fun h => (h.startPc, h.endPc, h.handlerPc, h.catchType))) = true → ev_first pl s dc pc cE es n := by
  intro es
  induction es with
  | nil => intro hf; cases hf
  | cons x t ih =>
    intro hf
    simp only [List.map_cons, ev_fst] at hf
    by_cases hc : covers x pc = true
    · have hc' : (decide (x.startPc ≤ pc) && decide (pc < x.endPc)) = true := hc
      rw [if_pos hc'] at hf
      simp only [Bool.and_eq_true, decide_eq_true_eq] at hf
      obtain ⟨⟨h0, hl⟩, hr⟩ := hf
      obtain ⟨c', hc1, hcl⟩ := Cond.classLink_spec hown (ev_word ok hW hl #[]) pl hpl
      refine Or.inr ⟨hc, h0, c', hcl, ?_⟩
      by_cases hn : ev_cn x.catchType = E
      · rw [if_pos hn] at hr
        simp only [Bool.and_eq_true, decide_eq_true_eq] at hr
        obtain ⟨c3, c4, hc3, hc4, hasg⟩ := Cond.castable_spec (ev_word ok hW hr.1 #[])
        rw [hn] at hc1
        cases Option.some.inj (hc3.symm.trans hE)
        cases Option.some.inj (hc4.symm.trans hc1)
        exact Or.inl ⟨hasg, hr.2⟩
      · rw [if_neg hn] at hr
        simp only [Bool.and_eq_true, decide_eq_true_eq] at hr
        obtain ⟨c3, c4, hc3, hc4, hasg⟩ := (va_Nc.of (hnots _ hr.1)).moved hW.alike
        cases Option.some.inj (hc3.symm.trans hE)
        cases Option.some.inj (hc4.symm.trans hc1)
        exact Or.inr ⟨hasg, ih hr.2⟩
    · have hc' : covers x pc = false := by simpa using hc
      rw [if_neg hc] at hf
      exact Or.inl ⟨hc', ih hf⟩
theorem ev_caught {tb : Tables} {e : Env} {s target : State} {g : JFrame} {c : Code} {below : List Frame} {q : Addr} {n : Nat} {vm' : Vm} (hAt : At s g.method c below)
    (hf : ∀ (Q : Handler → Pre) (E : CtlPost) (dd : Bool) (acts : List Action), wp (findHandler g q) Q E e dd acts ((s.setTop g).pushFrame (.throwing q)) ↔ Q (.found n) dd acts (((s.setTop g).pushFrame (.throwing q)).setVm vm'))
    (hrest : Steps tb e below ((s.setVm vm').setTop { g with pc := n, stack := [.ref q] }) target) : Steps tb e below ((s.setTop g).pushFrame (.throwing q)) target := by
  obtain ⟨hgo, hw⟩ := hAt.throwing q
  refine Steps.head hgo hw ?_
  have hstep : (stepThrowing e ((s.setTop g).pushFrame (.throwing q)) q (.java g :: s.frames.tail)).Is ((((s.setTop g).pushFrame (.throwing q)).setVm vm').setFrames (.java { g with pc := n, stack := [.ref q] } :: s.frames.tail)) [] := by
    simp only [stepThrowing, searchFrame, vmDo]
    generalize hr : Sem.go _ e false [] _ = res
    obtain ⟨as, rfl, ha⟩ := Sem.eq_ok_of hr (a := Handler.found n) (s' := ((s.setTop g).pushFrame (.throwing q)).setVm vm') (acts' := []) (by simp [hf _ _ _ _])
    exact ⟨rfl, ha⟩
  rw [stepThread_throwing (frames_entered hAt.top _), hstep.1]
  obtain ⟨g0, hg⟩ := Option.isSome_iff_exists.mp hAt.top
  obtain ⟨r, hr⟩ := State.topJava?_eq_some.mp hg
  have hr' : (s.setVm vm').frames = .java g0 :: r := hr
  rw [State.setTop_of_frames _ hr'] at hrest
  rw [State.pushFrame, State.setTop_of_frames _ hr, State.setFrames_setFrames, hr]
  show Steps tb e below (((s.setVm vm').setFrames _).setFrames _) target
  rw [State.setFrames_setFrames]
  exact hrest
theorem ev_catch (ok : ev_ok w) (hnots : ∀ x ∈ ev_nots, x.before w.2.2.1 w.2.1 = true) {k ce n : Nat} {q : vw_C} (hce : h[k]? = some (.inr (ce, []))) (hq : ev_cl[ce]? = some q) (hf : ev_fst M.1.cls q.1 pc n M.2.2.2.2.1 = true) (kk : ev_G w M d h0 Q n L [.ref k] h) : ev_X w M d h0 Q pc L st h k := by
  intro p e R s m args below meth c H locs ls C T hT X
  have hW := C.1.warm
  have hpl : e.platform.magicAccessors = ({} : Platform).magicAccessors := by rw [X.admits.platform]
  obtain ⟨r0, hr0, cell, hcl1, hcl2, hcl3, -⟩ := C.2.2.2.1 k _ (ev_ws_get hce)
  cases hq.symm.trans hr0
  have hK := va_K.moved hW.alike ok.2.1
  have hfc : s.vm.findClass q.1 = some cell.cls := by rw [hcl2]; exact (hK.1 ce q hq).2.1
  have hcT : T.heap[ev_base w + k]? = some cell := by rw [hT]; exact hcl1
  have h1 : ev_fst M.1.cls q.1 pc n (c.exceptionTable.toList.map (fun h => (h.startPc, h.endPc, h.handlerPc, h.catchType))) = true := by rw [C.1.2.2.2.2.2.2.2.1]; exact hf
  have h2 := ev_fst_of ok hnots hpl hW C.1.own hfc c.exceptionTable.toList h1
  obtain ⟨vm', hW', hgo⟩ := ev_find (e := e) (s0 := s) (f := F0 m pc ls (st.map (ev_v w))) (q := ev_base w + k) (cell := cell) (fun z hz => by rw [hcl3] at hz; cases hz) (Vm.classAt_of_findClass hfc) c.exceptionTable.toList
    ((T.setTop (F0 m pc ls (st.map (ev_v w)))).pushFrame (.throwing (ev_base w + k))) X.warmed hcT h2
  have hm' : ((T.setTop (F0 m pc ls (st.map (ev_v w)))).pushFrame (.throwing (ev_base w + k))).vm.method? (F0 m pc ls (st.map (ev_v w))).method = some meth := X.method'
  obtain ⟨t, st1, hq1⟩ := kk p e R s m args below meth c H locs ls C (T.setVm vm') hT (X.noted hW')
  have hAt : At T (F0 m pc ls (st.map (ev_v w))).method c below := X.here
  exact ⟨t, ev_caught hAt (fun Q E dd acts => (W.findHandler_eq hm' X.code).trans (hgo Q E dd acts)) st1, hq1⟩
/-! a throw of one's own -/
theorem ev_stat {C n dsc : String} {a1 a2 : Array Value} {s U : State} (hal : s.vm.Alike U.vm) (hold : ∀ q : Nat, q < s.heap.size → U.heap[q]? = s.heap[q]?) (hl : (Cond.laysStatic C n dsc).before a1 s = true) : (Cond.laysStatic C n dsc).before a2 U = true := by
  obtain ⟨c, k, i, f, x, cell, q1, q2, q3, q4, q5, q6, q7, q8, q9⟩ := Cond.laysStatic_spec hl
  obtain ⟨k', hi', he⟩ := State.fieldFound?_setVm hal q2
  have hx : x < s.heap.size := (Array.getElem?_eq_some_iff.mp q5).1
  show (Cond.laysStatic C n dsc).holds a2 U none U [] = true
  exact Cond.laysStatic_of (by rw [hal.findClass]; exact q1) (by simpa only [State.fieldFound?, State.vm_setVm] using hi') q3 (by rw [he]; exact q4) (by rw [hold x hx]; exact q5) q6 q7 q8 (by rw [he]; exact q9)
theorem ev_statR {C n dsc : String} {a1 a2 : Array Value} {s U : State} (hal : s.vm.Alike U.vm) (hold : ∀ q : Nat, q < s.heap.size → U.heap[q]? = s.heap[q]?) (hl : (Cond.laysStatic C n dsc).before a1 s = true) (hr : (Cond.isRef (.static C n dsc)).before a1 s = true) : (Cond.isRef (.static C n dsc)).before a2 U = true := by
  obtain ⟨c, k, i, f, x, cell, q1, q2, q3, q4, q5, q6, q7, q8, q9⟩ := Cond.laysStatic_spec hl
  obtain ⟨k', hi', he⟩ := State.fieldFound?_setVm hal q2
  have hx : x < s.heap.size := (Array.getElem?_eq_some_iff.mp q5).1
  have hfU : U.fieldFound? C n dsc = some (c, k', i, f) := by simpa only [State.fieldFound?, State.vm_setVm] using hi'
  have hsU : k'.statics = some x := by rw [he]; exact q4
  have hcU : U.heap[x]? = some cell := by rw [hold x hx]; exact q5
  have e1 : (Term.static C n dsc).eval a1 s none [] s = cell.slots[f.slot]? := by
    simp [Term.eval, State.fieldNamed?, q2, q3, q4, q5, q6]
  have e2 : (Term.static C n dsc).eval a2 U none [] U = cell.slots[f.slot]? := by
    simp [Term.eval, State.fieldNamed?, hfU, q3, hsU, hcU, q6]
  simp only [Cond.before, Cond.holds, Cond.value, e1] at hr
  simp only [Cond.before, Cond.holds, Cond.value, e2]
  exact hr
/-- the frame as if the method had been called just now -/
theorem ev_anew {p : Program} {l : Launch} {e : Env} {R R' : Room} {s : State} {m : MethodId} {args : Array Value} {below : List Frame} {meth : Method} {c : Code} {T : State} {locs : List Loc} {cells slots : Nat} (X : Stand p l e R s m args below meth c T locs cells slots)
    (hf : R'.frames ≤ R.frames) (hl : R'.locals ≤ R.locals) (hc : cells + R'.cells ≤ R.cells) (hs : slots + R'.slots ≤ R.slots) : Stand p l e R' ((T.setVm s.vm).setFrames (.invoking m args :: below)) m args below meth c T [] 0 0 := by
  obtain ⟨g0, hg0⟩ := X.frames_eq
  have hg1 : (T.setVm s.vm).frames = .java g0 :: below := hg0
  have hF : ((T.setVm s.vm).setFrames (.invoking m args :: below)).frames = .invoking m args :: below := State.frames_setFrames _ (State.cur_lt_of_frames hg1)
  have e1 : e.platform.stackLimits (T.setVm s.vm).me = e.platform.stackLimits s.me := X.limits
  have e2 : (T.setVm s.vm).me.stackBytes = s.me.stackBytes := X.bytes
  have hU : ((T.setVm s.vm).setFrames (.invoking m args :: below)).localsInUse = s.localsInUse := by
    rw [State.localsInUse_invoking hF (meth := meth) (c := c) X.method X.code, State.localsInUse_invoking X.frames X.method X.code]
  have hz := X.heapSize
  have hu := X.used
  have hb := X.book
  have hr := X.room
  simp only [State.hasRoom, Bool.and_eq_true, decide_eq_true_eq] at hr
  obtain ⟨⟨⟨⟨r1, r2, r3, r4, r5, r6⟩, r7⟩, r8⟩, -⟩ := hr
  rw [X.frames, List.length_cons] at r2 r3
  refine ⟨X.admits, X.cas, X.clock, hF, ?_, X.hears, X.method, X.code, X.here, X.tail, X.warmed, ?_, ?_, ?_⟩
  · simp only [State.hasRoom, Bool.and_eq_true, decide_eq_true_eq, hF, hU, List.length_cons, State.stackLimits_setFrames, State.stackBytes_setFrames, e1, e2]
    refine ⟨⟨⟨⟨by omega, by omega, by omega, by omega, by omega, r6⟩, ?_⟩, ?_⟩, hb⟩
    · show T.heap.size + R'.cells ≤ e.platform.maxCells
      omega
    · show T.slotsUsed + R'.slots ≤ e.platform.maxSlots
      omega
  · rw [State.stackLimits_setFrames]; rfl
  · rw [State.stackBytes_setFrames]; rfl
  · have hd : T.heap.toList.drop T.heap.size = [] := List.drop_eq_nil_of_le (Nat.le_of_eq Array.length_toList)
    refine ⟨?_, Nat.le_refl _, Nat.le_refl _, ?_, ?_, fun x c9 h9 => ⟨c9, h9, rfl, rfl, fun _ _ => rfl⟩⟩
    · obtain ⟨t, ht, -⟩ := State.frames_cons hg1
      show T.setVm s.vm = { ((T.setVm s.vm).setFrames (.invoking m args :: below)).setFrames (T.setVm s.vm).frames with heap := T.heap, slotsUsed := T.slotsUsed }
      rw [State.setFrames_setFrames, State.setFrames_self ht]
      rfl
    · show T.slotsUsed = T.slotsUsed + ((T.heap.toList.drop T.heap.size).map (·.slots.size)).sum
      rw [hd]; rfl
    · show ((T.heap.toList.drop T.heap.size).map (·.slots.size)).sum ≤ 0
      rw [hd]; exact Nat.le_refl _
/-- where nothing was written, every cell is as it was -/
theorem ev_same {s U : State} {k n : Nat} (hs : s.sameButNew ({ U with vm := s.vm } : State) [] k n) : s.heap.size ≤ U.heap.size ∧ U.heap.size ≤ s.heap.size + k ∧ ∀ q : Nat, q < s.heap.size → U.heap[q]? = s.heap[q]? := by
  obtain ⟨-, h2, h3, -, -, h6⟩ := hs
  refine ⟨h2, h3, fun q hq => ?_⟩
  obtain ⟨c9, e1, e2, e3, e4⟩ := h6 q _ (Array.getElem?_eq_getElem hq)
  have e5 : c9.slots = (s.heap[q]).slots := Array.ext_getElem? fun i => e4 i (fun hm => by cases hm)
  have e6 : c9 = s.heap[q] := by rw [e5] at e2; exact e2
  have e7 : U.heap[q]? = some c9 := e1
  rw [e7, e6, Array.getElem?_eq_getElem hq]
theorem ev_throw (ok : ev_ok w) (hsp : ∀ x ∈ ev_sp, x.before w.2.2.1 w.2.1 = true) (hM : ev_dec M = true) {ik is ic ce a3 b3 a4 b4 a6 b6 a9 b9 : Nat} {q : vw_C} {tx : String} (hq : ev_cl[ce]? = some q) (hq0 : q.2.2 = 0) (hqs : ev_sz ce = 6)
    (i0 : ev_ins M pc = some (.new ik, ce, b)) (i3 : ev_ins M (pc + 3) = some (.dup, a3, b3)) (i4 : ev_ins M (pc + 4) = some (.ldc is, a4, b4)) (i6 : ev_ins M (pc + 6) = some (.invokespecial ic, a6, b6)) (i9 : ev_ins M (pc + 9) = some (.athrow, a9, b9))
    (hw : ev_thw M.1.cls ik is ic q.1 tx = true) (hh : ∀ z ∈ M.2.2.2.2.1, (decide (z.1 ≤ pc + 9) && decide (pc + 9 < z.2.1)) = false) (hdf : 6 ≤ d.1) (hgs : (st.map fun v => v.category).sum + 82 ≤ d.2)
    (h1 : h.length + 1 ≤ w.2.2.2.2.2.2.1) (h2 : ev_cost h + 6 ≤ w.2.2.2.2.2.2.2.1) (hQ : Q (.inr h.length) (h ++ [.inr (ce, [])])) : ev_G w M d h0 Q pc L st h := by
  intro p e R s m args below meth c H locs ls C T hT X
  have hW := C.1.warm
  have hsz := ev_size C hT X
  have hb := C.1.2.1
  have hexec := C.1.1
  obtain ⟨r1, r2⟩ := C.room h1 h2
  obtain ⟨f1, f2, -, -⟩ := C.2.2.1
  have hlsz : ls.size = c.maxLocals := by rw [C.1.2.2.1]; exact C.2.2.2.2.2.1.1.1
  have htr : e.platform.stackTraces = false := (show e.platform.stackTraces = w.1.stackTraces by rw [X.admits.platform]).trans ok.2.2.1
  have Y := ev_anew X (R' := { frames := R.frames, locals := R.locals, cells := 1, slots := 6 }) (Nat.le_refl _) (Nat.le_refl _) r1 r2
  obtain ⟨s', hs'⟩ : ∃ z, z = (T.setVm s.vm).setFrames (.invoking m args :: below) := ⟨_, rfl⟩
  rw [← hs'] at Y
  have hvm : s'.vm = s.vm := by rw [hs']; rfl
  have hhp : s'.heap = H := by rw [hs']; exact hT
  have hW' : w.2.1.WarmedH s'.vm := by rw [hvm]; exact hW
  have hrep := ev_rep_of C hsz hhp
  have hold : ∀ x : Nat, x < w.2.1.heap.size → s'.heap[x]? = w.2.1.heap[x]? := hrep.2.2
  simp only [ev_thw, Bool.and_eq_true, decide_eq_true_eq] at hw
  obtain ⟨⟨⟨⟨hat, hk⟩, hini⟩, hstr⟩, hfit⟩ := hw
  have hlU := hsp (.laysStatic Bundle.tN "UNASSIGNED_STACK" Bundle.steD) (by simp [ev_sp])
  have hlS := hsp (.laysStatic Bundle.tN "SUPPRESSED_SENTINEL" Bundle.listD) (by simp [ev_sp])
  have hat' : ∀ x ∈ Bundle.ownAtoms M.1.cls ic q.1 ev_names, x.before args s' = true := by
    intro x hx
    have h3 := List.all_eq_true.mp (ev_thL_ok _ hat) x hx
    simp only [Bool.or_eq_true, decide_eq_true_eq] at h3
    rcases h3 with h3 | h3
    · exact ev_word ok hW' h3 args
    · simp only [ev_sp, List.mem_cons, List.not_mem_nil, or_false] at h3
      rcases h3 with rfl | rfl | rfl | rfl
      · exact ev_statR hW'.alike hold hlU (hsp _ (by simp [ev_sp]))
      · exact ev_statR hW'.alike hold hlS (hsp _ (by simp [ev_sp]))
      · exact ev_stat hW'.alike hold hlU
      · exact ev_stat hW'.alike hold hlS
  have hown' : s'.vm.findClass M.1.cls = some m.cls := by rw [hvm]; exact C.1.own
  have hins : (Cond.instantiable q.1 6).before args s' = true := hat' _ (by simp [Bundle.ownAtoms])
  have d0 : decode c.code pc = .ok (.new ik, 3) := by rw [hb]; exact ev_dec_at hM i0
  have d3 : decode c.code (pc + 3) = .ok (.dup, 1) := by rw [hb]; exact ev_dec_at hM i3
  have d4 : decode c.code (pc + 4) = .ok (.ldc is, 2) := by rw [hb]; exact ev_dec_at hM i4
  have d6 : decode c.code (pc + 6) = .ok (.invokespecial ic, 3) := by rw [hb]; exact ev_dec_at hM i6
  have d9 : decode c.code (pc + 9) = .ok (.athrow, 1) := by rw [hb]; exact ev_dec_at hM i9
  have hstr0 : (Cond.stringRef M.1.cls is tx).before w.2.2.1 w.2.1 = true := ok.1 _ hstr
  obtain ⟨cown0, hcown0⟩ : ∃ z, w.2.1.vm.findClass M.1.cls = some z := ⟨m.cls, by rw [← hW'.alike.findClass]; exact hown'⟩
  obtain ⟨-, -, -, sa, -, -, -, -, -, hev⟩ := Cond.stringRef_spec hcown0 hstr0
  have hv := vk_R.warm hW' (vk_R.of hstr0 hev)
  obtain ⟨vm₁, cX, kX, hfX, hkX, -, -, X₁, st1⟩ := Y.newCold hexec (own := M.1.cls) (C := q.1) (index := ik) (n := 6) hown' (ev_word ok hW' hk args) hins (ev_word ok hW' hini args)
    (g := F0 m pc ls (st.map (ev_v w))) rfl d0 (Nat.le_refl _) (Nat.le_refl _)
  generalize hT1 : (T.setVm vm₁).pushCell { cls := cX, slots := kX.instanceTypes.map defaultValue, vm := .none } = T1 at X₁ st1
  have hcat : (Value.ref T.heap.size).category = 1 := rfl
  have hcellA : T1.heap[T.heap.size]? = some (freshCell cX kX) := by rw [← hT1]; exact State.heap_pushCell_size _ _
  obtain ⟨U, hsteps, hrun, hend, hWU, hsame, cE, hcE, hO⟩ := X₁.ctorThrowS hexec htr (own := M.1.cls) (cls := q.1) (names := ev_names) (ic := ic) hown' hfit (by decide) hat' (fun x hx => by cases hx) hfX hkX hcellA (by rw [hhp, hT]; exact Nat.le_refl _) (msg := .ref sa) rfl
    (g := { method := m, pc := pc + 6, locals := ls, stack := .ref sa :: .ref T.heap.size :: .ref T.heap.size :: st.map (ev_v w), locked := none }) rfl hlsz rfl rfl (rest := st.map (ev_v w)) rfl
    d6 d9 (fun x hx => by
      have h3 := hh (x.startPc, x.endPc, x.handlerPc, x.catchType) (by rw [← C.1.2.2.2.2.2.2.2.1]; exact List.mem_map.mpr ⟨x, hx, rfl⟩)
      simpa [covers] using h3)
    (by show ev_names.length + 3 < R.frames; simp only [ev_names, List.length_cons, List.length_nil]; omega)
    (by
      show 2 * 0 + ((Value.ref T.heap.size :: st.map (ev_v w)).map fun v => v.category).sum + (13 * (ev_names.length + 1) + 42) ≤ R.locals
      simp only [List.map_cons, List.sum_cons, hcat, ev_catsum, ev_names, List.length_cons, List.length_nil]; omega) C.1.2.2.2.2.1
  obtain ⟨z1, z2, z3⟩ := ev_same hsame
  rw [hhp] at z1 z2 z3
  have hTs : T.heap.size = ev_base w + h.length := by rw [hT]; exact hsz
  have hUlt : T.heap.size < U.heap.size := (Array.getElem?_eq_some_iff.mp hcE).1
  have hWs : s.WarmedH U.vm := by
    have h3 : s'.WarmedH U.vm := hWU
    have h4 : s.WarmedH s'.vm := by rw [hvm]; exact State.WarmedH.refl s
    exact State.WarmedH.trans h4 h3
  have hfE : s.vm.findClass q.1 = some cE.cls := by
    have h3 := hO.cls
    rw [hvm] at h3
    exact h3
  have hK := va_K.moved hW.alike ok.2.1
  have hD1 : w.2.2.2.1.1 ce = cE.cls := Option.some.inj ((hK.1 ce q hq).2.1.symm.trans hfE)
  have hrepU : ev_rep w (h ++ [.inr (ce, [])]) U.heap := by
    refine ⟨?_, ?_, fun x hx => ?_⟩
    · rw [ev_ws_app]
      refine va_P.app ((C.2.2.2.1).kept (fun k z hz => z3 z.1 ((C.2.2.2.1 k z hz).lt))) (fun k z hz => ?_)
      have hk0 : k = 0 := by
        have := (List.getElem?_eq_some_iff.mp hz).1
        simp at this; omega
      subst hk0
      cases hz
      refine ⟨q, hq, cE, ?_, hD1.symm, hO.vm, fun j hj => ?_⟩
      · show U.heap[ev_base w + h.length]? = some cE
        rw [← hTs]; exact hcE
      · rw [hq0] at hj; omega
    · rw [List.length_append, List.length_singleton]; omega
    · rw [z3 x (by omega)]
      rw [← hhp]
      exact hold x hx
  have hall : s.sameButNew ({ U with vm := s.vm } : State) locs (h.length - h0.length + 1) (ev_cost h - ev_cost h0 + 6) := by
    have h3 : s'.sameButNew ({ U with vm := s'.vm } : State) [] 1 6 := hsame
    rw [hvm] at h3
    subst hs'
    obtain ⟨q1, q2⟩ := h3
    rw [State.setFrames_setFrames] at q1
    have h4 : (T.setVm s.vm).sameButNew ({ U with vm := s.vm } : State) [] 1 6 := ⟨q1, q2⟩
    have h5 := X.same.trans h4
    rw [List.append_nil] at h5
    exact h5
  obtain ⟨-, -, -, -, c5, -, c7, c8, c9, c10⟩ := C
  have e1 : (h ++ [(.inr (ce, []) : ev_E)]).length - h0.length = h.length - h0.length + 1 := by rw [List.length_append, List.length_singleton]; omega
  have e2 : ev_c1 (.inr (ce, [])) = 6 := hqs
  have e3 : ev_cost (h ++ [(.inr (ce, []) : ev_E)]) - ev_cost h0 = ev_cost h - ev_cost h0 + 6 := by rw [ev_cost_app, e2]; omega
  refine ⟨U, ?_, .threw T.heap.size, hrun, hend, .inr h.length, h ++ [.inr (ce, [])], hQ, ⟨by rw [hTs], ce, by simp⟩, hrepU, by rw [List.length_append]; omega, by rw [ev_cost_app]; omega, by rw [List.length_append]; exact h1, by rw [ev_cost_app, e2]; exact h2, hWs, locs, by rw [e1, e3]; exact hall, ?_⟩
  · refine st1 _ ?_
    show Steps p.tables e below (T1.setTop { method := m, pc := pc + 3, locals := ls, stack := .ref T.heap.size :: st.map (ev_v w), locked := none }) _
    jvm_step X₁.here [X₁.here.top, hexec, d3, Value.category]
    exact X₁.ldcString hexec (own := M.1.cls) (text := tx) (index := is) (a := sa) hown' hv.1 hv.2
      (g := { method := m, pc := pc + 4, locals := ls, stack := .ref T.heap.size :: .ref T.heap.size :: st.map (ev_v w), locked := none }) rfl d4 _ hsteps
  · exact c5.2.2
theorem ev_throwW (ok : ev_ok w) (hsp : ∀ x ∈ ev_sp, x.before w.2.2.1 w.2.1 = true) (hM : ev_dec M = true) {ik is ic ce a3 b3 a4 b4 a6 b6 a9 b9 : Nat} {q : vw_C} {tx : String} (hq : ev_cl[ce]? = some q) (hq0 : q.2.2 = 0) (hqs : ev_sz ce = 6)
    (i0 : ev_ins M pc = some (.new ik, ce, b)) (i3 : ev_ins M (pc + 3) = some (.dup, a3, b3)) (i4 : ev_ins M (pc + 4) = some (.ldc_w is, a4, b4)) (i6 : ev_ins M (pc + 7) = some (.invokespecial ic, a6, b6)) (i9 : ev_ins M (pc + 10) = some (.athrow, a9, b9))
    (hw : ev_thw M.1.cls ik is ic q.1 tx = true) (hh : ∀ z ∈ M.2.2.2.2.1, (decide (z.1 ≤ pc + 10) && decide (pc + 10 < z.2.1)) = false) (hdf : 6 ≤ d.1) (hgs : (st.map fun v => v.category).sum + 82 ≤ d.2)
    (h1 : h.length + 1 ≤ w.2.2.2.2.2.2.1) (h2 : ev_cost h + 6 ≤ w.2.2.2.2.2.2.2.1) (hQ : Q (.inr h.length) (h ++ [.inr (ce, [])])) : ev_G w M d h0 Q pc L st h := by
  intro p e R s m args below meth c H locs ls C T hT X
  have hW := C.1.warm
  have hsz := ev_size C hT X
  have hb := C.1.2.1
  have hexec := C.1.1
  obtain ⟨r1, r2⟩ := C.room h1 h2
  obtain ⟨f1, f2, -, -⟩ := C.2.2.1
  have hlsz : ls.size = c.maxLocals := by rw [C.1.2.2.1]; exact C.2.2.2.2.2.1.1.1
  have htr : e.platform.stackTraces = false := (show e.platform.stackTraces = w.1.stackTraces by rw [X.admits.platform]).trans ok.2.2.1
  have Y := ev_anew X (R' := { frames := R.frames, locals := R.locals, cells := 1, slots := 6 }) (Nat.le_refl _) (Nat.le_refl _) r1 r2
  obtain ⟨s', hs'⟩ : ∃ z, z = (T.setVm s.vm).setFrames (.invoking m args :: below) := ⟨_, rfl⟩
  rw [← hs'] at Y
  have hvm : s'.vm = s.vm := by rw [hs']; rfl
  have hhp : s'.heap = H := by rw [hs']; exact hT
  have hW' : w.2.1.WarmedH s'.vm := by rw [hvm]; exact hW
  have hrep := ev_rep_of C hsz hhp
  have hold : ∀ x : Nat, x < w.2.1.heap.size → s'.heap[x]? = w.2.1.heap[x]? := hrep.2.2
  simp only [ev_thw, Bool.and_eq_true, decide_eq_true_eq] at hw
  obtain ⟨⟨⟨⟨hat, hk⟩, hini⟩, hstr⟩, hfit⟩ := hw
  have hlU := hsp (.laysStatic Bundle.tN "UNASSIGNED_STACK" Bundle.steD) (by simp [ev_sp])
  have hlS := hsp (.laysStatic Bundle.tN "SUPPRESSED_SENTINEL" Bundle.listD) (by simp [ev_sp])
  have hat' : ∀ x ∈ Bundle.ownAtoms M.1.cls ic q.1 ev_names, x.before args s' = true := by
    intro x hx
    have h3 := List.all_eq_true.mp (ev_thL_ok _ hat) x hx
    simp only [Bool.or_eq_true, decide_eq_true_eq] at h3
    rcases h3 with h3 | h3
    · exact ev_word ok hW' h3 args
    · simp only [ev_sp, List.mem_cons, List.not_mem_nil, or_false] at h3
      rcases h3 with rfl | rfl | rfl | rfl
      · exact ev_statR hW'.alike hold hlU (hsp _ (by simp [ev_sp]))
      · exact ev_statR hW'.alike hold hlS (hsp _ (by simp [ev_sp]))
      · exact ev_stat hW'.alike hold hlU
      · exact ev_stat hW'.alike hold hlS
  have hown' : s'.vm.findClass M.1.cls = some m.cls := by rw [hvm]; exact C.1.own
  have hins : (Cond.instantiable q.1 6).before args s' = true := hat' _ (by simp [Bundle.ownAtoms])
  have d0 : decode c.code pc = .ok (.new ik, 3) := by rw [hb]; exact ev_dec_at hM i0
  have d3 : decode c.code (pc + 3) = .ok (.dup, 1) := by rw [hb]; exact ev_dec_at hM i3
  have d4 : decode c.code (pc + 4) = .ok (.ldc_w is, 3) := by rw [hb]; exact ev_dec_at hM i4
  have d6 : decode c.code (pc + 7) = .ok (.invokespecial ic, 3) := by rw [hb]; exact ev_dec_at hM i6
  have d9 : decode c.code (pc + 10) = .ok (.athrow, 1) := by rw [hb]; exact ev_dec_at hM i9
  have hstr0 : (Cond.stringRef M.1.cls is tx).before w.2.2.1 w.2.1 = true := ok.1 _ hstr
  obtain ⟨cown0, hcown0⟩ : ∃ z, w.2.1.vm.findClass M.1.cls = some z := ⟨m.cls, by rw [← hW'.alike.findClass]; exact hown'⟩
  obtain ⟨-, -, -, sa, -, -, -, -, -, hev⟩ := Cond.stringRef_spec hcown0 hstr0
  have hv := vk_R.warm hW' (vk_R.of hstr0 hev)
  obtain ⟨vm₁, cX, kX, hfX, hkX, -, -, X₁, st1⟩ := Y.newCold hexec (own := M.1.cls) (C := q.1) (index := ik) (n := 6) hown' (ev_word ok hW' hk args) hins (ev_word ok hW' hini args)
    (g := F0 m pc ls (st.map (ev_v w))) rfl d0 (Nat.le_refl _) (Nat.le_refl _)
  generalize hT1 : (T.setVm vm₁).pushCell { cls := cX, slots := kX.instanceTypes.map defaultValue, vm := .none } = T1 at X₁ st1
  have hcat : (Value.ref T.heap.size).category = 1 := rfl
  have hcellA : T1.heap[T.heap.size]? = some (freshCell cX kX) := by rw [← hT1]; exact State.heap_pushCell_size _ _
  obtain ⟨U, hsteps, hrun, hend, hWU, hsame, cE, hcE, hO⟩ := X₁.ctorThrowS hexec htr (own := M.1.cls) (cls := q.1) (names := ev_names) (ic := ic) hown' hfit (by decide) hat' (fun x hx => by cases hx) hfX hkX hcellA (by rw [hhp, hT]; exact Nat.le_refl _) (msg := .ref sa) rfl
    (g := { method := m, pc := pc + 7, locals := ls, stack := .ref sa :: .ref T.heap.size :: .ref T.heap.size :: st.map (ev_v w), locked := none }) rfl hlsz rfl rfl (rest := st.map (ev_v w)) rfl
    d6 d9 (fun x hx => by
      have h3 := hh (x.startPc, x.endPc, x.handlerPc, x.catchType) (by rw [← C.1.2.2.2.2.2.2.2.1]; exact List.mem_map.mpr ⟨x, hx, rfl⟩)
      simpa [covers] using h3)
    (by show ev_names.length + 3 < R.frames; simp only [ev_names, List.length_cons, List.length_nil]; omega)
    (by
      show 2 * 0 + ((Value.ref T.heap.size :: st.map (ev_v w)).map fun v => v.category).sum + (13 * (ev_names.length + 1) + 42) ≤ R.locals
      simp only [List.map_cons, List.sum_cons, hcat, ev_catsum, ev_names, List.length_cons, List.length_nil]; omega) C.1.2.2.2.2.1
  obtain ⟨z1, z2, z3⟩ := ev_same hsame
  rw [hhp] at z1 z2 z3
  have hTs : T.heap.size = ev_base w + h.length := by rw [hT]; exact hsz
  have hUlt : T.heap.size < U.heap.size := (Array.getElem?_eq_some_iff.mp hcE).1
  have hWs : s.WarmedH U.vm := by
    have h3 : s'.WarmedH U.vm := hWU
    have h4 : s.WarmedH s'.vm := by rw [hvm]; exact State.WarmedH.refl s
    exact State.WarmedH.trans h4 h3
  have hfE : s.vm.findClass q.1 = some cE.cls := by
    have h3 := hO.cls
    rw [hvm] at h3
    exact h3
  have hK := va_K.moved hW.alike ok.2.1
  have hD1 : w.2.2.2.1.1 ce = cE.cls := Option.some.inj ((hK.1 ce q hq).2.1.symm.trans hfE)
  have hrepU : ev_rep w (h ++ [.inr (ce, [])]) U.heap := by
    refine ⟨?_, ?_, fun x hx => ?_⟩
    · rw [ev_ws_app]
      refine va_P.app ((C.2.2.2.1).kept (fun k z hz => z3 z.1 ((C.2.2.2.1 k z hz).lt))) (fun k z hz => ?_)
      have hk0 : k = 0 := by
        have := (List.getElem?_eq_some_iff.mp hz).1
        simp at this; omega
      subst hk0
      cases hz
      refine ⟨q, hq, cE, ?_, hD1.symm, hO.vm, fun j hj => ?_⟩
      · show U.heap[ev_base w + h.length]? = some cE
        rw [← hTs]; exact hcE
      · rw [hq0] at hj; omega
    · rw [List.length_append, List.length_singleton]; omega
    · rw [z3 x (by omega)]
      rw [← hhp]
      exact hold x hx
  have hall : s.sameButNew ({ U with vm := s.vm } : State) locs (h.length - h0.length + 1) (ev_cost h - ev_cost h0 + 6) := by
    have h3 : s'.sameButNew ({ U with vm := s'.vm } : State) [] 1 6 := hsame
    rw [hvm] at h3
    subst hs'
    obtain ⟨q1, q2⟩ := h3
    rw [State.setFrames_setFrames] at q1
    have h4 : (T.setVm s.vm).sameButNew ({ U with vm := s.vm } : State) [] 1 6 := ⟨q1, q2⟩
    have h5 := X.same.trans h4
    rw [List.append_nil] at h5
    exact h5
  obtain ⟨-, -, -, -, c5, -, c7, c8, c9, c10⟩ := C
  have e1 : (h ++ [(.inr (ce, []) : ev_E)]).length - h0.length = h.length - h0.length + 1 := by rw [List.length_append, List.length_singleton]; omega
  have e2 : ev_c1 (.inr (ce, [])) = 6 := hqs
  have e3 : ev_cost (h ++ [(.inr (ce, []) : ev_E)]) - ev_cost h0 = ev_cost h - ev_cost h0 + 6 := by rw [ev_cost_app, e2]; omega
  refine ⟨U, ?_, .threw T.heap.size, hrun, hend, .inr h.length, h ++ [.inr (ce, [])], hQ, ⟨by rw [hTs], ce, by simp⟩, hrepU, by rw [List.length_append]; omega, by rw [ev_cost_app]; omega, by rw [List.length_append]; exact h1, by rw [ev_cost_app, e2]; exact h2, hWs, locs, by rw [e1, e3]; exact hall, ?_⟩
  · refine st1 _ ?_
    show Steps p.tables e below (T1.setTop { method := m, pc := pc + 3, locals := ls, stack := .ref T.heap.size :: st.map (ev_v w), locked := none }) _
    jvm_step X₁.here [X₁.here.top, hexec, d3, Value.category]
    exact ldcStringW X₁ hexec (own := M.1.cls) (text := tx) (index := is) (a := sa) hown' hv.1 hv.2
      (g := { method := m, pc := pc + 4, locals := ls, stack := .ref T.heap.size :: .ref T.heap.size :: st.map (ev_v w), locked := none }) rfl d4 _ hsteps
  · exact c5.2.2
end EvThrow
end
section
/-! the methods: name, code, locals, what they return, handlers, and their listings with links; then the program, the methods' classes, their needs of room -/
/-- java/lang/Math.min(II)I -/
def ev_m0 : ev_M := (⟨"java/lang/Math", "min", "(II)I"⟩, prog_17_method_69_code, 2, some .int, [],
  [(0, .iload_n 0, 0, 0), (1, .iload_n 1, 0, 0), (2, .if_icmp .gt 7, 0, 0), (5, .iload_n 0, 0, 0), (6, .goto 4, 0, 0), (9, .iload_n 1, 0, 0), (10, .ireturn, 0, 0)])
/-- java/lang/Math.max(II)I -/
def ev_m1 : ev_M := (⟨"java/lang/Math", "max", "(II)I"⟩, prog_17_method_65_code, 2, some .int, [],
  [(0, .iload_n 0, 0, 0), (1, .iload_n 1, 0, 0), (2, .if_icmp .lt 7, 0, 0), (5, .iload_n 0, 0, 0), (6, .goto 4, 0, 0), (9, .iload_n 1, 0, 0), (10, .ireturn, 0, 0)])
/-- java/util/Arrays.fill([II)V -/
def ev_m2 : ev_M := (⟨"java/util/Arrays", "fill", "([II)V"⟩, prog_22_method_103_code, 4, none, [],
  [(0, .iconst 0, 0, 0), (1, .istore_n 2, 0, 0), (2, .aload_n 0, 0, 0), (3, .arraylength, 0, 0), (4, .istore_n 3, 0, 0), (5, .iload_n 2, 0, 0), (6, .iload_n 3, 0, 0), (7, .if_icmp .ge 13, 0, 0), (10, .aload_n 0, 0, 0), (11, .iload_n 2, 0, 0), (12, .iload_n 1, 0, 0), (13, .iastore, 0, 0), (14, .iinc 2 1, 0, 0), (17, .goto (-12), 0, 0), (20, .return_, 0, 0)])
/-- WitnessBench$Letters.<init>(I)V -/
def ev_m3 : ev_M := (⟨"WitnessBench$Letters", "<init>", "(I)V"⟩, prog_5_method_1_code, 2, none, [],
  [(0, .aload_n 0, 0, 0), (1, .invokespecial 3, 999, 0), (4, .aload_n 0, 0, 0), (5, .iload_n 1, 0, 0), (6, .newarray .char, 0, 0), (8, .putfield 9, 0, 0), (11, .return_, 0, 0)])
/-- WitnessBench$Letters.isGap()Z -/
def ev_m4 : ev_M := (⟨"WitnessBench$Letters", "isGap", "()Z"⟩, prog_5_method_3_code, 1, some .boolean, [],
  [(0, .aload_n 0, 0, 0), (1, .getfield 15, 0, 1), (4, .iconst (-1), 0, 0), (5, .if_icmp .ne 7, 0, 0), (8, .iconst 1, 0, 0), (9, .goto 4, 0, 0), (12, .iconst 0, 0, 0), (13, .ireturn, 0, 0)])
/-- WitnessBench$Letters.size()I -/
def ev_m5 : ev_M := (⟨"WitnessBench$Letters", "size", "()I"⟩, prog_5_method_2_code, 1, some .int, [],
  [(0, .aload_n 0, 0, 0), (1, .getfield 15, 0, 1), (4, .ireturn, 0, 0)])
/-- WitnessBench$Letters.letter(I)C -/
def ev_m6 : ev_M := (⟨"WitnessBench$Letters", "letter", "(I)C"⟩, prog_5_method_4_code, 2, some .char, [],
  [(0, .aload_n 0, 0, 0), (1, .getfield 9, 0, 0), (4, .iload_n 1, 0, 0), (5, .caload, 0, 0), (6, .ireturn, 0, 0)])
/-- WitnessBench$Letters.keep(I)V -/
def ev_m7 : ev_M := (⟨"WitnessBench$Letters", "keep", "(I)V"⟩, prog_5_method_5_code, 2, none, [],
  [(0, .aload_n 0, 0, 0), (1, .iload_n 1, 0, 0), (2, .putfield 15, 0, 1), (5, .return_, 0, 0)])
/-- WitnessBench$Letters.standsIn(LWitnessBench$Letters;I)Z -/
def ev_m8 : ev_M := (⟨"WitnessBench$Letters", "standsIn", "(LWitnessBench$Letters;I)Z"⟩, prog_5_method_11_code, 4, some .boolean, [],
  [(0, .iload_n 2, 0, 0), (1, .aload_n 0, 0, 0), (2, .getfield 15, 0, 1), (5, .iadd, 0, 0), (6, .aload_n 1, 0, 0), (7, .getfield 15, 0, 1), (10, .if_icmp .le 5, 0, 0), (13, .iconst 0, 0, 0), (14, .ireturn, 0, 0), (15, .iconst 0, 0, 0), (16, .istore_n 3, 0, 0), (17, .iload_n 3, 0, 0), (18, .aload_n 0, 0, 0), (19, .getfield 15, 0, 1), (22, .if_icmp .ge 28, 0, 0), (25, .aload_n 0, 0, 0), (26, .getfield 9, 0, 0), (29, .iload_n 3, 0, 0), (30, .caload, 0, 0), (31, .aload_n 1, 0, 0), (32, .getfield 9, 0, 0), (35, .iload_n 2, 0, 0), (36, .iload_n 3, 0, 0), (37, .iadd, 0, 0), (38, .caload, 0, 0), (39, .if_icmp .eq 5, 0, 0), (42, .iconst 0, 0, 0), (43, .ireturn, 0, 0), (44, .iinc 3 1, 0, 0), (47, .goto (-30), 0, 0), (50, .iconst 1, 0, 0), (51, .ireturn, 0, 0)])
/-- WitnessBench$Letters.add(C)V -/
def ev_m9 : ev_M := (⟨"WitnessBench$Letters", "add", "(C)V"⟩, prog_5_method_6_code, 2, none, [],
  [(0, .aload_n 0, 0, 0), (1, .getfield 15, 0, 1), (4, .ifCond .lt 35, 0, 0), (7, .aload_n 0, 0, 0), (8, .getfield 15, 0, 1), (11, .aload_n 0, 0, 0), (12, .getfield 9, 0, 0), (15, .arraylength, 0, 0), (16, .if_icmp .ge 23, 0, 0), (19, .aload_n 0, 0, 0), (20, .getfield 9, 0, 0), (23, .aload_n 0, 0, 0), (24, .getfield 15, 0, 1), (27, .iload_n 1, 0, 0), (28, .castore, 0, 0), (29, .aload_n 0, 0, 0), (30, .dup, 0, 0), (31, .getfield 15, 0, 1), (34, .iconst 1, 0, 0), (35, .iadd, 0, 0), (36, .putfield 15, 0, 1), (39, .return_, 0, 0)])
/-- WitnessBench$Letters.addPart(LWitnessBench$Letters;II)V -/
def ev_m10 : ev_M := (⟨"WitnessBench$Letters", "addPart", "(LWitnessBench$Letters;II)V"⟩, prog_5_method_7_code, 5, none, [],
  [(0, .iload_n 2, 0, 0), (1, .istore 4, 0, 0), (3, .iload 4, 0, 0), (5, .iload_n 3, 0, 0), (6, .if_icmp .ge 20, 0, 0), (9, .aload_n 0, 0, 0), (10, .aload_n 1, 0, 0), (11, .getfield 9, 0, 0), (14, .iload 4, 0, 0), (16, .caload, 0, 0), (17, .invokevirtual 19, 9, 1), (20, .iinc 4 1, 0, 0), (23, .goto (-20), 0, 0), (26, .return_, 0, 0)])
/-- WitnessBench$Letters.becomeGap()V -/
def ev_m11 : ev_M := (⟨"WitnessBench$Letters", "becomeGap", "()V"⟩, prog_5_method_9_code, 1, none, [],
  [(0, .aload_n 0, 0, 0), (1, .iconst (-1), 0, 0), (2, .putfield 15, 0, 1), (5, .return_, 0, 0)])
/-- WitnessBench$Letters.isSame(LWitnessBench$Letters;)Z -/
def ev_m12 : ev_M := (⟨"WitnessBench$Letters", "isSame", "(LWitnessBench$Letters;)Z"⟩, prog_5_method_10_code, 2, some .boolean, [],
  [(0, .aload_n 0, 0, 0), (1, .getfield 15, 0, 1), (4, .aload_n 1, 0, 0), (5, .getfield 15, 0, 1), (8, .if_icmp .ne 16, 0, 0), (11, .aload_n 0, 0, 0), (12, .aload_n 1, 0, 0), (13, .iconst 0, 0, 0), (14, .invokevirtual 34, 8, 2), (17, .ifCond .eq 7, 0, 0), (20, .iconst 1, 0, 0), (21, .goto 4, 0, 0), (24, .iconst 0, 0, 0), (25, .ireturn, 0, 0)])
/-- WitnessBench$Letters.become(LWitnessBench$Letters;)V -/
def ev_m13 : ev_M := (⟨"WitnessBench$Letters", "become", "(LWitnessBench$Letters;)V"⟩, prog_5_method_8_code, 2, none, [],
  [(0, .aload_n 0, 0, 0), (1, .iconst 0, 0, 0), (2, .putfield 15, 0, 1), (5, .aload_n 0, 0, 0), (6, .aload_n 1, 0, 0), (7, .iconst 0, 0, 0), (8, .aload_n 1, 0, 0), (9, .getfield 15, 0, 1), (12, .invokevirtual 23, 10, 3), (15, .aload_n 1, 0, 0), (16, .invokevirtual 27, 4, 0), (19, .ifCond .eq 7, 0, 0), (22, .aload_n 0, 0, 0), (23, .invokevirtual 31, 11, 0), (26, .return_, 0, 0)])
/-- WitnessBench$Rules.<init>()V -/
def ev_m14 : ev_M := (⟨"WitnessBench$Rules", "<init>", "()V"⟩, prog_7_method_1_code, 2, none, [],
  [(0, .aload_n 0, 0, 0), (1, .invokespecial 3, 999, 0), (4, .aload_n 0, 0, 0), (5, .bipush 8, 0, 0), (7, .anewarray 9, 0, 0), (10, .putfield 11, 1, 0), (13, .aload_n 0, 0, 0), (14, .bipush 8, 0, 0), (16, .anewarray 9, 0, 0), (19, .putfield 17, 1, 1), (22, .iconst 0, 0, 0), (23, .istore_n 1, 0, 0), (24, .iload_n 1, 0, 0), (25, .bipush 8, 0, 0), (27, .if_icmp .ge 37, 0, 0), (30, .aload_n 0, 0, 0), (31, .getfield 11, 1, 0), (34, .iload_n 1, 0, 0), (35, .new 9, 0, 0), (38, .dup, 0, 0), (39, .iconst 3, 0, 0), (40, .invokespecial 20, 3, 1), (43, .aastore, 0, 0), (44, .aload_n 0, 0, 0), (45, .getfield 17, 1, 1), (48, .iload_n 1, 0, 0), (49, .new 9, 0, 0), (52, .dup, 0, 0), (53, .iconst 2, 0, 0), (54, .invokespecial 20, 3, 1), (57, .aastore, 0, 0), (58, .iinc 1 1, 0, 0), (61, .goto (-37), 0, 0), (64, .return_, 0, 0)])
/-- WitnessBench$Rules.bring(LWitnessBench$Letters;LWitnessBench$Letters;)V -/
def ev_m15 : ev_M := (⟨"WitnessBench$Rules", "bring", "(LWitnessBench$Letters;LWitnessBench$Letters;)V"⟩, prog_7_method_4_code, 6, none, [],
  [(0, .aload_n 2, 0, 0), (1, .iconst 0, 0, 0), (2, .invokevirtual 35, 7, 1), (5, .iconst 0, 0, 0), (6, .istore_n 3, 0, 0), (7, .iconst 0, 0, 0), (8, .istore 4, 0, 0), (10, .iload 4, 0, 0), (12, .aload_n 1, 0, 0), (13, .invokevirtual 31, 5, 0), (16, .if_icmp .ge 81, 0, 0), (19, .iload_n 3, 0, 0), (20, .aload_n 1, 0, 0), (21, .invokevirtual 31, 5, 0), (24, .if_icmp .ge 73, 0, 0), (27, .aload_n 0, 0, 0), (28, .aload_n 1, 0, 0), (29, .iload_n 3, 0, 0), (30, .invokevirtual 38, 16, 2), (33, .istore 5, 0, 0), (35, .iload 5, 0, 0), (37, .iconst (-1), 0, 0), (38, .if_icmp .ne 18, 0, 0), (41, .aload_n 2, 0, 0), (42, .aload_n 1, 0, 0), (43, .iload_n 3, 0, 0), (44, .invokevirtual 42, 6, 1), (47, .invokevirtual 46, 9, 1), (50, .iinc 3 1, 0, 0), (53, .goto 38, 0, 0), (56, .aload_n 2, 0, 0), (57, .aload_n 0, 0, 0), (58, .getfield 17, 1, 1), (61, .iload 5, 0, 0), (63, .aaload, 0, 0), (64, .iconst 0, 0, 0), (65, .aload_n 0, 0, 0), (66, .getfield 17, 1, 1), (69, .iload 5, 0, 0), (71, .aaload, 0, 0), (72, .invokevirtual 31, 5, 0), (75, .invokevirtual 27, 10, 3), (78, .iload_n 3, 0, 0), (79, .aload_n 0, 0, 0), (80, .getfield 11, 1, 0), (83, .iload 5, 0, 0), (85, .aaload, 0, 0), (86, .invokevirtual 31, 5, 0), (89, .iadd, 0, 0), (90, .istore_n 3, 0, 0), (91, .iinc 4 1, 0, 0), (94, .goto (-84), 0, 0), (97, .aload_n 1, 0, 0), (98, .invokevirtual 31, 5, 0), (101, .ifCond .ne 7, 0, 0), (104, .aload_n 2, 0, 0), (105, .invokevirtual 50, 11, 0), (108, .return_, 0, 0)])
/-- WitnessBench$Rules.ruleFor(LWitnessBench$Letters;I)I -/
def ev_m16 : ev_M := (⟨"WitnessBench$Rules", "ruleFor", "(LWitnessBench$Letters;I)I"⟩, prog_7_method_5_code, 6, some .int, [],
  [(0, .iconst (-1), 0, 0), (1, .istore_n 3, 0, 0), (2, .iconst 0, 0, 0), (3, .istore 4, 0, 0), (5, .iconst 0, 0, 0), (6, .istore 5, 0, 0), (8, .iload 5, 0, 0), (10, .aload_n 0, 0, 0), (11, .getfield 23, 1, 2), (14, .if_icmp .ge 54, 0, 0), (17, .aload_n 0, 0, 0), (18, .getfield 11, 1, 0), (21, .iload 5, 0, 0), (23, .aaload, 0, 0), (24, .invokevirtual 31, 5, 0), (27, .iload 4, 0, 0), (29, .if_icmp .le 33, 0, 0), (32, .aload_n 0, 0, 0), (33, .getfield 11, 1, 0), (36, .iload 5, 0, 0), (38, .aaload, 0, 0), (39, .aload_n 1, 0, 0), (40, .iload_n 2, 0, 0), (41, .invokevirtual 53, 8, 2), (44, .ifCond .eq 18, 0, 0), (47, .iload 5, 0, 0), (49, .istore_n 3, 0, 0), (50, .aload_n 0, 0, 0), (51, .getfield 11, 1, 0), (54, .iload 5, 0, 0), (56, .aaload, 0, 0), (57, .invokevirtual 31, 5, 0), (60, .istore 4, 0, 0), (62, .iinc 5 1, 0, 0), (65, .goto (-57), 0, 0), (68, .iload_n 3, 0, 0), (69, .ireturn, 0, 0)])
/-- WitnessBench$Rules.count()I -/
def ev_m17 : ev_M := (⟨"WitnessBench$Rules", "count", "()I"⟩, prog_7_method_2_code, 1, some .int, [],
  [(0, .aload_n 0, 0, 0), (1, .getfield 23, 1, 2), (4, .ireturn, 0, 0)])
/-- WitnessBench$Rules.add(LWitnessBench$Letters;I)V -/
def ev_m18 : ev_M := (⟨"WitnessBench$Rules", "add", "(LWitnessBench$Letters;I)V"⟩, prog_7_method_3_code, 3, none, [],
  [(0, .aload_n 0, 0, 0), (1, .getfield 11, 1, 0), (4, .aload_n 0, 0, 0), (5, .getfield 23, 1, 2), (8, .aaload, 0, 0), (9, .aload_n 1, 0, 0), (10, .iconst 0, 0, 0), (11, .iload_n 2, 0, 0), (12, .invokevirtual 27, 10, 3), (15, .aload_n 0, 0, 0), (16, .getfield 17, 1, 1), (19, .aload_n 0, 0, 0), (20, .getfield 23, 1, 2), (23, .aaload, 0, 0), (24, .aload_n 1, 0, 0), (25, .iload_n 2, 0, 0), (26, .aload_n 1, 0, 0), (27, .invokevirtual 31, 5, 0), (30, .invokevirtual 27, 10, 3), (33, .aload_n 0, 0, 0), (34, .dup, 0, 0), (35, .getfield 23, 1, 2), (38, .iconst 1, 0, 0), (39, .iadd, 0, 0), (40, .putfield 23, 1, 2), (43, .return_, 0, 0)])
/-- WitnessBench$Words.<init>()V -/
def ev_m19 : ev_M := (⟨"WitnessBench$Words", "<init>", "()V"⟩, prog_10_method_1_code, 2, none, [],
  [(0, .aload_n 0, 0, 0), (1, .invokespecial 3, 999, 0), (4, .aload_n 0, 0, 0), (5, .bipush 40, 0, 0), (7, .anewarray 9, 0, 0), (10, .putfield 11, 2, 0), (13, .aload_n 0, 0, 0), (14, .bipush 40, 0, 0), (16, .anewarray 9, 0, 0), (19, .putfield 17, 2, 1), (22, .iconst 0, 0, 0), (23, .istore_n 1, 0, 0), (24, .iload_n 1, 0, 0), (25, .bipush 40, 0, 0), (27, .if_icmp .ge 39, 0, 0), (30, .aload_n 0, 0, 0), (31, .getfield 11, 2, 0), (34, .iload_n 1, 0, 0), (35, .new 9, 0, 0), (38, .dup, 0, 0), (39, .bipush 6, 0, 0), (41, .invokespecial 20, 3, 1), (44, .aastore, 0, 0), (45, .aload_n 0, 0, 0), (46, .getfield 17, 2, 1), (49, .iload_n 1, 0, 0), (50, .new 9, 0, 0), (53, .dup, 0, 0), (54, .bipush 12, 0, 0), (56, .invokespecial 20, 3, 1), (59, .aastore, 0, 0), (60, .iinc 1 1, 0, 0), (63, .goto (-39), 0, 0), (66, .aload_n 0, 0, 0), (67, .iconst 4, 0, 0), (68, .newarray .int, 0, 0), (70, .putfield 23, 2, 2), (73, .aload_n 0, 0, 0), (74, .bipush 40, 0, 0), (76, .newarray .int, 0, 0), (78, .putfield 27, 2, 3), (81, .aload_n 0, 0, 0), (82, .bipush 40, 0, 0), (84, .newarray .int, 0, 0), (86, .putfield 30, 2, 4), (89, .aload_n 0, 0, 0), (90, .bipush 6, 0, 0), (92, .newarray .int, 0, 0), (94, .putfield 33, 2, 5), (97, .aload_n 0, 0, 0), (98, .bipush 6, 0, 0), (100, .newarray .int, 0, 0), (102, .putfield 36, 2, 6), (105, .aload_n 0, 0, 0), (106, .bipush 13, 0, 0), (108, .newarray .int, 0, 0), (110, .putfield 39, 2, 8), (113, .return_, 0, 0)])
/-- WitnessBench$Words.areAlike(II)Z -/
def ev_m20 : ev_M := (⟨"WitnessBench$Words", "areAlike", "(II)Z"⟩, prog_10_method_11_code, 3, some .boolean, [],
  [(0, .iload_n 1, 0, 0), (1, .iconst (-1), 0, 0), (2, .if_icmp .eq 8, 0, 0), (5, .iload_n 2, 0, 0), (6, .iconst (-1), 0, 0), (7, .if_icmp .ne 16, 0, 0), (10, .iload_n 1, 0, 0), (11, .iload_n 2, 0, 0), (12, .if_icmp .ne 7, 0, 0), (15, .iconst 1, 0, 0), (16, .goto 27, 0, 0), (19, .iconst 0, 0, 0), (20, .goto 23, 0, 0), (23, .aload_n 0, 0, 0), (24, .getfield 27, 2, 3), (27, .iload_n 1, 0, 0), (28, .iaload, 0, 0), (29, .aload_n 0, 0, 0), (30, .getfield 27, 2, 3), (33, .iload_n 2, 0, 0), (34, .iaload, 0, 0), (35, .if_icmp .ne 7, 0, 0), (38, .iconst 1, 0, 0), (39, .goto 4, 0, 0), (42, .iconst 0, 0, 0), (43, .ireturn, 0, 0)])
/-- WitnessBench$Words.isGap(I)Z -/
def ev_m21 : ev_M := (⟨"WitnessBench$Words", "isGap", "(I)Z"⟩, prog_10_method_4_code, 2, some .boolean, [],
  [(0, .aload_n 0, 0, 0), (1, .getfield 17, 2, 1), (4, .iload_n 1, 0, 0), (5, .aaload, 0, 0), (6, .invokevirtual 42, 4, 0), (9, .ireturn, 0, 0)])
/-- WitnessBench$Words.formOf(I)LWitnessBench$Letters; -/
def ev_m22 : ev_M := (⟨"WitnessBench$Words", "formOf", "(I)LWitnessBench$Letters;"⟩, prog_10_method_5_code, 2, some (.object "WitnessBench$Letters"), [],
  [(0, .aload_n 0, 0, 0), (1, .getfield 17, 2, 1), (4, .iload_n 1, 0, 0), (5, .aaload, 0, 0), (6, .areturn, 0, 0)])
/-- WitnessBench$Words.firstAlike(LWitnessBench$Letters;)I -/
def ev_m23 : ev_M := (⟨"WitnessBench$Words", "firstAlike", "(LWitnessBench$Letters;)I"⟩, prog_10_method_10_code, 3, some .int, [],
  [(0, .iconst 0, 0, 0), (1, .istore_n 2, 0, 0), (2, .iload_n 2, 0, 0), (3, .bipush 40, 0, 0), (5, .if_icmp .ge 32, 0, 0), (8, .aload_n 0, 0, 0), (9, .iload_n 2, 0, 0), (10, .invokevirtual 71, 24, 1), (13, .ifCond .eq 18, 0, 0), (16, .aload_n 0, 0, 0), (17, .getfield 17, 2, 1), (20, .iload_n 2, 0, 0), (21, .aaload, 0, 0), (22, .aload_n 1, 0, 0), (23, .invokevirtual 75, 12, 1), (26, .ifCond .eq 5, 0, 0), (29, .iload_n 2, 0, 0), (30, .ireturn, 0, 0), (31, .iinc 2 1, 0, 0), (34, .goto (-32), 0, 0), (37, .iconst (-1), 0, 0), (38, .ireturn, 0, 0)])
/-- WitnessBench$Words.isThere(I)Z -/
def ev_m24 : ev_M := (⟨"WitnessBench$Words", "isThere", "(I)Z"⟩, prog_10_method_3_code, 2, some .boolean, [],
  [(0, .iload_n 1, 0, 0), (1, .bipush 10, 0, 0), (3, .irem, 0, 0), (4, .aload_n 0, 0, 0), (5, .getfield 23, 2, 2), (8, .iload_n 1, 0, 0), (9, .bipush 10, 0, 0), (11, .idiv, 0, 0), (12, .iaload, 0, 0), (13, .if_icmp .ge 7, 0, 0), (16, .iconst 1, 0, 0), (17, .goto 4, 0, 0), (20, .iconst 0, 0, 0), (21, .ireturn, 0, 0)])
/-- WitnessBench$Words.areEqual(II)Z -/
def ev_m25 : ev_M := (⟨"WitnessBench$Words", "areEqual", "(II)Z"⟩, prog_10_method_12_code, 3, some .boolean, [],
  [(0, .iload_n 1, 0, 0), (1, .iconst (-1), 0, 0), (2, .if_icmp .eq 8, 0, 0), (5, .iload_n 2, 0, 0), (6, .iconst (-1), 0, 0), (7, .if_icmp .ne 16, 0, 0), (10, .iload_n 1, 0, 0), (11, .iload_n 2, 0, 0), (12, .if_icmp .ne 7, 0, 0), (15, .iconst 1, 0, 0), (16, .goto 27, 0, 0), (19, .iconst 0, 0, 0), (20, .goto 23, 0, 0), (23, .aload_n 0, 0, 0), (24, .getfield 30, 2, 4), (27, .iload_n 1, 0, 0), (28, .iaload, 0, 0), (29, .aload_n 0, 0, 0), (30, .getfield 30, 2, 4), (33, .iload_n 2, 0, 0), (34, .iaload, 0, 0), (35, .if_icmp .ne 7, 0, 0), (38, .iconst 1, 0, 0), (39, .goto 4, 0, 0), (42, .iconst 0, 0, 0), (43, .ireturn, 0, 0)])
/-- WitnessBench$Words.count(I)I -/
def ev_m26 : ev_M := (⟨"WitnessBench$Words", "count", "(I)I"⟩, prog_10_method_2_code, 2, some .int, [],
  [(0, .aload_n 0, 0, 0), (1, .getfield 23, 2, 2), (4, .iload_n 1, 0, 0), (5, .iaload, 0, 0), (6, .ireturn, 0, 0)])
/-- WitnessBench$Words.add(ILWitnessBench$Letters;LWitnessBench$Rules;)V -/
def ev_m27 : ev_M := (⟨"WitnessBench$Words", "add", "(ILWitnessBench$Letters;LWitnessBench$Rules;)V"⟩, prog_10_method_7_code, 5, none, [],
  [(0, .iload_n 1, 0, 0), (1, .aload_n 0, 0, 0), (2, .getfield 23, 2, 2), (5, .iload_n 1, 0, 0), (6, .iaload, 0, 0), (7, .invokestatic 50, 106, 2), (10, .istore 4, 0, 0), (12, .aload_n 0, 0, 0), (13, .getfield 11, 2, 0), (16, .iload 4, 0, 0), (18, .aaload, 0, 0), (19, .aload_n 2, 0, 0), (20, .invokevirtual 54, 13, 1), (23, .aload_n 0, 0, 0), (24, .getfield 23, 2, 2), (27, .iload_n 1, 0, 0), (28, .dup2, 0, 0), (29, .iaload, 0, 0), (30, .iconst 1, 0, 0), (31, .iadd, 0, 0), (32, .iastore, 0, 0), (33, .aload_n 3, 0, 0), (34, .aload_n 0, 0, 0), (35, .getfield 11, 2, 0), (38, .iload 4, 0, 0), (40, .aaload, 0, 0), (41, .aload_n 0, 0, 0), (42, .getfield 17, 2, 1), (45, .iload 4, 0, 0), (47, .aaload, 0, 0), (48, .invokevirtual 58, 15, 2), (51, .aload_n 0, 0, 0), (52, .invokevirtual 64, 28, 0), (55, .return_, 0, 0)])
/-- WitnessBench$Words.markAll()V -/
def ev_m28 : ev_M := (⟨"WitnessBench$Words", "markAll", "()V"⟩, prog_10_method_14_code, 2, none, [],
  [(0, .iconst 0, 0, 0), (1, .istore_n 1, 0, 0), (2, .iload_n 1, 0, 0), (3, .bipush 40, 0, 0), (5, .if_icmp .ge 45, 0, 0), (8, .aload_n 0, 0, 0), (9, .iload_n 1, 0, 0), (10, .invokevirtual 71, 24, 1), (13, .ifCond .eq 31, 0, 0), (16, .aload_n 0, 0, 0), (17, .getfield 27, 2, 3), (20, .iload_n 1, 0, 0), (21, .aload_n 0, 0, 0), (22, .aload_n 0, 0, 0), (23, .getfield 17, 2, 1), (26, .iload_n 1, 0, 0), (27, .aaload, 0, 0), (28, .invokevirtual 94, 23, 1), (31, .iastore, 0, 0), (32, .aload_n 0, 0, 0), (33, .getfield 30, 2, 4), (36, .iload_n 1, 0, 0), (37, .aload_n 0, 0, 0), (38, .getfield 27, 2, 3), (41, .iload_n 1, 0, 0), (42, .iaload, 0, 0), (43, .iastore, 0, 0), (44, .iinc 1 1, 0, 0), (47, .goto (-45), 0, 0), (50, .iconst 0, 0, 0), (51, .istore_n 1, 0, 0), (52, .iload_n 1, 0, 0), (53, .aload_n 0, 0, 0), (54, .getfield 46, 2, 7), (57, .if_icmp .ge 25, 0, 0), (60, .aload_n 0, 0, 0), (61, .aload_n 0, 0, 0), (62, .getfield 33, 2, 5), (65, .iload_n 1, 0, 0), (66, .iaload, 0, 0), (67, .aload_n 0, 0, 0), (68, .getfield 36, 2, 6), (71, .iload_n 1, 0, 0), (72, .iaload, 0, 0), (73, .invokevirtual 67, 29, 2), (76, .iinc 1 1, 0, 0), (79, .goto (-27), 0, 0), (82, .return_, 0, 0)])
/-- WitnessBench$Words.makeEqual(II)V -/
def ev_m29 : ev_M := (⟨"WitnessBench$Words", "makeEqual", "(II)V"⟩, prog_10_method_15_code, 6, none, [],
  [(0, .aload_n 0, 0, 0), (1, .getfield 30, 2, 4), (4, .iload_n 1, 0, 0), (5, .iaload, 0, 0), (6, .istore_n 3, 0, 0), (7, .aload_n 0, 0, 0), (8, .getfield 30, 2, 4), (11, .iload_n 2, 0, 0), (12, .iaload, 0, 0), (13, .istore 4, 0, 0), (15, .iconst 0, 0, 0), (16, .istore 5, 0, 0), (18, .iload 5, 0, 0), (20, .bipush 40, 0, 0), (22, .if_icmp .ge 38, 0, 0), (25, .aload_n 0, 0, 0), (26, .iload 5, 0, 0), (28, .invokevirtual 71, 24, 1), (31, .ifCond .eq 23, 0, 0), (34, .aload_n 0, 0, 0), (35, .getfield 30, 2, 4), (38, .iload 5, 0, 0), (40, .iaload, 0, 0), (41, .iload_n 3, 0, 0), (42, .if_icmp .ne 12, 0, 0), (45, .aload_n 0, 0, 0), (46, .getfield 30, 2, 4), (49, .iload 5, 0, 0), (51, .iload 4, 0, 0), (53, .iastore, 0, 0), (54, .iinc 5 1, 0, 0), (57, .goto (-39), 0, 0), (60, .return_, 0, 0)])
/-- WitnessBench$Words.formAll(LWitnessBench$Rules;)V -/
def ev_m30 : ev_M := (⟨"WitnessBench$Words", "formAll", "(LWitnessBench$Rules;)V"⟩, prog_10_method_9_code, 3, none, [],
  [(0, .iconst 0, 0, 0), (1, .istore_n 2, 0, 0), (2, .iload_n 2, 0, 0), (3, .bipush 40, 0, 0), (5, .if_icmp .ge 33, 0, 0), (8, .aload_n 0, 0, 0), (9, .iload_n 2, 0, 0), (10, .invokevirtual 71, 24, 1), (13, .ifCond .eq 19, 0, 0), (16, .aload_n 1, 0, 0), (17, .aload_n 0, 0, 0), (18, .getfield 11, 2, 0), (21, .iload_n 2, 0, 0), (22, .aaload, 0, 0), (23, .aload_n 0, 0, 0), (24, .getfield 17, 2, 1), (27, .iload_n 2, 0, 0), (28, .aaload, 0, 0), (29, .invokevirtual 58, 15, 2), (32, .iinc 2 1, 0, 0), (35, .goto (-33), 0, 0), (38, .aload_n 0, 0, 0), (39, .invokevirtual 64, 28, 0), (42, .return_, 0, 0)])
/-- WitnessBench$Words.equalities()I -/
def ev_m31 : ev_M := (⟨"WitnessBench$Words", "equalities", "()I"⟩, prog_10_method_6_code, 1, some .int, [],
  [(0, .aload_n 0, 0, 0), (1, .getfield 46, 2, 7), (4, .ireturn, 0, 0)])
/-- WitnessBench$Words.addEquality(II)V -/
def ev_m32 : ev_M := (⟨"WitnessBench$Words", "addEquality", "(II)V"⟩, prog_10_method_8_code, 3, none, [],
  [(0, .aload_n 0, 0, 0), (1, .getfield 33, 2, 5), (4, .aload_n 0, 0, 0), (5, .getfield 46, 2, 7), (8, .iload_n 1, 0, 0), (9, .iastore, 0, 0), (10, .aload_n 0, 0, 0), (11, .getfield 36, 2, 6), (14, .aload_n 0, 0, 0), (15, .getfield 46, 2, 7), (18, .iload_n 2, 0, 0), (19, .iastore, 0, 0), (20, .aload_n 0, 0, 0), (21, .dup, 0, 0), (22, .getfield 46, 2, 7), (25, .iconst 1, 0, 0), (26, .iadd, 0, 0), (27, .putfield 46, 2, 7), (30, .aload_n 0, 0, 0), (31, .iload_n 1, 0, 0), (32, .iload_n 2, 0, 0), (33, .invokevirtual 67, 29, 2), (36, .return_, 0, 0)])
/-- WitnessBench$Words.apart(II)I -/
def ev_m33 : ev_M := (⟨"WitnessBench$Words", "apart", "(II)I"⟩, prog_10_method_13_code, 3, some .int, [],
  [(0, .aload_n 0, 0, 0), (1, .iload_n 1, 0, 0), (2, .iload_n 2, 0, 0), (3, .invokevirtual 79, 25, 2), (6, .ifCond .eq 5, 0, 0), (9, .iconst 0, 0, 0), (10, .ireturn, 0, 0), (11, .aload_n 0, 0, 0), (12, .iload_n 1, 0, 0), (13, .invokevirtual 83, 21, 1), (16, .ifCond .ne 11, 0, 0), (19, .aload_n 0, 0, 0), (20, .iload_n 2, 0, 0), (21, .invokevirtual 83, 21, 1), (24, .ifCond .eq 5, 0, 0), (27, .iconst 4, 0, 0), (28, .ireturn, 0, 0), (29, .bipush 12, 0, 0), (31, .iconst 2, 0, 0), (32, .aload_n 0, 0, 0), (33, .aload_n 0, 0, 0), (34, .getfield 17, 2, 1), (37, .iload_n 1, 0, 0), (38, .aaload, 0, 0), (39, .aload_n 0, 0, 0), (40, .getfield 17, 2, 1), (43, .iload_n 2, 0, 0), (44, .aaload, 0, 0), (45, .invokevirtual 85, 34, 2), (48, .imul, 0, 0), (49, .invokestatic 89, 0, 2), (52, .ireturn, 0, 0)])
/-- WitnessBench$Words.edits(LWitnessBench$Letters;LWitnessBench$Letters;)I -/
def ev_m34 : ev_M := (⟨"WitnessBench$Words", "edits", "(LWitnessBench$Letters;LWitnessBench$Letters;)I"⟩, prog_10_method_16_code, 7, some .int, [],
  [(0, .iconst 0, 0, 0), (1, .istore_n 3, 0, 0), (2, .iload_n 3, 0, 0), (3, .aload_n 2, 0, 0), (4, .invokevirtual 98, 5, 0), (7, .if_icmp .gt 16, 0, 0), (10, .aload_n 0, 0, 0), (11, .getfield 39, 2, 8), (14, .iload_n 3, 0, 0), (15, .iload_n 3, 0, 0), (16, .iastore, 0, 0), (17, .iinc 3 1, 0, 0), (20, .goto (-18), 0, 0), (23, .iconst 1, 0, 0), (24, .istore_n 3, 0, 0), (25, .iload_n 3, 0, 0), (26, .aload_n 1, 0, 0), (27, .invokevirtual 98, 5, 0), (30, .if_icmp .gt 112, 0, 0), (33, .aload_n 0, 0, 0), (34, .getfield 39, 2, 8), (37, .iconst 0, 0, 0), (38, .iaload, 0, 0), (39, .istore 4, 0, 0), (41, .aload_n 0, 0, 0), (42, .getfield 39, 2, 8), (45, .iconst 0, 0, 0), (46, .iload_n 3, 0, 0), (47, .iastore, 0, 0), (48, .iconst 1, 0, 0), (49, .istore 5, 0, 0), (51, .iload 5, 0, 0), (53, .aload_n 2, 0, 0), (54, .invokevirtual 98, 5, 0), (57, .if_icmp .gt 79, 0, 0), (60, .iload 4, 0, 0), (62, .aload_n 1, 0, 0), (63, .iload_n 3, 0, 0), (64, .iconst 1, 0, 0), (65, .isub, 0, 0), (66, .invokevirtual 102, 6, 1), (69, .aload_n 2, 0, 0), (70, .iload 5, 0, 0), (72, .iconst 1, 0, 0), (73, .isub, 0, 0), (74, .invokevirtual 102, 6, 1), (77, .if_icmp .ne 7, 0, 0), (80, .iconst 0, 0, 0), (81, .goto 4, 0, 0), (84, .iconst 1, 0, 0), (85, .iadd, 0, 0), (86, .istore 6, 0, 0), (88, .aload_n 0, 0, 0), (89, .getfield 39, 2, 8), (92, .iload 5, 0, 0), (94, .iaload, 0, 0), (95, .istore 4, 0, 0), (97, .aload_n 0, 0, 0), (98, .getfield 39, 2, 8), (101, .iload 5, 0, 0), (103, .iload 6, 0, 0), (105, .aload_n 0, 0, 0), (106, .getfield 39, 2, 8), (109, .iload 5, 0, 0), (111, .iaload, 0, 0), (112, .aload_n 0, 0, 0), (113, .getfield 39, 2, 8), (116, .iload 5, 0, 0), (118, .iconst 1, 0, 0), (119, .isub, 0, 0), (120, .iaload, 0, 0), (121, .invokestatic 89, 0, 2), (124, .iconst 1, 0, 0), (125, .iadd, 0, 0), (126, .invokestatic 89, 0, 2), (129, .iastore, 0, 0), (130, .iinc 5 1, 0, 0), (133, .goto (-82), 0, 0), (136, .iinc 3 1, 0, 0), (139, .goto (-114), 0, 0), (142, .aload_n 0, 0, 0), (143, .getfield 39, 2, 8), (146, .aload_n 2, 0, 0), (147, .invokevirtual 98, 5, 0), (150, .iaload, 0, 0), (151, .ireturn, 0, 0)])
/-- WitnessBench$Table.<init>()V -/
def ev_m35 : ev_M := (⟨"WitnessBench$Table", "<init>", "()V"⟩, prog_9_method_1_code, 1, none, [],
  [(0, .aload_n 0, 0, 0), (1, .invokespecial 3, 999, 0), (4, .aload_n 0, 0, 0), (5, .bipush 96, 0, 0), (7, .newarray .int, 0, 0), (9, .putfield 9, 3, 0), (12, .aload_n 0, 0, 0), (13, .bipush 24, 0, 0), (15, .newarray .int, 0, 0), (17, .putfield 15, 3, 1), (20, .aload_n 0, 0, 0), (21, .iconst 4, 0, 0), (22, .newarray .int, 0, 0), (24, .putfield 18, 3, 3), (27, .aload_n 0, 0, 0), (28, .iconst (-1), 0, 0), (29, .putfield 21, 3, 5), (32, .return_, 0, 0)])
/-- WitnessBench$Table.count()I -/
def ev_m36 : ev_M := (⟨"WitnessBench$Table", "count", "()I"⟩, prog_9_method_2_code, 1, some .int, [],
  [(0, .aload_n 0, 0, 0), (1, .getfield 25, 3, 2), (4, .ireturn, 0, 0)])
/-- WitnessBench$Table.lemma(I)I -/
def ev_m37 : ev_M := (⟨"WitnessBench$Table", "lemma", "(I)I"⟩, prog_9_method_8_code, 3, some .int, [],
  [(0, .aload_n 0, 0, 0), (1, .getfield 15, 3, 1), (4, .iload_n 1, 0, 0), (5, .iaload, 0, 0), (6, .iconst (-1), 0, 0), (7, .if_icmp .ne 10, 0, 0), (10, .aload_n 0, 0, 0), (11, .getfield 21, 3, 5), (14, .goto 9, 0, 0), (17, .aload_n 0, 0, 0), (18, .getfield 15, 3, 1), (21, .iload_n 1, 0, 0), (22, .iaload, 0, 0), (23, .istore_n 2, 0, 0), (24, .iload_n 2, 0, 0), (25, .iconst (-1), 0, 0), (26, .if_icmp .ne 7, 0, 0), (29, .iconst (-1), 0, 0), (30, .goto 9, 0, 0), (33, .aload_n 0, 0, 0), (34, .iload_n 1, 0, 0), (35, .iload_n 2, 0, 0), (36, .invokevirtual 38, 38, 2), (39, .ireturn, 0, 0)])
/-- WitnessBench$Table.numberAt(II)I -/
def ev_m38 : ev_M := (⟨"WitnessBench$Table", "numberAt", "(II)I"⟩, prog_9_method_6_code, 4, some .int, [],
  [(0, .aload_n 0, 0, 0), (1, .iload_n 1, 0, 0), (2, .iload_n 2, 0, 0), (3, .invokevirtual 31, 39, 2), (6, .istore_n 3, 0, 0), (7, .iload_n 3, 0, 0), (8, .iconst (-1), 0, 0), (9, .if_icmp .ne 7, 0, 0), (12, .iconst (-1), 0, 0), (13, .goto 8, 0, 0), (16, .iload_n 2, 0, 0), (17, .iload_n 3, 0, 0), (18, .invokestatic 35, 106, 2), (21, .ireturn, 0, 0)])
/-- WitnessBench$Table.cell(II)I -/
def ev_m39 : ev_M := (⟨"WitnessBench$Table", "cell", "(II)I"⟩, prog_9_method_5_code, 3, some .int, [],
  [(0, .aload_n 0, 0, 0), (1, .getfield 9, 3, 0), (4, .iload_n 1, 0, 0), (5, .iconst 4, 0, 0), (6, .imul, 0, 0), (7, .iload_n 2, 0, 0), (8, .iadd, 0, 0), (9, .iaload, 0, 0), (10, .ireturn, 0, 0)])
/-- WitnessBench$Table.isJoined(I)Z -/
def ev_m40 : ev_M := (⟨"WitnessBench$Table", "isJoined", "(I)Z"⟩, prog_9_method_3_code, 3, some .boolean, [],
  [(0, .iconst 0, 0, 0), (1, .istore_n 2, 0, 0), (2, .iload_n 2, 0, 0), (3, .aload_n 0, 0, 0), (4, .getfield 28, 3, 4), (7, .if_icmp .ge 21, 0, 0), (10, .aload_n 0, 0, 0), (11, .getfield 18, 3, 3), (14, .iload_n 2, 0, 0), (15, .iaload, 0, 0), (16, .iload_n 1, 0, 0), (17, .if_icmp .ne 5, 0, 0), (20, .iconst 1, 0, 0), (21, .ireturn, 0, 0), (22, .iinc 2 1, 0, 0), (25, .goto (-23), 0, 0), (28, .iconst 0, 0, 0), (29, .ireturn, 0, 0)])
/-- WitnessBench$Table.clearPlace(I)V -/
def ev_m41 : ev_M := (⟨"WitnessBench$Table", "clearPlace", "(I)V"⟩, prog_9_method_11_code, 3, none, [],
  [(0, .iconst 0, 0, 0), (1, .istore_n 2, 0, 0), (2, .iload_n 2, 0, 0), (3, .iconst 4, 0, 0), (4, .if_icmp .ge 16, 0, 0), (7, .aload_n 0, 0, 0), (8, .iload_n 1, 0, 0), (9, .iload_n 2, 0, 0), (10, .iconst (-1), 0, 0), (11, .invokevirtual 47, 42, 3), (14, .iinc 2 1, 0, 0), (17, .goto (-15), 0, 0), (20, .aload_n 0, 0, 0), (21, .getfield 15, 3, 1), (24, .iload_n 1, 0, 0), (25, .iconst (-1), 0, 0), (26, .iastore, 0, 0), (27, .return_, 0, 0)])
/-- WitnessBench$Table.putCell(III)V -/
def ev_m42 : ev_M := (⟨"WitnessBench$Table", "putCell", "(III)V"⟩, prog_9_method_13_code, 4, none, [],
  [(0, .aload_n 0, 0, 0), (1, .getfield 9, 3, 0), (4, .iload_n 1, 0, 0), (5, .iconst 4, 0, 0), (6, .imul, 0, 0), (7, .iload_n 2, 0, 0), (8, .iadd, 0, 0), (9, .iload_n 3, 0, 0), (10, .iastore, 0, 0), (11, .return_, 0, 0)])
/-- WitnessBench$Table.copyPlace(II)V -/
def ev_m43 : ev_M := (⟨"WitnessBench$Table", "copyPlace", "(II)V"⟩, prog_9_method_12_code, 4, none, [],
  [(0, .iconst 0, 0, 0), (1, .istore_n 3, 0, 0), (2, .iload_n 3, 0, 0), (3, .iconst 4, 0, 0), (4, .if_icmp .ge 21, 0, 0), (7, .aload_n 0, 0, 0), (8, .iload_n 2, 0, 0), (9, .iload_n 3, 0, 0), (10, .aload_n 0, 0, 0), (11, .iload_n 1, 0, 0), (12, .iload_n 3, 0, 0), (13, .invokevirtual 31, 39, 2), (16, .invokevirtual 47, 42, 3), (19, .iinc 3 1, 0, 0), (22, .goto (-20), 0, 0), (25, .aload_n 0, 0, 0), (26, .getfield 15, 3, 1), (29, .iload_n 2, 0, 0), (30, .aload_n 0, 0, 0), (31, .getfield 15, 3, 1), (34, .iload_n 1, 0, 0), (35, .iaload, 0, 0), (36, .iastore, 0, 0), (37, .return_, 0, 0)])
/-- WitnessBench$Table.admit(II)V -/
def ev_m44 : ev_M := (⟨"WitnessBench$Table", "admit", "(II)V"⟩, prog_9_method_14_code, 3, none, [],
  [(0, .aload_n 0, 0, 0), (1, .getfield 28, 3, 4), (4, .ifCond .ne 8, 0, 0), (7, .aload_n 0, 0, 0), (8, .iload_n 1, 0, 0), (9, .putfield 21, 3, 5), (12, .aload_n 0, 0, 0), (13, .getfield 18, 3, 3), (16, .aload_n 0, 0, 0), (17, .getfield 28, 3, 4), (20, .iload_n 1, 0, 0), (21, .iastore, 0, 0), (22, .aload_n 0, 0, 0), (23, .dup, 0, 0), (24, .getfield 28, 3, 4), (27, .iconst 1, 0, 0), (28, .iadd, 0, 0), (29, .putfield 28, 3, 4), (32, .aload_n 0, 0, 0), (33, .iload_n 2, 0, 0), (34, .putfield 25, 3, 2), (37, .return_, 0, 0)])
/-- WitnessBench$Table.lastJoined()I -/
def ev_m45 : ev_M := (⟨"WitnessBench$Table", "lastJoined", "()I"⟩, prog_9_method_4_code, 1, some .int, [],
  [(0, .aload_n 0, 0, 0), (1, .getfield 28, 3, 4), (4, .ifCond .ne 7, 0, 0), (7, .iconst (-1), 0, 0), (8, .goto 14, 0, 0), (11, .aload_n 0, 0, 0), (12, .getfield 18, 3, 3), (15, .aload_n 0, 0, 0), (16, .getfield 28, 3, 4), (19, .iconst 1, 0, 0), (20, .isub, 0, 0), (21, .iaload, 0, 0), (22, .ireturn, 0, 0)])
/-- WitnessBench$Table.takeOut(I)V -/
def ev_m46 : ev_M := (⟨"WitnessBench$Table", "takeOut", "(I)V"⟩, prog_9_method_15_code, 4, none, [],
  [(0, .aload_n 0, 0, 0), (1, .dup, 0, 0), (2, .getfield 28, 3, 4), (5, .iconst 1, 0, 0), (6, .isub, 0, 0), (7, .putfield 28, 3, 4), (10, .aload_n 0, 0, 0), (11, .getfield 21, 3, 5), (14, .iload_n 1, 0, 0), (15, .if_icmp .ne 8, 0, 0), (18, .aload_n 0, 0, 0), (19, .iconst (-1), 0, 0), (20, .putfield 21, 3, 5), (23, .iconst 0, 0, 0), (24, .istore_n 2, 0, 0), (25, .iconst 0, 0, 0), (26, .istore_n 3, 0, 0), (27, .iload_n 3, 0, 0), (28, .aload_n 0, 0, 0), (29, .getfield 25, 3, 2), (32, .if_icmp .ge 50, 0, 0), (35, .aload_n 0, 0, 0), (36, .iload_n 3, 0, 0), (37, .iload_n 1, 0, 0), (38, .iconst (-1), 0, 0), (39, .invokevirtual 47, 42, 3), (42, .aload_n 0, 0, 0), (43, .getfield 15, 3, 1), (46, .iload_n 3, 0, 0), (47, .iaload, 0, 0), (48, .iload_n 1, 0, 0), (49, .if_icmp .ne 10, 0, 0), (52, .aload_n 0, 0, 0), (53, .getfield 15, 3, 1), (56, .iload_n 3, 0, 0), (57, .iconst (-1), 0, 0), (58, .iastore, 0, 0), (59, .aload_n 0, 0, 0), (60, .iload_n 3, 0, 0), (61, .invokevirtual 51, 47, 1), (64, .ifCond .eq 12, 0, 0), (67, .aload_n 0, 0, 0), (68, .iload_n 3, 0, 0), (69, .iload_n 2, 0, 0), (70, .invokevirtual 55, 43, 2), (73, .iinc 2 1, 0, 0), (76, .iinc 3 1, 0, 0), (79, .goto (-52), 0, 0), (82, .aload_n 0, 0, 0), (83, .iload_n 2, 0, 0), (84, .putfield 25, 3, 2), (87, .return_, 0, 0)])
/-- WitnessBench$Table.hasWords(I)Z -/
def ev_m47 : ev_M := (⟨"WitnessBench$Table", "hasWords", "(I)Z"⟩, prog_9_method_16_code, 3, some .boolean, [],
  [(0, .iconst 0, 0, 0), (1, .istore_n 2, 0, 0), (2, .iload_n 2, 0, 0), (3, .iconst 4, 0, 0), (4, .if_icmp .ge 21, 0, 0), (7, .aload_n 0, 0, 0), (8, .iload_n 1, 0, 0), (9, .iload_n 2, 0, 0), (10, .invokevirtual 31, 39, 2), (13, .iconst (-1), 0, 0), (14, .if_icmp .eq 5, 0, 0), (17, .iconst 1, 0, 0), (18, .ireturn, 0, 0), (19, .iinc 2 1, 0, 0), (22, .goto (-20), 0, 0), (25, .iconst 0, 0, 0), (26, .ireturn, 0, 0)])
/-- WitnessBench$Table.neighbour(III)I -/
def ev_m48 : ev_M := (⟨"WitnessBench$Table", "neighbour", "(III)I"⟩, prog_9_method_7_code, 5, some .int, [],
  [(0, .iconst 0, 0, 0), (1, .istore 4, 0, 0), (3, .iload 4, 0, 0), (5, .aload_n 0, 0, 0), (6, .getfield 25, 3, 2), (9, .if_icmp .ge 28, 0, 0), (12, .aload_n 0, 0, 0), (13, .iload 4, 0, 0), (15, .iload_n 1, 0, 0), (16, .invokevirtual 31, 39, 2), (19, .iload_n 2, 0, 0), (20, .if_icmp .ne 11, 0, 0), (23, .aload_n 0, 0, 0), (24, .iload 4, 0, 0), (26, .iload_n 3, 0, 0), (27, .invokevirtual 31, 39, 2), (30, .ireturn, 0, 0), (31, .iinc 4 1, 0, 0), (34, .goto (-31), 0, 0), (37, .iconst (-1), 0, 0), (38, .ireturn, 0, 0)])
/-- WitnessBench$Table.rebase(I)V -/
def ev_m49 : ev_M := (⟨"WitnessBench$Table", "rebase", "(I)V"⟩, prog_9_method_9_code, 2, none, [],
  [(0, .aload_n 0, 0, 0), (1, .iload_n 1, 0, 0), (2, .putfield 21, 3, 5), (5, .aload_n 0, 0, 0), (6, .getfield 15, 3, 1), (9, .iconst (-1), 0, 0), (10, .invokestatic 41, 2, 2), (13, .return_, 0, 0)])
/-- WitnessBench$Table.setChoice(II)V -/
def ev_m50 : ev_M := (⟨"WitnessBench$Table", "setChoice", "(II)V"⟩, prog_9_method_10_code, 3, none, [],
  [(0, .aload_n 0, 0, 0), (1, .getfield 15, 3, 1), (4, .iload_n 1, 0, 0), (5, .iload_n 2, 0, 0), (6, .iastore, 0, 0), (7, .return_, 0, 0)])
/-- WitnessBench$Joiner.<init>()V -/
def ev_m51 : ev_M := (⟨"WitnessBench$Joiner", "<init>", "()V"⟩, prog_4_method_1_code, 1, none, [],
  [(0, .aload_n 0, 0, 0), (1, .invokespecial 3, 999, 0), (4, .aload_n 0, 0, 0), (5, .sipush 275, 0, 0), (8, .newarray .int, 0, 0), (10, .putfield 11, 4, 0), (13, .aload_n 0, 0, 0), (14, .sipush 275, 0, 0), (17, .newarray .int, 0, 0), (19, .putfield 15, 4, 1), (22, .aload_n 0, 0, 0), (23, .bipush 34, 0, 0), (25, .newarray .int, 0, 0), (27, .putfield 18, 4, 2), (30, .return_, 0, 0)])
/-- WitnessBench$Joiner.plan(LWitnessBench$Table;LWitnessBench$Words;I)I -/
def ev_m52 : ev_M := (⟨"WitnessBench$Joiner", "plan", "(LWitnessBench$Table;LWitnessBench$Words;I)I"⟩, prog_4_method_2_code, 7, some .int, [],
  [(0, .aload_n 0, 0, 0), (1, .aload_n 1, 0, 0), (2, .invokevirtual 21, 36, 0), (5, .putfield 27, 4, 4), (8, .aload_n 0, 0, 0), (9, .aload_n 2, 0, 0), (10, .iload_n 3, 0, 0), (11, .invokevirtual 31, 26, 1), (14, .putfield 36, 4, 5), (17, .aload_n 0, 0, 0), (18, .getfield 27, 4, 4), (21, .istore 4, 0, 0), (23, .iload 4, 0, 0), (25, .ifCond .lt 81, 0, 0), (28, .aload_n 0, 0, 0), (29, .getfield 36, 4, 5), (32, .istore 5, 0, 0), (34, .iload 5, 0, 0), (36, .ifCond .lt 64, 0, 0), (39, .iload 4, 0, 0), (41, .aload_n 0, 0, 0), (42, .getfield 27, 4, 4), (45, .if_icmp .ge 16, 0, 0), (48, .iload 5, 0, 0), (50, .aload_n 0, 0, 0), (51, .getfield 36, 4, 5), (54, .if_icmp .ge 7, 0, 0), (57, .iconst 1, 0, 0), (58, .goto 4, 0, 0), (61, .iconst 0, 0, 0), (62, .istore 6, 0, 0), (64, .aload_n 0, 0, 0), (65, .iload 4, 0, 0), (67, .iload 5, 0, 0), (69, .iload 6, 0, 0), (71, .ifCond .eq 19, 0, 0), (74, .aload_n 1, 0, 0), (75, .aload_n 2, 0, 0), (76, .iload 4, 0, 0), (78, .iload_n 3, 0, 0), (79, .iload 5, 0, 0), (81, .invokestatic 39, 106, 2), (84, .invokestatic 43, 53, 4), (87, .goto 4, 0, 0), (90, .iconst (-1), 0, 0), (91, .invokevirtual 47, 54, 3), (94, .iinc 5 (-1), 0, 0), (97, .goto (-63), 0, 0), (100, .iinc 4 (-1), 0, 0), (103, .goto (-80), 0, 0), (106, .aload_n 0, 0, 0), (107, .invokevirtual 51, 56, 0), (110, .aload_n 0, 0, 0), (111, .getfield 11, 4, 0), (114, .iconst 0, 0, 0), (115, .iaload, 0, 0), (116, .ireturn, 0, 0)])
/-- WitnessBench$Joiner.matchCost(LWitnessBench$Table;LWitnessBench$Words;II)I -/
def ev_m53 : ev_M := (⟨"WitnessBench$Joiner", "matchCost", "(LWitnessBench$Table;LWitnessBench$Words;II)I"⟩, prog_4_method_5_code, 7, some .int, [],
  [(0, .bipush 12, 0, 0), (2, .istore 4, 0, 0), (4, .iconst 0, 0, 0), (5, .istore 5, 0, 0), (7, .iload 5, 0, 0), (9, .iconst 4, 0, 0), (10, .if_icmp .ge 38, 0, 0), (13, .aload_n 0, 0, 0), (14, .iload_n 2, 0, 0), (15, .iload 5, 0, 0), (17, .invokevirtual 74, 38, 2), (20, .istore 6, 0, 0), (22, .iload 6, 0, 0), (24, .iconst (-1), 0, 0), (25, .if_icmp .eq 17, 0, 0), (28, .iload 4, 0, 0), (30, .aload_n 1, 0, 0), (31, .iload_n 3, 0, 0), (32, .iload 6, 0, 0), (34, .invokevirtual 77, 33, 2), (37, .invokestatic 80, 0, 2), (40, .istore 4, 0, 0), (42, .iinc 5 1, 0, 0), (45, .goto (-38), 0, 0), (48, .iload 4, 0, 0), (50, .ireturn, 0, 0)])
/-- WitnessBench$Joiner.settle(III)V -/
def ev_m54 : ev_M := (⟨"WitnessBench$Joiner", "settle", "(III)V"⟩, prog_4_method_6_code, 5, none, [],
  [(0, .iload_n 1, 0, 0), (1, .bipush 11, 0, 0), (3, .imul, 0, 0), (4, .iload_n 2, 0, 0), (5, .iadd, 0, 0), (6, .istore 4, 0, 0), (8, .aload_n 0, 0, 0), (9, .getfield 11, 4, 0), (12, .iload 4, 0, 0), (14, .iload_n 1, 0, 0), (15, .aload_n 0, 0, 0), (16, .getfield 27, 4, 4), (19, .if_icmp .ne 15, 0, 0), (22, .iload_n 2, 0, 0), (23, .aload_n 0, 0, 0), (24, .getfield 36, 4, 5), (27, .if_icmp .ne 7, 0, 0), (30, .iconst 0, 0, 0), (31, .goto 5, 0, 0), (34, .ldc 85, 1000000, 1), (36, .iastore, 0, 0), (37, .iload_n 3, 0, 0), (38, .iconst (-1), 0, 0), (39, .if_icmp .eq 24, 0, 0), (42, .aload_n 0, 0, 0), (43, .iload 4, 0, 0), (45, .iconst 0, 0, 0), (46, .iload_n 3, 0, 0), (47, .aload_n 0, 0, 0), (48, .getfield 11, 4, 0), (51, .iload 4, 0, 0), (53, .bipush 11, 0, 0), (55, .iadd, 0, 0), (56, .iconst 1, 0, 0), (57, .iadd, 0, 0), (58, .iaload, 0, 0), (59, .iadd, 0, 0), (60, .invokevirtual 86, 55, 3), (63, .iload_n 1, 0, 0), (64, .aload_n 0, 0, 0), (65, .getfield 27, 4, 4), (68, .if_icmp .ge 23, 0, 0), (71, .aload_n 0, 0, 0), (72, .iload 4, 0, 0), (74, .iconst 1, 0, 0), (75, .bipush 8, 0, 0), (77, .aload_n 0, 0, 0), (78, .getfield 11, 4, 0), (81, .iload 4, 0, 0), (83, .bipush 11, 0, 0), (85, .iadd, 0, 0), (86, .iaload, 0, 0), (87, .iadd, 0, 0), (88, .invokevirtual 86, 55, 3), (91, .iload_n 2, 0, 0), (92, .aload_n 0, 0, 0), (93, .getfield 36, 4, 5), (96, .if_icmp .ge 22, 0, 0), (99, .aload_n 0, 0, 0), (100, .iload 4, 0, 0), (102, .iconst 2, 0, 0), (103, .bipush 8, 0, 0), (105, .aload_n 0, 0, 0), (106, .getfield 11, 4, 0), (109, .iload 4, 0, 0), (111, .iconst 1, 0, 0), (112, .iadd, 0, 0), (113, .iaload, 0, 0), (114, .iadd, 0, 0), (115, .invokevirtual 86, 55, 3), (118, .return_, 0, 0)])
/-- WitnessBench$Joiner.offer(III)V -/
def ev_m55 : ev_M := (⟨"WitnessBench$Joiner", "offer", "(III)V"⟩, prog_4_method_7_code, 4, none, [],
  [(0, .iload_n 3, 0, 0), (1, .aload_n 0, 0, 0), (2, .getfield 11, 4, 0), (5, .iload_n 1, 0, 0), (6, .iaload, 0, 0), (7, .if_icmp .ge 17, 0, 0), (10, .aload_n 0, 0, 0), (11, .getfield 11, 4, 0), (14, .iload_n 1, 0, 0), (15, .iload_n 3, 0, 0), (16, .iastore, 0, 0), (17, .aload_n 0, 0, 0), (18, .getfield 15, 4, 1), (21, .iload_n 1, 0, 0), (22, .iload_n 2, 0, 0), (23, .iastore, 0, 0), (24, .return_, 0, 0)])
/-- WitnessBench$Joiner.layPath()V -/
def ev_m56 : ev_M := (⟨"WitnessBench$Joiner", "layPath", "()V"⟩, prog_4_method_8_code, 5, none, [],
  [(0, .iconst 0, 0, 0), (1, .istore_n 1, 0, 0), (2, .iconst 0, 0, 0), (3, .istore_n 2, 0, 0), (4, .aload_n 0, 0, 0), (5, .iconst 0, 0, 0), (6, .putfield 54, 4, 3), (9, .iconst 0, 0, 0), (10, .istore_n 3, 0, 0), (11, .iload_n 3, 0, 0), (12, .aload_n 0, 0, 0), (13, .getfield 18, 4, 2), (16, .arraylength, 0, 0), (17, .if_icmp .ge 74, 0, 0), (20, .iload_n 1, 0, 0), (21, .aload_n 0, 0, 0), (22, .getfield 27, 4, 4), (25, .if_icmp .lt 11, 0, 0), (28, .iload_n 2, 0, 0), (29, .aload_n 0, 0, 0), (30, .getfield 36, 4, 5), (33, .if_icmp .ge 58, 0, 0), (36, .aload_n 0, 0, 0), (37, .getfield 15, 4, 1), (40, .iload_n 1, 0, 0), (41, .bipush 11, 0, 0), (43, .imul, 0, 0), (44, .iload_n 2, 0, 0), (45, .iadd, 0, 0), (46, .iaload, 0, 0), (47, .istore 4, 0, 0), (49, .aload_n 0, 0, 0), (50, .getfield 18, 4, 2), (53, .iload_n 3, 0, 0), (54, .iload 4, 0, 0), (56, .iastore, 0, 0), (57, .aload_n 0, 0, 0), (58, .dup, 0, 0), (59, .getfield 54, 4, 3), (62, .iconst 1, 0, 0), (63, .iadd, 0, 0), (64, .putfield 54, 4, 3), (67, .iload 4, 0, 0), (69, .iconst 2, 0, 0), (70, .if_icmp .eq 6, 0, 0), (73, .iinc 1 1, 0, 0), (76, .iload 4, 0, 0), (78, .iconst 1, 0, 0), (79, .if_icmp .eq 6, 0, 0), (82, .iinc 2 1, 0, 0), (85, .iinc 3 1, 0, 0), (88, .goto (-77), 0, 0), (91, .return_, 0, 0)])
/-- WitnessBench$Joiner.plannedPlaces()I -/
def ev_m57 : ev_M := (⟨"WitnessBench$Joiner", "plannedPlaces", "()I"⟩, prog_4_method_3_code, 3, some .int, [],
  [(0, .aload_n 0, 0, 0), (1, .getfield 27, 4, 4), (4, .istore_n 1, 0, 0), (5, .iconst 0, 0, 0), (6, .istore_n 2, 0, 0), (7, .iload_n 2, 0, 0), (8, .aload_n 0, 0, 0), (9, .getfield 54, 4, 3), (12, .if_icmp .ge 22, 0, 0), (15, .aload_n 0, 0, 0), (16, .getfield 18, 4, 2), (19, .iload_n 2, 0, 0), (20, .iaload, 0, 0), (21, .iconst 2, 0, 0), (22, .if_icmp .ne 6, 0, 0), (25, .iinc 1 1, 0, 0), (28, .iinc 2 1, 0, 0), (31, .goto (-24), 0, 0), (34, .iload_n 1, 0, 0), (35, .ireturn, 0, 0)])
/-- WitnessBench$Joiner.carryOut(LWitnessBench$Table;I)V -/
def ev_m58 : ev_M := (⟨"WitnessBench$Joiner", "carryOut", "(LWitnessBench$Table;I)V"⟩, prog_4_method_4_code, 8, none, [],
  [(0, .aload_n 0, 0, 0), (1, .invokevirtual 57, 57, 0), (4, .istore_n 3, 0, 0), (5, .aload_n 0, 0, 0), (6, .getfield 27, 4, 4), (9, .istore 4, 0, 0), (11, .aload_n 0, 0, 0), (12, .getfield 36, 4, 5), (15, .istore 5, 0, 0), (17, .iload_n 3, 0, 0), (18, .istore 6, 0, 0), (20, .aload_n 0, 0, 0), (21, .getfield 54, 4, 3), (24, .iconst 1, 0, 0), (25, .isub, 0, 0), (26, .istore 7, 0, 0), (28, .iload 7, 0, 0), (30, .ifCond .lt 66, 0, 0), (33, .iinc 6 (-1), 0, 0), (36, .aload_n 0, 0, 0), (37, .getfield 18, 4, 2), (40, .iload 7, 0, 0), (42, .iaload, 0, 0), (43, .iconst 2, 0, 0), (44, .if_icmp .ne 12, 0, 0), (47, .aload_n 1, 0, 0), (48, .iload 6, 0, 0), (50, .invokevirtual 60, 41, 1), (53, .goto 14, 0, 0), (56, .iinc 4 (-1), 0, 0), (59, .aload_n 1, 0, 0), (60, .iload 4, 0, 0), (62, .iload 6, 0, 0), (64, .invokevirtual 64, 43, 2), (67, .aload_n 0, 0, 0), (68, .getfield 18, 4, 2), (71, .iload 7, 0, 0), (73, .iaload, 0, 0), (74, .iconst 1, 0, 0), (75, .if_icmp .eq 15, 0, 0), (78, .iinc 5 (-1), 0, 0), (81, .aload_n 1, 0, 0), (82, .iload 6, 0, 0), (84, .iload_n 2, 0, 0), (85, .iload 5, 0, 0), (87, .invokevirtual 68, 42, 3), (90, .iinc 7 (-1), 0, 0), (93, .goto (-65), 0, 0), (96, .aload_n 1, 0, 0), (97, .iload_n 2, 0, 0), (98, .iload_n 3, 0, 0), (99, .invokevirtual 71, 44, 2), (102, .return_, 0, 0)])
/-- WitnessBench$Sheet.<init>()V -/
def ev_m59 : ev_M := (⟨"WitnessBench$Sheet", "<init>", "()V"⟩, prog_8_method_1_code, 1, none, [],
  [(0, .aload_n 0, 0, 0), (1, .invokespecial 3, 999, 0), (4, .aload_n 0, 0, 0), (5, .sipush 1920, 0, 0), (8, .newarray .char, 0, 0), (10, .putfield 9, 5, 0), (13, .return_, 0, 0)])
/-- WitnessBench$Sheet.write(LWitnessBench$Table;LWitnessBench$Words;Z)V -/
def ev_m60 : ev_M := (⟨"WitnessBench$Sheet", "write", "(LWitnessBench$Table;LWitnessBench$Words;Z)V"⟩, prog_8_method_6_code, 5, none, [],
  [(0, .aload_n 0, 0, 0), (1, .iconst 0, 0, 0), (2, .putfield 15, 5, 1), (5, .iconst 0, 0, 0), (6, .istore 4, 0, 0), (8, .iload 4, 0, 0), (10, .aload_n 1, 0, 0), (11, .invokevirtual 19, 36, 0), (14, .if_icmp .ge 28, 0, 0), (17, .aload_n 1, 0, 0), (18, .aload_n 2, 0, 0), (19, .iload 4, 0, 0), (21, .invokestatic 25, 61, 3), (24, .ifCond .eq 12, 0, 0), (27, .aload_n 0, 0, 0), (28, .aload_n 1, 0, 0), (29, .aload_n 2, 0, 0), (30, .iload 4, 0, 0), (32, .iload_n 3, 0, 0), (33, .invokevirtual 29, 62, 4), (36, .iinc 4 1, 0, 0), (39, .goto (-31), 0, 0), (42, .return_, 0, 0)])
/-- WitnessBench$Sheet.needsEntry(LWitnessBench$Table;LWitnessBench$Words;I)Z -/
def ev_m61 : ev_M := (⟨"WitnessBench$Sheet", "needsEntry", "(LWitnessBench$Table;LWitnessBench$Words;I)Z"⟩, prog_8_method_7_code, 5, some .boolean, [],
  [(0, .aload_n 0, 0, 0), (1, .iload_n 2, 0, 0), (2, .invokevirtual 33, 37, 1), (5, .istore_n 3, 0, 0), (6, .iconst 0, 0, 0), (7, .istore 4, 0, 0), (9, .iload 4, 0, 0), (11, .iconst 4, 0, 0), (12, .if_icmp .ge 35, 0, 0), (15, .aload_n 0, 0, 0), (16, .iload 4, 0, 0), (18, .invokevirtual 37, 40, 1), (21, .ifCond .eq 20, 0, 0), (24, .aload_n 1, 0, 0), (25, .aload_n 0, 0, 0), (26, .iload_n 2, 0, 0), (27, .iload 4, 0, 0), (29, .invokevirtual 41, 38, 2), (32, .iload_n 3, 0, 0), (33, .invokevirtual 45, 20, 2), (36, .ifCond .ne 5, 0, 0), (39, .iconst 1, 0, 0), (40, .ireturn, 0, 0), (41, .iinc 4 1, 0, 0), (44, .goto (-35), 0, 0), (47, .iconst 0, 0, 0), (48, .ireturn, 0, 0)])
/-- WitnessBench$Sheet.writeEntry(LWitnessBench$Table;LWitnessBench$Words;IZ)V -/
def ev_m62 : ev_M := (⟨"WitnessBench$Sheet", "writeEntry", "(LWitnessBench$Table;LWitnessBench$Words;IZ)V"⟩, prog_8_method_8_code, 9, none, [],
  [(0, .aload_n 1, 0, 0), (1, .iload_n 3, 0, 0), (2, .invokevirtual 33, 37, 1), (5, .istore 5, 0, 0), (7, .aload_n 0, 0, 0), (8, .iload_n 3, 0, 0), (9, .invokevirtual 51, 63, 1), (12, .aload_n 0, 0, 0), (13, .bipush 32, 0, 0), (15, .invokevirtual 55, 64, 1), (18, .aload_n 0, 0, 0), (19, .aload_n 2, 0, 0), (20, .iload 5, 0, 0), (22, .invokevirtual 59, 65, 2), (25, .aload_n 0, 0, 0), (26, .bipush 93, 0, 0), (28, .invokevirtual 55, 64, 1), (31, .iconst 1, 0, 0), (32, .istore 6, 0, 0), (34, .iload 4, 0, 0), (36, .ifCond .ne 27, 0, 0), (39, .aload_n 1, 0, 0), (40, .aload_n 2, 0, 0), (41, .iload_n 3, 0, 0), (42, .iload 5, 0, 0), (44, .invokestatic 63, 67, 4), (47, .iconst (-1), 0, 0), (48, .if_icmp .eq 15, 0, 0), (51, .aload_n 0, 0, 0), (52, .aload_n 1, 0, 0), (53, .aload_n 2, 0, 0), (54, .iload_n 3, 0, 0), (55, .iload 5, 0, 0), (57, .invokevirtual 67, 68, 4), (60, .iconst 0, 0, 0), (61, .istore 6, 0, 0), (63, .iconst 0, 0, 0), (64, .istore 7, 0, 0), (66, .iload 7, 0, 0), (68, .iconst 4, 0, 0), (69, .if_icmp .ge 65, 0, 0), (72, .aload_n 1, 0, 0), (73, .iload_n 3, 0, 0), (74, .iload 7, 0, 0), (76, .invokevirtual 41, 38, 2), (79, .istore 8, 0, 0), (81, .aload_n 2, 0, 0), (82, .iload 8, 0, 0), (84, .iload 5, 0, 0), (86, .invokevirtual 45, 20, 2), (89, .ifCond .ne 39, 0, 0), (92, .aload_n 1, 0, 0), (93, .aload_n 2, 0, 0), (94, .iload_n 3, 0, 0), (95, .iload 8, 0, 0), (97, .invokestatic 63, 67, 4), (100, .iload 7, 0, 0), (102, .if_icmp .ne 26, 0, 0), (105, .iload 6, 0, 0), (107, .ifCond .ne 9, 0, 0), (110, .aload_n 0, 0, 0), (111, .bipush 59, 0, 0), (113, .invokevirtual 55, 64, 1), (116, .aload_n 0, 0, 0), (117, .aload_n 1, 0, 0), (118, .aload_n 2, 0, 0), (119, .iload_n 3, 0, 0), (120, .iload 8, 0, 0), (122, .invokevirtual 67, 68, 4), (125, .iconst 0, 0, 0), (126, .istore 6, 0, 0), (128, .iinc 7 1, 0, 0), (131, .goto (-65), 0, 0), (134, .aload_n 0, 0, 0), (135, .bipush 10, 0, 0), (137, .invokevirtual 55, 64, 1), (140, .return_, 0, 0)])
/-- WitnessBench$Sheet.putNumber(I)V -/
def ev_m63 : ev_M := (⟨"WitnessBench$Sheet", "putNumber", "(I)V"⟩, prog_8_method_13_code, 2, none, [],
  [(0, .iload_n 1, 0, 0), (1, .bipush 10, 0, 0), (3, .if_icmp .lt 15, 0, 0), (6, .aload_n 0, 0, 0), (7, .bipush 48, 0, 0), (9, .iload_n 1, 0, 0), (10, .bipush 10, 0, 0), (12, .idiv, 0, 0), (13, .iadd, 0, 0), (14, .i2c, 0, 0), (15, .invokevirtual 55, 64, 1), (18, .aload_n 0, 0, 0), (19, .bipush 48, 0, 0), (21, .iload_n 1, 0, 0), (22, .bipush 10, 0, 0), (24, .irem, 0, 0), (25, .iadd, 0, 0), (26, .i2c, 0, 0), (27, .invokevirtual 55, 64, 1), (30, .return_, 0, 0)])
/-- WitnessBench$Sheet.put(C)V -/
def ev_m64 : ev_M := (⟨"WitnessBench$Sheet", "put", "(C)V"⟩, prog_8_method_14_code, 2, none, [],
  [(0, .aload_n 0, 0, 0), (1, .getfield 15, 5, 1), (4, .aload_n 0, 0, 0), (5, .getfield 9, 5, 0), (8, .arraylength, 0, 0), (9, .if_icmp .ge 23, 0, 0), (12, .aload_n 0, 0, 0), (13, .getfield 9, 5, 0), (16, .aload_n 0, 0, 0), (17, .getfield 15, 5, 1), (20, .iload_n 1, 0, 0), (21, .castore, 0, 0), (22, .aload_n 0, 0, 0), (23, .dup, 0, 0), (24, .getfield 15, 5, 1), (27, .iconst 1, 0, 0), (28, .iadd, 0, 0), (29, .putfield 15, 5, 1), (32, .return_, 0, 0)])
/-- WitnessBench$Sheet.putReading(LWitnessBench$Words;I)V -/
def ev_m65 : ev_M := (⟨"WitnessBench$Sheet", "putReading", "(LWitnessBench$Words;I)V"⟩, prog_8_method_11_code, 3, none, [],
  [(0, .iload_n 2, 0, 0), (1, .iconst (-1), 0, 0), (2, .if_icmp .ne 12, 0, 0), (5, .aload_n 0, 0, 0), (6, .bipush 45, 0, 0), (8, .invokevirtual 55, 64, 1), (11, .goto 49, 0, 0), (14, .aload_n 1, 0, 0), (15, .iload_n 2, 0, 0), (16, .invokevirtual 71, 21, 1), (19, .ifCond .eq 12, 0, 0), (22, .aload_n 0, 0, 0), (23, .bipush 63, 0, 0), (25, .invokevirtual 55, 64, 1), (28, .goto 32, 0, 0), (31, .aload_n 1, 0, 0), (32, .iload_n 2, 0, 0), (33, .invokevirtual 74, 22, 1), (36, .invokevirtual 78, 5, 0), (39, .ifCond .ne 12, 0, 0), (42, .aload_n 0, 0, 0), (43, .bipush 46, 0, 0), (45, .invokevirtual 55, 64, 1), (48, .goto 12, 0, 0), (51, .aload_n 0, 0, 0), (52, .aload_n 1, 0, 0), (53, .iload_n 2, 0, 0), (54, .invokevirtual 74, 22, 1), (57, .invokevirtual 83, 66, 1), (60, .return_, 0, 0)])
/-- WitnessBench$Sheet.putLetters(LWitnessBench$Letters;)V -/
def ev_m66 : ev_M := (⟨"WitnessBench$Sheet", "putLetters", "(LWitnessBench$Letters;)V"⟩, prog_8_method_12_code, 3, none, [],
  [(0, .iconst 0, 0, 0), (1, .istore_n 2, 0, 0), (2, .iload_n 2, 0, 0), (3, .aload_n 1, 0, 0), (4, .invokevirtual 78, 5, 0), (7, .if_icmp .ge 18, 0, 0), (10, .aload_n 0, 0, 0), (11, .aload_n 1, 0, 0), (12, .iload_n 2, 0, 0), (13, .invokevirtual 87, 6, 1), (16, .invokevirtual 55, 64, 1), (19, .iinc 2 1, 0, 0), (22, .goto (-20), 0, 0), (25, .return_, 0, 0)])
/-- WitnessBench$Sheet.firstReader(LWitnessBench$Table;LWitnessBench$Words;II)I -/
def ev_m67 : ev_M := (⟨"WitnessBench$Sheet", "firstReader", "(LWitnessBench$Table;LWitnessBench$Words;II)I"⟩, prog_8_method_9_code, 5, some .int, [],
  [(0, .iconst 0, 0, 0), (1, .istore 4, 0, 0), (3, .iload 4, 0, 0), (5, .iconst 4, 0, 0), (6, .if_icmp .ge 36, 0, 0), (9, .aload_n 0, 0, 0), (10, .iload 4, 0, 0), (12, .invokevirtual 37, 40, 1), (15, .ifCond .eq 21, 0, 0), (18, .aload_n 1, 0, 0), (19, .aload_n 0, 0, 0), (20, .iload_n 2, 0, 0), (21, .iload 4, 0, 0), (23, .invokevirtual 41, 38, 2), (26, .iload_n 3, 0, 0), (27, .invokevirtual 45, 20, 2), (30, .ifCond .eq 6, 0, 0), (33, .iload 4, 0, 0), (35, .ireturn, 0, 0), (36, .iinc 4 1, 0, 0), (39, .goto (-36), 0, 0), (42, .iconst (-1), 0, 0), (43, .ireturn, 0, 0)])
/-- WitnessBench$Sheet.putGroup(LWitnessBench$Table;LWitnessBench$Words;II)V -/
def ev_m68 : ev_M := (⟨"WitnessBench$Sheet", "putGroup", "(LWitnessBench$Table;LWitnessBench$Words;II)V"⟩, prog_8_method_10_code, 6, none, [],
  [(0, .aload_n 0, 0, 0), (1, .bipush 32, 0, 0), (3, .invokevirtual 55, 64, 1), (6, .aload_n 0, 0, 0), (7, .aload_n 2, 0, 0), (8, .iload 4, 0, 0), (10, .invokevirtual 59, 65, 2), (13, .aload_n 0, 0, 0), (14, .bipush 32, 0, 0), (16, .invokevirtual 55, 64, 1), (19, .iconst 0, 0, 0), (20, .istore 5, 0, 0), (22, .iload 5, 0, 0), (24, .iconst 4, 0, 0), (25, .if_icmp .ge 44, 0, 0), (28, .aload_n 1, 0, 0), (29, .iload 5, 0, 0), (31, .invokevirtual 37, 40, 1), (34, .ifCond .eq 29, 0, 0), (37, .aload_n 2, 0, 0), (38, .aload_n 1, 0, 0), (39, .iload_n 3, 0, 0), (40, .iload 5, 0, 0), (42, .invokevirtual 41, 38, 2), (45, .iload 4, 0, 0), (47, .invokevirtual 45, 20, 2), (50, .ifCond .eq 13, 0, 0), (53, .aload_n 0, 0, 0), (54, .bipush 65, 0, 0), (56, .iload 5, 0, 0), (58, .iadd, 0, 0), (59, .i2c, 0, 0), (60, .invokevirtual 55, 64, 1), (63, .iinc 5 1, 0, 0), (66, .goto (-44), 0, 0), (69, .return_, 0, 0)])
/-- WitnessBench$Sheet.size()I -/
def ev_m69 : ev_M := (⟨"WitnessBench$Sheet", "size", "()I"⟩, prog_8_method_2_code, 1, some .int, [],
  [(0, .aload_n 0, 0, 0), (1, .getfield 15, 5, 1), (4, .ireturn, 0, 0)])
/-- WitnessBench$Sheet.sign(I)C -/
def ev_m70 : ev_M := (⟨"WitnessBench$Sheet", "sign", "(I)C"⟩, prog_8_method_3_code, 2, some .char, [],
  [(0, .aload_n 0, 0, 0), (1, .getfield 9, 5, 0), (4, .iload_n 1, 0, 0), (5, .caload, 0, 0), (6, .ireturn, 0, 0)])
/-- WitnessBench$Sheet.change(IC)V -/
def ev_m71 : ev_M := (⟨"WitnessBench$Sheet", "change", "(IC)V"⟩, prog_8_method_4_code, 3, none, [],
  [(0, .aload_n 0, 0, 0), (1, .getfield 9, 5, 0), (4, .iload_n 1, 0, 0), (5, .iload_n 2, 0, 0), (6, .castore, 0, 0), (7, .return_, 0, 0)])
/-- WitnessBench$Sheet.run(ICCI)I -/
def ev_m72 : ev_M := (⟨"WitnessBench$Sheet", "run", "(ICCI)I"⟩, prog_8_method_5_code, 6, some .int, [],
  [(0, .iconst 0, 0, 0), (1, .istore 5, 0, 0), (3, .iload 5, 0, 0), (5, .iload 4, 0, 0), (7, .if_icmp .ge 46, 0, 0), (10, .iload_n 1, 0, 0), (11, .iload 5, 0, 0), (13, .iadd, 0, 0), (14, .aload_n 0, 0, 0), (15, .getfield 15, 5, 1), (18, .if_icmp .ge 35, 0, 0), (21, .aload_n 0, 0, 0), (22, .getfield 9, 5, 0), (25, .iload_n 1, 0, 0), (26, .iload 5, 0, 0), (28, .iadd, 0, 0), (29, .caload, 0, 0), (30, .iload_n 2, 0, 0), (31, .if_icmp .lt 22, 0, 0), (34, .aload_n 0, 0, 0), (35, .getfield 9, 5, 0), (38, .iload_n 1, 0, 0), (39, .iload 5, 0, 0), (41, .iadd, 0, 0), (42, .caload, 0, 0), (43, .iload_n 3, 0, 0), (44, .if_icmp .gt 9, 0, 0), (47, .iinc 5 1, 0, 0), (50, .goto (-47), 0, 0), (53, .iload 5, 0, 0), (55, .ireturn, 0, 0)])
/-- WitnessBench$Reader.<init>()V -/
def ev_m73 : ev_M := (⟨"WitnessBench$Reader", "<init>", "()V"⟩, prog_6_method_1_code, 2, none, [],
  [(0, .aload_n 0, 0, 0), (1, .invokespecial 3, 999, 0), (4, .aload_n 0, 0, 0), (5, .bipush 24, 0, 0), (7, .anewarray 9, 0, 0), (10, .putfield 11, 6, 0), (13, .iconst 0, 0, 0), (14, .istore_n 1, 0, 0), (15, .iload_n 1, 0, 0), (16, .bipush 24, 0, 0), (18, .if_icmp .ge 24, 0, 0), (21, .aload_n 0, 0, 0), (22, .getfield 11, 6, 0), (25, .iload_n 1, 0, 0), (26, .new 9, 0, 0), (29, .dup, 0, 0), (30, .bipush 12, 0, 0), (32, .invokespecial 17, 3, 1), (35, .aastore, 0, 0), (36, .iinc 1 1, 0, 0), (39, .goto (-24), 0, 0), (42, .aload_n 0, 0, 0), (43, .bipush 24, 0, 0), (45, .newarray .int, 0, 0), (47, .putfield 20, 6, 2), (50, .return_, 0, 0)])
/-- WitnessBench$Reader.builtLetter(II)I -/
def ev_m74 : ev_M := (⟨"WitnessBench$Reader", "builtLetter", "(II)I"⟩, prog_6_method_3_code, 4, some .int, [],
  [(0, .iload_n 1, 0, 0), (1, .ifCond .lt 11, 0, 0), (4, .iload_n 1, 0, 0), (5, .aload_n 0, 0, 0), (6, .getfield 24, 6, 1), (9, .if_icmp .lt 5, 0, 0), (12, .iconst (-1), 0, 0), (13, .ireturn, 0, 0), (14, .aload_n 0, 0, 0), (15, .getfield 11, 6, 0), (18, .iload_n 1, 0, 0), (19, .aaload, 0, 0), (20, .astore_n 3, 0, 0), (21, .aload_n 3, 0, 0), (22, .invokevirtual 28, 4, 0), (25, .ifCond .eq 14, 0, 0), (28, .iload_n 2, 0, 0), (29, .ifCond .ne 8, 0, 0), (32, .bipush 63, 0, 0), (34, .goto 4, 0, 0), (37, .iconst (-1), 0, 0), (38, .ireturn, 0, 0), (39, .iload_n 2, 0, 0), (40, .ifCond .lt 19, 0, 0), (43, .iload_n 2, 0, 0), (44, .aload_n 3, 0, 0), (45, .invokevirtual 32, 5, 0), (48, .if_icmp .ge 11, 0, 0), (51, .aload_n 3, 0, 0), (52, .iload_n 2, 0, 0), (53, .invokevirtual 36, 6, 1), (56, .goto 4, 0, 0), (59, .iconst (-1), 0, 0), (60, .ireturn, 0, 0)])
/-- WitnessBench$Reader.read(LWitnessBench$Sheet;LWitnessBench$Table;LWitnessBench$Words;I)I -/
def ev_m75 : ev_M := (⟨"WitnessBench$Reader", "read", "(LWitnessBench$Sheet;LWitnessBench$Table;LWitnessBench$Words;I)I"⟩, prog_6_method_4_code, 6, some .int, [],
  [(0, .aload_n 0, 0, 0), (1, .iload 4, 0, 0), (3, .putfield 40, 6, 3), (6, .aload_n 0, 0, 0), (7, .iconst 0, 0, 0), (8, .putfield 43, 6, 4), (11, .aload_n 0, 0, 0), (12, .iconst (-1), 0, 0), (13, .putfield 46, 6, 5), (16, .aload_n 0, 0, 0), (17, .getfield 20, 6, 2), (20, .iconst (-1), 0, 0), (21, .invokestatic 49, 2, 2), (24, .iconst 0, 0, 0), (25, .istore 5, 0, 0), (27, .iload 5, 0, 0), (29, .bipush 24, 0, 0), (31, .if_icmp .gt 35, 0, 0), (34, .aload_n 0, 0, 0), (35, .getfield 43, 6, 4), (38, .aload_n 1, 0, 0), (39, .invokevirtual 55, 69, 0), (42, .if_icmp .ge 24, 0, 0), (45, .aload_n 0, 0, 0), (46, .aload_n 1, 0, 0), (47, .aload_n 2, 0, 0), (48, .aload_n 3, 0, 0), (49, .invokevirtual 58, 76, 3), (52, .ifCond .ne 8, 0, 0), (55, .aload_n 0, 0, 0), (56, .getfield 43, 6, 4), (59, .ireturn, 0, 0), (60, .iinc 5 1, 0, 0), (63, .goto (-36), 0, 0), (66, .aload_n 0, 0, 0), (67, .aload_n 1, 0, 0), (68, .aload_n 2, 0, 0), (69, .aload_n 3, 0, 0), (70, .invokevirtual 62, 84, 3), (73, .iconst (-1), 0, 0), (74, .ireturn, 0, 0)])
/-- WitnessBench$Reader.readEntry(LWitnessBench$Sheet;LWitnessBench$Table;LWitnessBench$Words;)Z -/
def ev_m76 : ev_M := (⟨"WitnessBench$Reader", "readEntry", "(LWitnessBench$Sheet;LWitnessBench$Table;LWitnessBench$Words;)Z"⟩, prog_6_method_5_code, 5, some .boolean, [],
  [(0, .aload_n 0, 0, 0), (1, .aload_n 1, 0, 0), (2, .aload_n 2, 0, 0), (3, .invokevirtual 66, 77, 2), (6, .ifCond .eq 13, 0, 0), (9, .aload_n 0, 0, 0), (10, .aload_n 1, 0, 0), (11, .bipush 32, 0, 0), (13, .invokevirtual 70, 78, 2), (16, .ifCond .ne 5, 0, 0), (19, .iconst 0, 0, 0), (20, .ireturn, 0, 0), (21, .aload_n 0, 0, 0), (22, .aload_n 1, 0, 0), (23, .aload_n 2, 0, 0), (24, .aload_n 3, 0, 0), (25, .invokevirtual 74, 79, 3), (28, .ifCond .eq 13, 0, 0), (31, .aload_n 0, 0, 0), (32, .aload_n 1, 0, 0), (33, .bipush 93, 0, 0), (35, .invokevirtual 70, 78, 2), (38, .ifCond .ne 5, 0, 0), (41, .iconst 0, 0, 0), (42, .ireturn, 0, 0), (43, .aload_n 0, 0, 0), (44, .iconst 0, 0, 0), (45, .putfield 77, 6, 6), (48, .iconst 0, 0, 0), (49, .istore 4, 0, 0), (51, .iload 4, 0, 0), (53, .iconst 4, 0, 0), (54, .if_icmp .gt 44, 0, 0), (57, .aload_n 0, 0, 0), (58, .aload_n 1, 0, 0), (59, .aload_n 2, 0, 0), (60, .invokevirtual 80, 81, 2), (63, .ifCond .ne 5, 0, 0), (66, .iconst 0, 0, 0), (67, .ireturn, 0, 0), (68, .aload_n 0, 0, 0), (69, .aload_n 1, 0, 0), (70, .bipush 10, 0, 0), (72, .invokevirtual 70, 78, 2), (75, .ifCond .eq 5, 0, 0), (78, .iconst 1, 0, 0), (79, .ireturn, 0, 0), (80, .aload_n 0, 0, 0), (81, .aload_n 1, 0, 0), (82, .bipush 59, 0, 0), (84, .invokevirtual 70, 78, 2), (87, .ifCond .ne 5, 0, 0), (90, .iconst 0, 0, 0), (91, .ireturn, 0, 0), (92, .iinc 4 1, 0, 0), (95, .goto (-44), 0, 0), (98, .iconst 0, 0, 0), (99, .ireturn, 0, 0)])
/-- WitnessBench$Reader.readPlace(LWitnessBench$Sheet;LWitnessBench$Table;)Z -/
def ev_m77 : ev_M := (⟨"WitnessBench$Reader", "readPlace", "(LWitnessBench$Sheet;LWitnessBench$Table;)Z"⟩, prog_6_method_6_code, 6, some .boolean, [],
  [(0, .aload_n 1, 0, 0), (1, .aload_n 0, 0, 0), (2, .getfield 43, 6, 4), (5, .bipush 48, 0, 0), (7, .bipush 57, 0, 0), (9, .iconst 2, 0, 0), (10, .invokevirtual 83, 72, 4), (13, .istore_n 3, 0, 0), (14, .iload_n 3, 0, 0), (15, .ifCond .eq 21, 0, 0), (18, .iload_n 3, 0, 0), (19, .iconst 1, 0, 0), (20, .if_icmp .le 18, 0, 0), (23, .aload_n 1, 0, 0), (24, .aload_n 0, 0, 0), (25, .getfield 43, 6, 4), (28, .invokevirtual 87, 70, 1), (31, .bipush 48, 0, 0), (33, .if_icmp .ne 5, 0, 0), (36, .iconst 0, 0, 0), (37, .ireturn, 0, 0), (38, .iconst 0, 0, 0), (39, .istore 4, 0, 0), (41, .iconst 0, 0, 0), (42, .istore 5, 0, 0), (44, .iload 5, 0, 0), (46, .iload_n 3, 0, 0), (47, .if_icmp .ge 31, 0, 0), (50, .bipush 10, 0, 0), (52, .iload 4, 0, 0), (54, .imul, 0, 0), (55, .aload_n 1, 0, 0), (56, .aload_n 0, 0, 0), (57, .getfield 43, 6, 4), (60, .iload 5, 0, 0), (62, .iadd, 0, 0), (63, .invokevirtual 87, 70, 1), (66, .bipush 48, 0, 0), (68, .isub, 0, 0), (69, .iadd, 0, 0), (70, .istore 4, 0, 0), (72, .iinc 5 1, 0, 0), (75, .goto (-31), 0, 0), (78, .iload 4, 0, 0), (80, .aload_n 0, 0, 0), (81, .getfield 46, 6, 5), (84, .if_icmp .le 12, 0, 0), (87, .iload 4, 0, 0), (89, .aload_n 2, 0, 0), (90, .invokevirtual 90, 36, 0), (93, .if_icmp .lt 5, 0, 0), (96, .iconst 0, 0, 0), (97, .ireturn, 0, 0), (98, .aload_n 0, 0, 0), (99, .iload 4, 0, 0), (101, .putfield 46, 6, 5), (104, .aload_n 0, 0, 0), (105, .dup, 0, 0), (106, .getfield 43, 6, 4), (109, .iload_n 3, 0, 0), (110, .iadd, 0, 0), (111, .putfield 43, 6, 4), (114, .iconst 1, 0, 0), (115, .ireturn, 0, 0)])
/-- WitnessBench$Reader.readSign(LWitnessBench$Sheet;C)Z -/
def ev_m78 : ev_M := (⟨"WitnessBench$Reader", "readSign", "(LWitnessBench$Sheet;C)Z"⟩, prog_6_method_7_code, 3, some .boolean, [],
  [(0, .aload_n 0, 0, 0), (1, .getfield 43, 6, 4), (4, .aload_n 1, 0, 0), (5, .invokevirtual 55, 69, 0), (8, .if_icmp .ge 15, 0, 0), (11, .aload_n 1, 0, 0), (12, .aload_n 0, 0, 0), (13, .getfield 43, 6, 4), (16, .invokevirtual 87, 70, 1), (19, .iload_n 2, 0, 0), (20, .if_icmp .eq 5, 0, 0), (23, .iconst 0, 0, 0), (24, .ireturn, 0, 0), (25, .aload_n 0, 0, 0), (26, .dup, 0, 0), (27, .getfield 43, 6, 4), (30, .iconst 1, 0, 0), (31, .iadd, 0, 0), (32, .putfield 43, 6, 4), (35, .iconst 1, 0, 0), (36, .ireturn, 0, 0)])
/-- WitnessBench$Reader.readLemma(LWitnessBench$Sheet;LWitnessBench$Table;LWitnessBench$Words;)Z -/
def ev_m79 : ev_M := (⟨"WitnessBench$Reader", "readLemma", "(LWitnessBench$Sheet;LWitnessBench$Table;LWitnessBench$Words;)Z"⟩, prog_6_method_8_code, 6, some .boolean, [],
  [(0, .aload_n 2, 0, 0), (1, .aload_n 0, 0, 0), (2, .getfield 46, 6, 5), (5, .invokevirtual 95, 37, 1), (8, .istore 4, 0, 0), (10, .iload 4, 0, 0), (12, .iconst (-1), 0, 0), (13, .if_icmp .ne 11, 0, 0), (16, .aload_n 0, 0, 0), (17, .aload_n 1, 0, 0), (18, .bipush 45, 0, 0), (20, .invokevirtual 70, 78, 2), (23, .ireturn, 0, 0), (24, .aload_n 3, 0, 0), (25, .iload 4, 0, 0), (27, .invokevirtual 99, 21, 1), (30, .ifCond .eq 11, 0, 0), (33, .aload_n 0, 0, 0), (34, .aload_n 1, 0, 0), (35, .bipush 63, 0, 0), (37, .invokevirtual 70, 78, 2), (40, .ireturn, 0, 0), (41, .aload_n 3, 0, 0), (42, .iload 4, 0, 0), (44, .invokevirtual 104, 22, 1), (47, .astore 5, 0, 0), (49, .aload 5, 0, 0), (51, .invokevirtual 32, 5, 0), (54, .ifCond .ne 13, 0, 0), (57, .aload_n 0, 0, 0), (58, .aload_n 1, 0, 0), (59, .bipush 46, 0, 0), (61, .invokevirtual 70, 78, 2), (64, .goto 10, 0, 0), (67, .aload_n 0, 0, 0), (68, .aload_n 1, 0, 0), (69, .aload 5, 0, 0), (71, .invokevirtual 108, 80, 2), (74, .ireturn, 0, 0)])
/-- WitnessBench$Reader.readLetters(LWitnessBench$Sheet;LWitnessBench$Letters;)Z -/
def ev_m80 : ev_M := (⟨"WitnessBench$Reader", "readLetters", "(LWitnessBench$Sheet;LWitnessBench$Letters;)Z"⟩, prog_6_method_9_code, 5, some .boolean, [],
  [(0, .aload_n 1, 0, 0), (1, .aload_n 0, 0, 0), (2, .getfield 43, 6, 4), (5, .bipush 97, 0, 0), (7, .bipush 122, 0, 0), (9, .bipush 12, 0, 0), (11, .invokevirtual 83, 72, 4), (14, .istore_n 3, 0, 0), (15, .iload_n 3, 0, 0), (16, .aload_n 2, 0, 0), (17, .invokevirtual 32, 5, 0), (20, .if_icmp .eq 5, 0, 0), (23, .iconst 0, 0, 0), (24, .ireturn, 0, 0), (25, .iconst 0, 0, 0), (26, .istore 4, 0, 0), (28, .iload 4, 0, 0), (30, .iload_n 3, 0, 0), (31, .if_icmp .ge 31, 0, 0), (34, .aload_n 1, 0, 0), (35, .aload_n 0, 0, 0), (36, .getfield 43, 6, 4), (39, .iload 4, 0, 0), (41, .iadd, 0, 0), (42, .invokevirtual 87, 70, 1), (45, .aload_n 2, 0, 0), (46, .iload 4, 0, 0), (48, .invokevirtual 36, 6, 1), (51, .if_icmp .eq 5, 0, 0), (54, .iconst 0, 0, 0), (55, .ireturn, 0, 0), (56, .iinc 4 1, 0, 0), (59, .goto (-31), 0, 0), (62, .aload_n 0, 0, 0), (63, .dup, 0, 0), (64, .getfield 43, 6, 4), (67, .iload_n 3, 0, 0), (68, .iadd, 0, 0), (69, .putfield 43, 6, 4), (72, .iconst 1, 0, 0), (73, .ireturn, 0, 0)])
/-- WitnessBench$Reader.readGroup(LWitnessBench$Sheet;LWitnessBench$Table;)Z -/
def ev_m81 : ev_M := (⟨"WitnessBench$Reader", "readGroup", "(LWitnessBench$Sheet;LWitnessBench$Table;)Z"⟩, prog_6_method_10_code, 4, some .boolean, [],
  [(0, .aload_n 0, 0, 0), (1, .aload_n 1, 0, 0), (2, .bipush 32, 0, 0), (4, .invokevirtual 70, 78, 2), (7, .ifCond .ne 5, 0, 0), (10, .iconst 0, 0, 0), (11, .ireturn, 0, 0), (12, .aload_n 0, 0, 0), (13, .getfield 43, 6, 4), (16, .istore_n 3, 0, 0), (17, .aload_n 0, 0, 0), (18, .aload_n 1, 0, 0), (19, .invokevirtual 112, 82, 1), (22, .ifCond .eq 27, 0, 0), (25, .aload_n 0, 0, 0), (26, .aload_n 1, 0, 0), (27, .bipush 32, 0, 0), (29, .invokevirtual 70, 78, 2), (32, .ifCond .eq 17, 0, 0), (35, .aload_n 0, 0, 0), (36, .aload_n 1, 0, 0), (37, .aload_n 2, 0, 0), (38, .iload_n 3, 0, 0), (39, .invokevirtual 116, 83, 3), (42, .ifCond .eq 7, 0, 0), (45, .iconst 1, 0, 0), (46, .goto 4, 0, 0), (49, .iconst 0, 0, 0), (50, .ireturn, 0, 0)])
/-- WitnessBench$Reader.readReading(LWitnessBench$Sheet;)Z -/
def ev_m82 : ev_M := (⟨"WitnessBench$Reader", "readReading", "(LWitnessBench$Sheet;)Z"⟩, prog_6_method_11_code, 3, some .boolean, [],
  [(0, .aload_n 1, 0, 0), (1, .aload_n 0, 0, 0), (2, .getfield 43, 6, 4), (5, .bipush 97, 0, 0), (7, .bipush 122, 0, 0), (9, .bipush 12, 0, 0), (11, .invokevirtual 83, 72, 4), (14, .istore_n 2, 0, 0), (15, .iload_n 2, 0, 0), (16, .ifCond .ne 39, 0, 0), (19, .aload_n 0, 0, 0), (20, .aload_n 1, 0, 0), (21, .bipush 45, 0, 0), (23, .invokevirtual 70, 78, 2), (26, .ifCond .ne 23, 0, 0), (29, .aload_n 0, 0, 0), (30, .aload_n 1, 0, 0), (31, .bipush 63, 0, 0), (33, .invokevirtual 70, 78, 2), (36, .ifCond .ne 13, 0, 0), (39, .aload_n 0, 0, 0), (40, .aload_n 1, 0, 0), (41, .bipush 46, 0, 0), (43, .invokevirtual 70, 78, 2), (46, .ifCond .eq 7, 0, 0), (49, .iconst 1, 0, 0), (50, .goto 4, 0, 0), (53, .iconst 0, 0, 0), (54, .ireturn, 0, 0), (55, .aload_n 0, 0, 0), (56, .dup, 0, 0), (57, .getfield 43, 6, 4), (60, .iload_n 2, 0, 0), (61, .iadd, 0, 0), (62, .putfield 43, 6, 4), (65, .iconst 1, 0, 0), (66, .ireturn, 0, 0)])
/-- WitnessBench$Reader.readWitnesses(LWitnessBench$Sheet;LWitnessBench$Table;I)Z -/
def ev_m83 : ev_M := (⟨"WitnessBench$Reader", "readWitnesses", "(LWitnessBench$Sheet;LWitnessBench$Table;I)Z"⟩, prog_6_method_12_code, 9, some .boolean, [],
  [(0, .aload_n 1, 0, 0), (1, .aload_n 0, 0, 0), (2, .getfield 43, 6, 4), (5, .bipush 65, 0, 0), (7, .bipush 90, 0, 0), (9, .iconst 4, 0, 0), (10, .invokevirtual 83, 72, 4), (13, .istore 4, 0, 0), (15, .iconst (-1), 0, 0), (16, .istore 5, 0, 0), (18, .iconst 0, 0, 0), (19, .istore 6, 0, 0), (21, .iconst 0, 0, 0), (22, .istore 7, 0, 0), (24, .iload 7, 0, 0), (26, .iload 4, 0, 0), (28, .if_icmp .ge 69, 0, 0), (31, .aload_n 1, 0, 0), (32, .aload_n 0, 0, 0), (33, .getfield 43, 6, 4), (36, .iload 7, 0, 0), (38, .iadd, 0, 0), (39, .invokevirtual 87, 70, 1), (42, .bipush 65, 0, 0), (44, .isub, 0, 0), (45, .istore 8, 0, 0), (47, .iload 8, 0, 0), (49, .iload 5, 0, 0), (51, .if_icmp .le 25, 0, 0), (54, .aload_n 2, 0, 0), (55, .iload 8, 0, 0), (57, .invokevirtual 120, 40, 1), (60, .ifCond .eq 16, 0, 0), (63, .aload_n 0, 0, 0), (64, .getfield 77, 6, 6), (67, .iload 8, 0, 0), (69, .ishr, 0, 0), (70, .iconst 1, 0, 0), (71, .iand, 0, 0), (72, .iconst 1, 0, 0), (73, .if_icmp .ne 5, 0, 0), (76, .iconst 0, 0, 0), (77, .ireturn, 0, 0), (78, .iload 8, 0, 0), (80, .istore 5, 0, 0), (82, .iload 6, 0, 0), (84, .iconst 1, 0, 0), (85, .iload 8, 0, 0), (87, .ishl, 0, 0), (88, .ior, 0, 0), (89, .istore 6, 0, 0), (91, .iinc 7 1, 0, 0), (94, .goto (-70), 0, 0), (97, .aload_n 0, 0, 0), (98, .dup, 0, 0), (99, .getfield 77, 6, 6), (102, .iload 6, 0, 0), (104, .ior, 0, 0), (105, .putfield 77, 6, 6), (108, .iload 6, 0, 0), (110, .aload_n 0, 0, 0), (111, .getfield 40, 6, 3), (114, .ishr, 0, 0), (115, .iconst 1, 0, 0), (116, .iand, 0, 0), (117, .iconst 1, 0, 0), (118, .if_icmp .ne 13, 0, 0), (121, .aload_n 0, 0, 0), (122, .getfield 20, 6, 2), (125, .aload_n 0, 0, 0), (126, .getfield 46, 6, 5), (129, .iload_n 3, 0, 0), (130, .iastore, 0, 0), (131, .aload_n 0, 0, 0), (132, .dup, 0, 0), (133, .getfield 43, 6, 4), (136, .iload 4, 0, 0), (138, .iadd, 0, 0), (139, .putfield 43, 6, 4), (142, .iload 4, 0, 0), (144, .ifCond .le 7, 0, 0), (147, .iconst 1, 0, 0), (148, .goto 4, 0, 0), (151, .iconst 0, 0, 0), (152, .ireturn, 0, 0)])
/-- WitnessBench$Reader.buildAll(LWitnessBench$Sheet;LWitnessBench$Table;LWitnessBench$Words;)V -/
def ev_m84 : ev_M := (⟨"WitnessBench$Reader", "buildAll", "(LWitnessBench$Sheet;LWitnessBench$Table;LWitnessBench$Words;)V"⟩, prog_6_method_13_code, 6, none, [],
  [(0, .aload_n 0, 0, 0), (1, .iconst 0, 0, 0), (2, .putfield 24, 6, 1), (5, .iconst 0, 0, 0), (6, .istore 4, 0, 0), (8, .iload 4, 0, 0), (10, .aload_n 2, 0, 0), (11, .invokevirtual 90, 36, 0), (14, .if_icmp .ge 77, 0, 0), (17, .aload_n 2, 0, 0), (18, .iload 4, 0, 0), (20, .invokevirtual 95, 37, 1), (23, .istore 5, 0, 0), (25, .aload_n 0, 0, 0), (26, .getfield 20, 6, 2), (29, .iload 4, 0, 0), (31, .iaload, 0, 0), (32, .iconst (-1), 0, 0), (33, .if_icmp .eq 18, 0, 0), (36, .aload_n 0, 0, 0), (37, .aload_n 1, 0, 0), (38, .aload_n 0, 0, 0), (39, .getfield 20, 6, 2), (42, .iload 4, 0, 0), (44, .iaload, 0, 0), (45, .invokevirtual 123, 85, 2), (48, .goto 37, 0, 0), (51, .iload 5, 0, 0), (53, .iconst (-1), 0, 0), (54, .if_icmp .eq 31, 0, 0), (57, .aload_n 0, 0, 0), (58, .getfield 11, 6, 0), (61, .aload_n 0, 0, 0), (62, .getfield 24, 6, 1), (65, .aaload, 0, 0), (66, .aload_n 3, 0, 0), (67, .iload 5, 0, 0), (69, .invokevirtual 104, 22, 1), (72, .invokevirtual 127, 13, 1), (75, .aload_n 0, 0, 0), (76, .dup, 0, 0), (77, .getfield 24, 6, 1), (80, .iconst 1, 0, 0), (81, .iadd, 0, 0), (82, .putfield 24, 6, 1), (85, .iinc 4 1, 0, 0), (88, .goto (-80), 0, 0), (91, .return_, 0, 0)])
/-- WitnessBench$Reader.buildReading(LWitnessBench$Sheet;I)V -/
def ev_m85 : ev_M := (⟨"WitnessBench$Reader", "buildReading", "(LWitnessBench$Sheet;I)V"⟩, prog_6_method_14_code, 7, none, [],
  [(0, .aload_n 1, 0, 0), (1, .iload_n 2, 0, 0), (2, .invokevirtual 87, 70, 1), (5, .istore_n 3, 0, 0), (6, .iload_n 3, 0, 0), (7, .bipush 45, 0, 0), (9, .if_icmp .ne 4, 0, 0), (12, .return_, 0, 0), (13, .aload_n 0, 0, 0), (14, .getfield 11, 6, 0), (17, .aload_n 0, 0, 0), (18, .getfield 24, 6, 1), (21, .aaload, 0, 0), (22, .astore 4, 0, 0), (24, .aload_n 0, 0, 0), (25, .dup, 0, 0), (26, .getfield 24, 6, 1), (29, .iconst 1, 0, 0), (30, .iadd, 0, 0), (31, .putfield 24, 6, 1), (34, .aload 4, 0, 0), (36, .iconst 0, 0, 0), (37, .invokevirtual 131, 7, 1), (40, .aload_n 1, 0, 0), (41, .iload_n 2, 0, 0), (42, .bipush 97, 0, 0), (44, .bipush 122, 0, 0), (46, .bipush 12, 0, 0), (48, .invokevirtual 83, 72, 4), (51, .istore 5, 0, 0), (53, .iconst 0, 0, 0), (54, .istore 6, 0, 0), (56, .iload 6, 0, 0), (58, .iload 5, 0, 0), (60, .if_icmp .ge 22, 0, 0), (63, .aload 4, 0, 0), (65, .aload_n 1, 0, 0), (66, .iload_n 2, 0, 0), (67, .iload 6, 0, 0), (69, .iadd, 0, 0), (70, .invokevirtual 87, 70, 1), (73, .invokevirtual 134, 9, 1), (76, .iinc 6 1, 0, 0), (79, .goto (-23), 0, 0), (82, .iload_n 3, 0, 0), (83, .bipush 63, 0, 0), (85, .if_icmp .ne 8, 0, 0), (88, .aload 4, 0, 0), (90, .invokevirtual 138, 11, 0), (93, .return_, 0, 0)])
/-- WitnessBench$Reader.builtCount()I -/
def ev_m86 : ev_M := (⟨"WitnessBench$Reader", "builtCount", "()I"⟩, prog_6_method_2_code, 1, some .int, [],
  [(0, .aload_n 0, 0, 0), (1, .getfield 24, 6, 1), (4, .ireturn, 0, 0)])
/-- WitnessBench$BlockFinder.<init>()V -/
def ev_m87 : ev_M := (⟨"WitnessBench$BlockFinder", "<init>", "()V"⟩, prog_2_method_1_code, 1, none, [],
  [(0, .aload_n 0, 0, 0), (1, .invokespecial 3, 999, 0), (4, .aload_n 0, 0, 0), (5, .sipush 150, 0, 0), (8, .newarray .int, 0, 0), (10, .putfield 11, 7, 0), (13, .return_, 0, 0)])
/-- WitnessBench$BlockFinder.find(LWitnessBench$Table;LWitnessBench$Words;II)I -/
def ev_m88 : ev_M := (⟨"WitnessBench$BlockFinder", "find", "(LWitnessBench$Table;LWitnessBench$Words;II)I"⟩, prog_2_method_4_code, 7, some .int, [],
  [(0, .aload_n 0, 0, 0), (1, .iconst 0, 0, 0), (2, .putfield 15, 7, 1), (5, .iconst 0, 0, 0), (6, .istore 5, 0, 0), (8, .iload 5, 0, 0), (10, .aload_n 2, 0, 0), (11, .iload_n 3, 0, 0), (12, .invokevirtual 19, 26, 1), (15, .if_icmp .ge 90, 0, 0), (18, .iconst 0, 0, 0), (19, .istore 6, 0, 0), (21, .iload 6, 0, 0), (23, .aload_n 2, 0, 0), (24, .iload 4, 0, 0), (26, .invokevirtual 19, 26, 1), (29, .if_icmp .ge 70, 0, 0), (32, .iload 5, 0, 0), (34, .ifCond .eq 33, 0, 0), (37, .iload 6, 0, 0), (39, .ifCond .eq 28, 0, 0), (42, .aload_n 1, 0, 0), (43, .aload_n 2, 0, 0), (44, .iload_n 3, 0, 0), (45, .iload 5, 0, 0), (47, .iconst 1, 0, 0), (48, .isub, 0, 0), (49, .invokestatic 25, 106, 2), (52, .iload 4, 0, 0), (54, .iload 6, 0, 0), (56, .iconst 1, 0, 0), (57, .isub, 0, 0), (58, .invokestatic 25, 106, 2), (61, .invokestatic 29, 89, 4), (64, .ifCond .ne 29, 0, 0), (67, .aload_n 0, 0, 0), (68, .iload 5, 0, 0), (70, .iload 6, 0, 0), (72, .aload_n 1, 0, 0), (73, .aload_n 2, 0, 0), (74, .iload_n 3, 0, 0), (75, .iload 5, 0, 0), (77, .invokestatic 25, 106, 2), (80, .iload 4, 0, 0), (82, .iload 6, 0, 0), (84, .invokestatic 25, 106, 2), (87, .invokestatic 33, 90, 4), (90, .invokevirtual 37, 91, 3), (93, .iinc 6 1, 0, 0), (96, .goto (-75), 0, 0), (99, .iinc 5 1, 0, 0), (102, .goto (-94), 0, 0), (105, .aload_n 0, 0, 0), (106, .getfield 15, 7, 1), (109, .ireturn, 0, 0)])
/-- WitnessBench$BlockFinder.isMoved(LWitnessBench$Table;LWitnessBench$Words;II)Z -/
def ev_m89 : ev_M := (⟨"WitnessBench$BlockFinder", "isMoved", "(LWitnessBench$Table;LWitnessBench$Words;II)Z"⟩, prog_2_method_7_code, 4, some .boolean, [],
  [(0, .aload_n 1, 0, 0), (1, .iload_n 2, 0, 0), (2, .invokevirtual 46, 24, 1), (5, .ifCond .eq 28, 0, 0), (8, .aload_n 1, 0, 0), (9, .iload_n 3, 0, 0), (10, .invokevirtual 46, 24, 1), (13, .ifCond .eq 20, 0, 0), (16, .aload_n 1, 0, 0), (17, .iload_n 2, 0, 0), (18, .invokevirtual 50, 21, 1), (21, .ifCond .ne 12, 0, 0), (24, .aload_n 1, 0, 0), (25, .iload_n 2, 0, 0), (26, .iload_n 3, 0, 0), (27, .invokevirtual 53, 25, 2), (30, .ifCond .ne 5, 0, 0), (33, .iconst 0, 0, 0), (34, .ireturn, 0, 0), (35, .aload_n 0, 0, 0), (36, .iload_n 2, 0, 0), (37, .bipush 10, 0, 0), (39, .idiv, 0, 0), (40, .iload_n 2, 0, 0), (41, .bipush 10, 0, 0), (43, .irem, 0, 0), (44, .iload_n 3, 0, 0), (45, .bipush 10, 0, 0), (47, .idiv, 0, 0), (48, .invokevirtual 57, 48, 3), (51, .iload_n 3, 0, 0), (52, .bipush 10, 0, 0), (54, .irem, 0, 0), (55, .if_icmp .eq 7, 0, 0), (58, .iconst 1, 0, 0), (59, .goto 4, 0, 0), (62, .iconst 0, 0, 0), (63, .ireturn, 0, 0)])
/-- WitnessBench$BlockFinder.movedRun(LWitnessBench$Table;LWitnessBench$Words;II)I -/
def ev_m90 : ev_M := (⟨"WitnessBench$BlockFinder", "movedRun", "(LWitnessBench$Table;LWitnessBench$Words;II)I"⟩, prog_2_method_6_code, 6, some .int, [],
  [(0, .bipush 10, 0, 0), (2, .iload_n 2, 0, 0), (3, .bipush 10, 0, 0), (5, .irem, 0, 0), (6, .iload_n 3, 0, 0), (7, .bipush 10, 0, 0), (9, .irem, 0, 0), (10, .invokestatic 41, 1, 2), (13, .isub, 0, 0), (14, .istore 4, 0, 0), (16, .iconst 0, 0, 0), (17, .istore 5, 0, 0), (19, .iload 5, 0, 0), (21, .iload 4, 0, 0), (23, .if_icmp .ge 25, 0, 0), (26, .aload_n 0, 0, 0), (27, .aload_n 1, 0, 0), (28, .iload_n 2, 0, 0), (29, .iload 5, 0, 0), (31, .iadd, 0, 0), (32, .iload_n 3, 0, 0), (33, .iload 5, 0, 0), (35, .iadd, 0, 0), (36, .invokestatic 29, 89, 4), (39, .ifCond .eq 9, 0, 0), (42, .iinc 5 1, 0, 0), (45, .goto (-26), 0, 0), (48, .iload 5, 0, 0), (50, .ireturn, 0, 0)])
/-- WitnessBench$BlockFinder.keep(III)V -/
def ev_m91 : ev_M := (⟨"WitnessBench$BlockFinder", "keep", "(III)V"⟩, prog_2_method_5_code, 4, none, [],
  [(0, .iload_n 3, 0, 0), (1, .iconst 2, 0, 0), (2, .if_icmp .lt 62, 0, 0), (5, .aload_n 0, 0, 0), (6, .getfield 15, 7, 1), (9, .bipush 50, 0, 0), (11, .if_icmp .ge 53, 0, 0), (14, .aload_n 0, 0, 0), (15, .getfield 11, 7, 0), (18, .aload_n 0, 0, 0), (19, .getfield 15, 7, 1), (22, .iconst 3, 0, 0), (23, .imul, 0, 0), (24, .iload_n 1, 0, 0), (25, .iastore, 0, 0), (26, .aload_n 0, 0, 0), (27, .getfield 11, 7, 0), (30, .aload_n 0, 0, 0), (31, .getfield 15, 7, 1), (34, .iconst 3, 0, 0), (35, .imul, 0, 0), (36, .iconst 1, 0, 0), (37, .iadd, 0, 0), (38, .iload_n 2, 0, 0), (39, .iastore, 0, 0), (40, .aload_n 0, 0, 0), (41, .getfield 11, 7, 0), (44, .aload_n 0, 0, 0), (45, .getfield 15, 7, 1), (48, .iconst 3, 0, 0), (49, .imul, 0, 0), (50, .iconst 2, 0, 0), (51, .iadd, 0, 0), (52, .iload_n 3, 0, 0), (53, .iastore, 0, 0), (54, .aload_n 0, 0, 0), (55, .dup, 0, 0), (56, .getfield 15, 7, 1), (59, .iconst 1, 0, 0), (60, .iadd, 0, 0), (61, .putfield 15, 7, 1), (64, .return_, 0, 0)])
/-- WitnessBench$BlockFinder.count()I -/
def ev_m92 : ev_M := (⟨"WitnessBench$BlockFinder", "count", "()I"⟩, prog_2_method_2_code, 1, some .int, [],
  [(0, .aload_n 0, 0, 0), (1, .getfield 15, 7, 1), (4, .ireturn, 0, 0)])
/-- WitnessBench$BlockFinder.field(II)I -/
def ev_m93 : ev_M := (⟨"WitnessBench$BlockFinder", "field", "(II)I"⟩, prog_2_method_3_code, 3, some .int, [],
  [(0, .aload_n 0, 0, 0), (1, .getfield 11, 7, 0), (4, .iload_n 1, 0, 0), (5, .iconst 3, 0, 0), (6, .imul, 0, 0), (7, .iload_n 2, 0, 0), (8, .iadd, 0, 0), (9, .iaload, 0, 0), (10, .ireturn, 0, 0)])
/-- WitnessBench$Family.<init>()V -/
def ev_m94 : ev_M := (⟨"WitnessBench$Family", "<init>", "()V"⟩, prog_3_method_1_code, 1, none, [],
  [(0, .aload_n 0, 0, 0), (1, .invokespecial 3, 999, 0), (4, .aload_n 0, 0, 0), (5, .iconst 4, 0, 0), (6, .newarray .int, 0, 0), (8, .putfield 9, 8, 0), (11, .aload_n 0, 0, 0), (12, .getfield 9, 8, 0), (15, .iconst (-1), 0, 0), (16, .invokestatic 15, 2, 2), (19, .aload_n 0, 0, 0), (20, .iconst 4, 0, 0), (21, .newarray .int, 0, 0), (23, .putfield 21, 8, 1), (26, .aload_n 0, 0, 0), (27, .bipush 16, 0, 0), (29, .newarray .int, 0, 0), (31, .putfield 24, 8, 2), (34, .return_, 0, 0)])
/-- WitnessBench$Family.isAtOrBelow(II)Z -/
def ev_m95 : ev_M := (⟨"WitnessBench$Family", "isAtOrBelow", "(II)Z"⟩, prog_3_method_3_code, 5, some .boolean, [],
  [(0, .iload_n 1, 0, 0), (1, .istore_n 3, 0, 0), (2, .iconst 0, 0, 0), (3, .istore 4, 0, 0), (5, .iload 4, 0, 0), (7, .iconst 4, 0, 0), (8, .if_icmp .ge 28, 0, 0), (11, .iload_n 3, 0, 0), (12, .iconst (-1), 0, 0), (13, .if_icmp .eq 23, 0, 0), (16, .iload_n 3, 0, 0), (17, .iload_n 2, 0, 0), (18, .if_icmp .ne 5, 0, 0), (21, .iconst 1, 0, 0), (22, .ireturn, 0, 0), (23, .aload_n 0, 0, 0), (24, .getfield 9, 8, 0), (27, .iload_n 3, 0, 0), (28, .iaload, 0, 0), (29, .istore_n 3, 0, 0), (30, .iinc 4 1, 0, 0), (33, .goto (-28), 0, 0), (36, .iconst 0, 0, 0), (37, .ireturn, 0, 0)])
/-- WitnessBench$Family.setParent(II)V -/
def ev_m96 : ev_M := (⟨"WitnessBench$Family", "setParent", "(II)V"⟩, prog_3_method_2_code, 3, none, [],
  [(0, .aload_n 0, 0, 0), (1, .getfield 9, 8, 0), (4, .iload_n 1, 0, 0), (5, .iload_n 2, 0, 0), (6, .iastore, 0, 0), (7, .return_, 0, 0)])
/-- WitnessBench$Family.leastChanges(LWitnessBench$Table;LWitnessBench$Words;I)I -/
def ev_m97 : ev_M := (⟨"WitnessBench$Family", "leastChanges", "(LWitnessBench$Table;LWitnessBench$Words;I)I"⟩, prog_3_method_4_code, 7, some .int, [],
  [(0, .aload_n 0, 0, 0), (1, .aload_n 1, 0, 0), (2, .aload_n 2, 0, 0), (3, .iload_n 3, 0, 0), (4, .invokevirtual 27, 98, 3), (7, .aload_n 0, 0, 0), (8, .invokevirtual 31, 99, 0), (11, .iconst 0, 0, 0), (12, .istore 4, 0, 0), (14, .iconst 3, 0, 0), (15, .istore 5, 0, 0), (17, .iload 5, 0, 0), (19, .ifCond .lt 46, 0, 0), (22, .iconst 0, 0, 0), (23, .istore 6, 0, 0), (25, .iload 6, 0, 0), (27, .iconst 4, 0, 0), (28, .if_icmp .ge 31, 0, 0), (31, .aload_n 0, 0, 0), (32, .iload 6, 0, 0), (34, .invokevirtual 34, 100, 1), (37, .iload 5, 0, 0), (39, .if_icmp .ne 14, 0, 0), (42, .iload 4, 0, 0), (44, .aload_n 0, 0, 0), (45, .iload 6, 0, 0), (47, .invokevirtual 38, 101, 1), (50, .iadd, 0, 0), (51, .istore 4, 0, 0), (53, .iinc 6 1, 0, 0), (56, .goto (-31), 0, 0), (59, .iinc 5 (-1), 0, 0), (62, .goto (-45), 0, 0), (65, .iload 4, 0, 0), (67, .ireturn, 0, 0)])
/-- WitnessBench$Family.takeReadings(LWitnessBench$Table;LWitnessBench$Words;I)V -/
def ev_m98 : ev_M := (⟨"WitnessBench$Family", "takeReadings", "(LWitnessBench$Table;LWitnessBench$Words;I)V"⟩, prog_3_method_5_code, 8, none, [],
  [(0, .iconst 0, 0, 0), (1, .istore 4, 0, 0), (3, .iload 4, 0, 0), (5, .iconst 4, 0, 0), (6, .if_icmp .ge 125, 0, 0), (9, .aload_n 1, 0, 0), (10, .iload_n 3, 0, 0), (11, .iload 4, 0, 0), (13, .invokevirtual 41, 38, 2), (16, .istore 5, 0, 0), (18, .aload_n 1, 0, 0), (19, .iload 4, 0, 0), (21, .invokevirtual 47, 40, 1), (24, .ifCond .eq 18, 0, 0), (27, .iload 5, 0, 0), (29, .iconst (-1), 0, 0), (30, .if_icmp .eq 16, 0, 0), (33, .aload_n 2, 0, 0), (34, .iload 5, 0, 0), (36, .invokevirtual 51, 21, 1), (39, .ifCond .eq 7, 0, 0), (42, .iconst 1, 0, 0), (43, .goto 4, 0, 0), (46, .iconst 0, 0, 0), (47, .istore 6, 0, 0), (49, .aload_n 0, 0, 0), (50, .getfield 21, 8, 1), (53, .iload 4, 0, 0), (55, .iload 6, 0, 0), (57, .ifCond .eq 7, 0, 0), (60, .iconst (-1), 0, 0), (61, .goto 5, 0, 0), (64, .iload 4, 0, 0), (66, .iastore, 0, 0), (67, .iconst 0, 0, 0), (68, .istore 7, 0, 0), (70, .iload 7, 0, 0), (72, .iload 4, 0, 0), (74, .if_icmp .ge 51, 0, 0), (77, .iload 6, 0, 0), (79, .ifCond .ne 46, 0, 0), (82, .aload_n 0, 0, 0), (83, .getfield 21, 8, 1), (86, .iload 7, 0, 0), (88, .iaload, 0, 0), (89, .iload 7, 0, 0), (91, .if_icmp .ne 28, 0, 0), (94, .aload_n 2, 0, 0), (95, .aload_n 1, 0, 0), (96, .iload_n 3, 0, 0), (97, .iload 7, 0, 0), (99, .invokevirtual 41, 38, 2), (102, .iload 5, 0, 0), (104, .invokevirtual 56, 25, 2), (107, .ifCond .eq 12, 0, 0), (110, .aload_n 0, 0, 0), (111, .getfield 21, 8, 1), (114, .iload 4, 0, 0), (116, .iload 7, 0, 0), (118, .iastore, 0, 0), (119, .iinc 7 1, 0, 0), (122, .goto (-52), 0, 0), (125, .iinc 4 1, 0, 0), (128, .goto (-125), 0, 0), (131, .return_, 0, 0)])
/-- WitnessBench$Family.startCosts()V -/
def ev_m99 : ev_M := (⟨"WitnessBench$Family", "startCosts", "()V"⟩, prog_3_method_6_code, 4, none, [],
  [(0, .iconst 0, 0, 0), (1, .istore_n 1, 0, 0), (2, .iload_n 1, 0, 0), (3, .iconst 4, 0, 0), (4, .if_icmp .ge 68, 0, 0), (7, .iconst 0, 0, 0), (8, .istore_n 2, 0, 0), (9, .iload_n 2, 0, 0), (10, .iconst 4, 0, 0), (11, .if_icmp .ge 55, 0, 0), (14, .aload_n 0, 0, 0), (15, .getfield 21, 8, 1), (18, .iload_n 1, 0, 0), (19, .iaload, 0, 0), (20, .iconst (-1), 0, 0), (21, .if_icmp .eq 13, 0, 0), (24, .aload_n 0, 0, 0), (25, .getfield 21, 8, 1), (28, .iload_n 1, 0, 0), (29, .iaload, 0, 0), (30, .iload_n 2, 0, 0), (31, .if_icmp .ne 7, 0, 0), (34, .iconst 1, 0, 0), (35, .goto 4, 0, 0), (38, .iconst 0, 0, 0), (39, .istore_n 3, 0, 0), (40, .aload_n 0, 0, 0), (41, .getfield 24, 8, 2), (44, .iload_n 1, 0, 0), (45, .iconst 4, 0, 0), (46, .imul, 0, 0), (47, .iload_n 2, 0, 0), (48, .iadd, 0, 0), (49, .iload_n 3, 0, 0), (50, .ifCond .eq 7, 0, 0), (53, .iconst 0, 0, 0), (54, .goto 5, 0, 0), (57, .bipush 100, 0, 0), (59, .iastore, 0, 0), (60, .iinc 2 1, 0, 0), (63, .goto (-54), 0, 0), (66, .iinc 1 1, 0, 0), (69, .goto (-67), 0, 0), (72, .return_, 0, 0)])
/-- WitnessBench$Family.depthOf(I)I -/
def ev_m100 : ev_M := (⟨"WitnessBench$Family", "depthOf", "(I)I"⟩, prog_3_method_9_code, 4, some .int, [],
  [(0, .iconst 0, 0, 0), (1, .istore_n 2, 0, 0), (2, .aload_n 0, 0, 0), (3, .getfield 9, 8, 0), (6, .iload_n 1, 0, 0), (7, .iaload, 0, 0), (8, .istore_n 3, 0, 0), (9, .iload_n 2, 0, 0), (10, .iconst 4, 0, 0), (11, .if_icmp .ge 21, 0, 0), (14, .iload_n 3, 0, 0), (15, .iconst (-1), 0, 0), (16, .if_icmp .eq 16, 0, 0), (19, .iinc 2 1, 0, 0), (22, .aload_n 0, 0, 0), (23, .getfield 9, 8, 0), (26, .iload_n 3, 0, 0), (27, .iaload, 0, 0), (28, .istore_n 3, 0, 0), (29, .goto (-20), 0, 0), (32, .iload_n 2, 0, 0), (33, .ireturn, 0, 0)])
/-- WitnessBench$Family.handUp(I)I -/
def ev_m101 : ev_M := (⟨"WitnessBench$Family", "handUp", "(I)I"⟩, prog_3_method_7_code, 5, some .int, [],
  [(0, .aload_n 0, 0, 0), (1, .iload_n 1, 0, 0), (2, .invokevirtual 60, 102, 1), (5, .istore_n 2, 0, 0), (6, .aload_n 0, 0, 0), (7, .getfield 9, 8, 0), (10, .iload_n 1, 0, 0), (11, .iaload, 0, 0), (12, .istore_n 3, 0, 0), (13, .iload_n 3, 0, 0), (14, .iconst (-1), 0, 0), (15, .if_icmp .ne 5, 0, 0), (18, .iload_n 2, 0, 0), (19, .ireturn, 0, 0), (20, .iconst 0, 0, 0), (21, .istore 4, 0, 0), (23, .iload 4, 0, 0), (25, .iconst 4, 0, 0), (26, .if_icmp .ge 40, 0, 0), (29, .aload_n 0, 0, 0), (30, .getfield 24, 8, 2), (33, .iload_n 3, 0, 0), (34, .iconst 4, 0, 0), (35, .imul, 0, 0), (36, .iload 4, 0, 0), (38, .iadd, 0, 0), (39, .dup2, 0, 0), (40, .iaload, 0, 0), (41, .aload_n 0, 0, 0), (42, .getfield 24, 8, 2), (45, .iload_n 1, 0, 0), (46, .iconst 4, 0, 0), (47, .imul, 0, 0), (48, .iload 4, 0, 0), (50, .iadd, 0, 0), (51, .iaload, 0, 0), (52, .iload_n 2, 0, 0), (53, .iconst 1, 0, 0), (54, .iadd, 0, 0), (55, .invokestatic 63, 0, 2), (58, .iadd, 0, 0), (59, .iastore, 0, 0), (60, .iinc 4 1, 0, 0), (63, .goto (-40), 0, 0), (66, .iconst 0, 0, 0), (67, .ireturn, 0, 0)])
/-- WitnessBench$Family.leastCost(I)I -/
def ev_m102 : ev_M := (⟨"WitnessBench$Family", "leastCost", "(I)I"⟩, prog_3_method_8_code, 4, some .int, [],
  [(0, .aload_n 0, 0, 0), (1, .getfield 24, 8, 2), (4, .iload_n 1, 0, 0), (5, .iconst 4, 0, 0), (6, .imul, 0, 0), (7, .iaload, 0, 0), (8, .istore_n 2, 0, 0), (9, .iconst 1, 0, 0), (10, .istore_n 3, 0, 0), (11, .iload_n 3, 0, 0), (12, .iconst 4, 0, 0), (13, .if_icmp .ge 24, 0, 0), (16, .iload_n 2, 0, 0), (17, .aload_n 0, 0, 0), (18, .getfield 24, 8, 2), (21, .iload_n 1, 0, 0), (22, .iconst 4, 0, 0), (23, .imul, 0, 0), (24, .iload_n 3, 0, 0), (25, .iadd, 0, 0), (26, .iaload, 0, 0), (27, .invokestatic 63, 0, 2), (30, .istore_n 2, 0, 0), (31, .iinc 3 1, 0, 0), (34, .goto (-23), 0, 0), (37, .iload_n 2, 0, 0), (38, .ireturn, 0, 0)])
/-- WitnessBench.<init>()V -/
def ev_m103 : ev_M := (⟨"WitnessBench", "<init>", "()V"⟩, prog_1_method_1_code, 1, none, [],
  [(0, .aload_n 0, 0, 0), (1, .invokespecial 3, 999, 0), (4, .aload_n 0, 0, 0), (5, .new 9, 0, 0), (8, .dup, 0, 0), (9, .bipush 8, 0, 0), (11, .invokespecial 11, 3, 1), (14, .putfield 14, 9, 0), (17, .aload_n 0, 0, 0), (18, .new 9, 0, 0), (21, .dup, 0, 0), (22, .bipush 16, 0, 0), (24, .invokespecial 11, 3, 1), (27, .putfield 18, 9, 1), (30, .aload_n 0, 0, 0), (31, .new 21, 1, 0), (34, .dup, 0, 0), (35, .invokespecial 23, 14, 0), (38, .putfield 24, 9, 2), (41, .aload_n 0, 0, 0), (42, .new 28, 2, 0), (45, .dup, 0, 0), (46, .invokespecial 30, 19, 0), (49, .putfield 31, 9, 3), (52, .aload_n 0, 0, 0), (53, .new 35, 3, 0), (56, .dup, 0, 0), (57, .invokespecial 37, 35, 0), (60, .putfield 38, 9, 4), (63, .aload_n 0, 0, 0), (64, .new 42, 4, 0), (67, .dup, 0, 0), (68, .invokespecial 44, 51, 0), (71, .putfield 45, 9, 5), (74, .aload_n 0, 0, 0), (75, .new 49, 5, 0), (78, .dup, 0, 0), (79, .invokespecial 51, 59, 0), (82, .putfield 52, 9, 6), (85, .aload_n 0, 0, 0), (86, .new 56, 6, 0), (89, .dup, 0, 0), (90, .invokespecial 58, 73, 0), (93, .putfield 59, 9, 7), (96, .aload_n 0, 0, 0), (97, .bipush 40, 0, 0), (99, .newarray .int, 0, 0), (101, .putfield 63, 9, 8), (104, .aload_n 0, 0, 0), (105, .new 67, 7, 0), (108, .dup, 0, 0), (109, .invokespecial 69, 87, 0), (112, .putfield 70, 9, 10), (115, .aload_n 0, 0, 0), (116, .new 74, 8, 0), (119, .dup, 0, 0), (120, .invokespecial 76, 94, 0), (123, .putfield 77, 9, 11), (126, .return_, 0, 0)])
/-- WitnessBench.places()I -/
def ev_m104 : ev_M := (⟨"WitnessBench", "places", "()I"⟩, prog_1_method_11_code, 1, some .int, [],
  [(0, .aload_n 0, 0, 0), (1, .getfield 38, 9, 4), (4, .invokevirtual 193, 36, 0), (7, .ireturn, 0, 0)])
/-- WitnessBench.apparatus(Z)I -/
def ev_m105 : ev_M := (⟨"WitnessBench", "apparatus", "(Z)I"⟩, prog_1_method_16_code, 2, some .int, [],
  [(0, .aload_n 0, 0, 0), (1, .getfield 52, 9, 6), (4, .aload_n 0, 0, 0), (5, .getfield 38, 9, 4), (8, .aload_n 0, 0, 0), (9, .getfield 31, 9, 3), (12, .iload_n 1, 0, 0), (13, .invokevirtual 213, 60, 3), (16, .aload_n 0, 0, 0), (17, .getfield 52, 9, 6), (20, .invokevirtual 217, 69, 0), (23, .ireturn, 0, 0)])
/-- WitnessBench.number(II)I -/
def ev_m106 : ev_M := (⟨"WitnessBench", "number", "(II)I"⟩, prog_1_method_32_code, 2, some .int, [],
  [(0, .iload_n 0, 0, 0), (1, .bipush 10, 0, 0), (3, .imul, 0, 0), (4, .iload_n 1, 0, 0), (5, .iadd, 0, 0), (6, .ireturn, 0, 0)])
/-- WitnessBench.built(II)I -/
def ev_m107 : ev_M := (⟨"WitnessBench", "built", "(II)I"⟩, prog_1_method_20_code, 3, some .int, [],
  [(0, .aload_n 0, 0, 0), (1, .getfield 59, 9, 7), (4, .iload_n 1, 0, 0), (5, .iload_n 2, 0, 0), (6, .invokevirtual 236, 74, 2), (9, .ireturn, 0, 0)])
/-- WitnessBench.concord()I -/
def ev_m108 : ev_M := (⟨"WitnessBench", "concord", "()I"⟩, prog_1_method_21_code, 3, some .int, [],
  [(0, .aload_n 0, 0, 0), (1, .iconst 0, 0, 0), (2, .putfield 239, 9, 9), (5, .aload_n 0, 0, 0), (6, .getfield 24, 9, 2), (9, .aload_n 0, 0, 0), (10, .getfield 14, 9, 0), (13, .aload_n 0, 0, 0), (14, .getfield 18, 9, 1), (17, .invokevirtual 243, 15, 2), (20, .aload_n 0, 0, 0), (21, .getfield 31, 9, 3), (24, .aload_n 0, 0, 0), (25, .getfield 18, 9, 1), (28, .invokevirtual 247, 23, 1), (31, .istore_n 1, 0, 0), (32, .iload_n 1, 0, 0), (33, .iconst (-1), 0, 0), (34, .if_icmp .ne 5, 0, 0), (37, .iconst 0, 0, 0), (38, .ireturn, 0, 0), (39, .iconst 0, 0, 0), (40, .istore_n 2, 0, 0), (41, .iload_n 2, 0, 0), (42, .bipush 40, 0, 0), (44, .if_icmp .ge 63, 0, 0), (47, .aload_n 0, 0, 0), (48, .getfield 31, 9, 3), (51, .iload_n 2, 0, 0), (52, .invokevirtual 251, 24, 1), (55, .ifCond .eq 46, 0, 0), (58, .aload_n 0, 0, 0), (59, .getfield 31, 9, 3), (62, .iload_n 2, 0, 0), (63, .iload_n 1, 0, 0), (64, .invokevirtual 254, 25, 2), (67, .ifCond .eq 34, 0, 0), (70, .aload_n 0, 0, 0), (71, .getfield 63, 9, 8), (74, .aload_n 0, 0, 0), (75, .getfield 239, 9, 9), (78, .bipush 100, 0, 0), (80, .iload_n 2, 0, 0), (81, .bipush 10, 0, 0), (83, .idiv, 0, 0), (84, .imul, 0, 0), (85, .iload_n 2, 0, 0), (86, .bipush 10, 0, 0), (88, .irem, 0, 0), (89, .iadd, 0, 0), (90, .iastore, 0, 0), (91, .aload_n 0, 0, 0), (92, .dup, 0, 0), (93, .getfield 239, 9, 9), (96, .iconst 1, 0, 0), (97, .iadd, 0, 0), (98, .putfield 239, 9, 9), (101, .iinc 2 1, 0, 0), (104, .goto (-63), 0, 0), (107, .aload_n 0, 0, 0), (108, .getfield 239, 9, 9), (111, .ireturn, 0, 0)])
/-- WitnessBench.type(C)I -/
def ev_m109 : ev_M := (⟨"WitnessBench", "type", "(C)I"⟩, prog_1_method_2_code, 2, some .int, [],
  [(0, .iload_n 1, 0, 0), (1, .bipush 97, 0, 0), (3, .if_icmp .lt 9, 0, 0), (6, .iload_n 1, 0, 0), (7, .bipush 122, 0, 0), (9, .if_icmp .le 13, 0, 0), (12, .new 81, 11, 0), (15, .dup, 0, 0), (16, .ldc 83, 0, 0), (18, .invokespecial 85, 998, 1), (21, .athrow, 0, 0), (22, .aload_n 0, 0, 0), (23, .getfield 14, 9, 0), (26, .invokevirtual 88, 5, 0), (29, .bipush 8, 0, 0), (31, .if_icmp .lt 13, 0, 0), (34, .new 92, 12, 0), (37, .dup, 0, 0), (38, .ldc 94, 0, 0), (40, .invokespecial 96, 998, 1), (43, .athrow, 0, 0), (44, .aload_n 0, 0, 0), (45, .getfield 14, 9, 0), (48, .iload_n 1, 0, 0), (49, .invokevirtual 97, 9, 1), (52, .aload_n 0, 0, 0), (53, .getfield 14, 9, 0), (56, .invokevirtual 88, 5, 0), (59, .ireturn, 0, 0)])
/-- WitnessBench.cut(I)V -/
def ev_m110 : ev_M := (⟨"WitnessBench", "cut", "(I)V"⟩, prog_1_method_3_code, 2, none, [],
  [(0, .iload_n 1, 0, 0), (1, .ifCond .lt 14, 0, 0), (4, .iload_n 1, 0, 0), (5, .aload_n 0, 0, 0), (6, .getfield 14, 9, 0), (9, .invokevirtual 88, 5, 0), (12, .if_icmp .le 13, 0, 0), (15, .new 81, 11, 0), (18, .dup, 0, 0), (19, .ldc 101, 0, 0), (21, .invokespecial 85, 998, 1), (24, .athrow, 0, 0), (25, .aload_n 0, 0, 0), (26, .getfield 14, 9, 0), (29, .iload_n 1, 0, 0), (30, .invokevirtual 103, 7, 1), (33, .return_, 0, 0)])
/-- WitnessBench.word(I)I -/
def ev_m111 : ev_M := (⟨"WitnessBench", "word", "(I)I"⟩, prog_1_method_4_code, 2, some .int, [],
  [(0, .iload_n 1, 0, 0), (1, .invokestatic 106, 112, 1), (4, .aload_n 0, 0, 0), (5, .getfield 38, 9, 4), (8, .iload_n 1, 0, 0), (9, .invokevirtual 109, 40, 1), (12, .ifCond .eq 13, 0, 0), (15, .new 92, 12, 0), (18, .dup, 0, 0), (19, .ldc 113, 0, 0), (21, .invokespecial 96, 998, 1), (24, .athrow, 0, 0), (25, .aload_n 0, 0, 0), (26, .getfield 14, 9, 0), (29, .invokevirtual 88, 5, 0), (32, .bipush 6, 0, 0), (34, .if_icmp .le 13, 0, 0), (37, .new 81, 11, 0), (40, .dup, 0, 0), (41, .ldc 115, 0, 0), (43, .invokespecial 85, 998, 1), (46, .athrow, 0, 0), (47, .aload_n 0, 0, 0), (48, .getfield 31, 9, 3), (51, .iload_n 1, 0, 0), (52, .invokevirtual 117, 26, 1), (55, .bipush 10, 0, 0), (57, .if_icmp .lt 13, 0, 0), (60, .new 121, 14, 0), (63, .dup, 0, 0), (64, .ldc 123, 0, 0), (66, .invokespecial 125, 998, 1), (69, .athrow, 0, 0), (70, .aload_n 0, 0, 0), (71, .getfield 31, 9, 3), (74, .iload_n 1, 0, 0), (75, .aload_n 0, 0, 0), (76, .getfield 14, 9, 0), (79, .aload_n 0, 0, 0), (80, .getfield 24, 9, 2), (83, .invokevirtual 126, 27, 3), (86, .aload_n 0, 0, 0), (87, .getfield 14, 9, 0), (90, .iconst 0, 0, 0), (91, .invokevirtual 103, 7, 1), (94, .aload_n 0, 0, 0), (95, .getfield 31, 9, 3), (98, .iload_n 1, 0, 0), (99, .invokevirtual 117, 26, 1), (102, .ireturn, 0, 0)])
/-- WitnessBench.checkWitness(I)V -/
def ev_m112 : ev_M := (⟨"WitnessBench", "checkWitness", "(I)V"⟩, prog_1_method_27_code, 1, none, [],
  [(0, .iload_n 0, 0, 0), (1, .ifCond .lt 8, 0, 0), (4, .iload_n 0, 0, 0), (5, .iconst 4, 0, 0), (6, .if_icmp .lt 14, 0, 0), (9, .new 258, 13, 0), (12, .dup, 0, 0), (13, .ldc_w 286, 0, 0), (16, .invokespecial 262, 998, 1), (19, .athrow, 0, 0), (20, .return_, 0, 0)])
/-- WitnessBench.rule(I)I -/
def ev_m113 : ev_M := (⟨"WitnessBench", "rule", "(I)I"⟩, prog_1_method_5_code, 2, some .int, [],
  [(0, .iload_n 1, 0, 0), (1, .iconst 1, 0, 0), (2, .if_icmp .lt 32, 0, 0), (5, .iload_n 1, 0, 0), (6, .iconst 3, 0, 0), (7, .if_icmp .gt 27, 0, 0), (10, .aload_n 0, 0, 0), (11, .getfield 14, 9, 0), (14, .invokevirtual 88, 5, 0), (17, .iload_n 1, 0, 0), (18, .if_icmp .lt 16, 0, 0), (21, .aload_n 0, 0, 0), (22, .getfield 14, 9, 0), (25, .invokevirtual 88, 5, 0), (28, .iload_n 1, 0, 0), (29, .iconst 2, 0, 0), (30, .iadd, 0, 0), (31, .if_icmp .le 13, 0, 0), (34, .new 81, 11, 0), (37, .dup, 0, 0), (38, .ldc 129, 0, 0), (40, .invokespecial 85, 998, 1), (43, .athrow, 0, 0), (44, .aload_n 0, 0, 0), (45, .getfield 24, 9, 2), (48, .invokevirtual 131, 17, 0), (51, .bipush 8, 0, 0), (53, .if_icmp .lt 13, 0, 0), (56, .new 121, 14, 0), (59, .dup, 0, 0), (60, .ldc 133, 0, 0), (62, .invokespecial 125, 998, 1), (65, .athrow, 0, 0), (66, .aload_n 0, 0, 0), (67, .getfield 24, 9, 2), (70, .aload_n 0, 0, 0), (71, .getfield 14, 9, 0), (74, .iload_n 1, 0, 0), (75, .invokevirtual 135, 18, 2), (78, .aload_n 0, 0, 0), (79, .getfield 31, 9, 3), (82, .aload_n 0, 0, 0), (83, .getfield 24, 9, 2), (86, .invokevirtual 138, 30, 1), (89, .aload_n 0, 0, 0), (90, .getfield 14, 9, 0), (93, .iconst 0, 0, 0), (94, .invokevirtual 103, 7, 1), (97, .aload_n 0, 0, 0), (98, .getfield 24, 9, 2), (101, .invokevirtual 131, 17, 0), (104, .ireturn, 0, 0)])
/-- WitnessBench.equate(IIII)I -/
def ev_m114 : ev_M := (⟨"WitnessBench", "equate", "(IIII)I"⟩, prog_1_method_6_code, 5, some .int, [],
  [(0, .aload_n 0, 0, 0), (1, .iload_n 1, 0, 0), (2, .iload_n 2, 0, 0), (3, .invokevirtual 142, 115, 2), (6, .aload_n 0, 0, 0), (7, .iload_n 3, 0, 0), (8, .iload 4, 0, 0), (10, .invokevirtual 142, 115, 2), (13, .aload_n 0, 0, 0), (14, .getfield 31, 9, 3), (17, .iload_n 1, 0, 0), (18, .iload_n 2, 0, 0), (19, .invokestatic 146, 106, 2), (22, .invokevirtual 150, 21, 1), (25, .ifCond .ne 19, 0, 0), (28, .aload_n 0, 0, 0), (29, .getfield 31, 9, 3), (32, .iload_n 3, 0, 0), (33, .iload 4, 0, 0), (35, .invokestatic 146, 106, 2), (38, .invokevirtual 150, 21, 1), (41, .ifCond .eq 13, 0, 0), (44, .new 81, 11, 0), (47, .dup, 0, 0), (48, .ldc 153, 0, 0), (50, .invokespecial 85, 998, 1), (53, .athrow, 0, 0), (54, .aload_n 0, 0, 0), (55, .getfield 31, 9, 3), (58, .invokevirtual 155, 31, 0), (61, .bipush 6, 0, 0), (63, .if_icmp .lt 13, 0, 0), (66, .new 121, 14, 0), (69, .dup, 0, 0), (70, .ldc 158, 0, 0), (72, .invokespecial 125, 998, 1), (75, .athrow, 0, 0), (76, .aload_n 0, 0, 0), (77, .getfield 31, 9, 3), (80, .iload_n 1, 0, 0), (81, .iload_n 2, 0, 0), (82, .invokestatic 146, 106, 2), (85, .iload_n 3, 0, 0), (86, .iload 4, 0, 0), (88, .invokestatic 146, 106, 2), (91, .invokevirtual 160, 32, 2), (94, .aload_n 0, 0, 0), (95, .getfield 31, 9, 3), (98, .invokevirtual 155, 31, 0), (101, .ireturn, 0, 0)])
/-- WitnessBench.checkWord(II)V -/
def ev_m115 : ev_M := (⟨"WitnessBench", "checkWord", "(II)V"⟩, prog_1_method_28_code, 3, none, [],
  [(0, .iload_n 1, 0, 0), (1, .invokestatic 106, 112, 1), (4, .iload_n 2, 0, 0), (5, .ifCond .lt 15, 0, 0), (8, .iload_n 2, 0, 0), (9, .aload_n 0, 0, 0), (10, .getfield 31, 9, 3), (13, .iload_n 1, 0, 0), (14, .invokevirtual 117, 26, 1), (17, .if_icmp .lt 14, 0, 0), (20, .new 258, 13, 0), (23, .dup, 0, 0), (24, .ldc_w 288, 0, 0), (27, .invokespecial 262, 998, 1), (30, .athrow, 0, 0), (31, .return_, 0, 0)])
/-- WitnessBench.form(II)I -/
def ev_m116 : ev_M := (⟨"WitnessBench", "form", "(II)I"⟩, prog_1_method_7_code, 3, some .int, [],
  [(0, .aload_n 0, 0, 0), (1, .iload_n 1, 0, 0), (2, .iload_n 2, 0, 0), (3, .invokevirtual 142, 115, 2), (6, .aload_n 0, 0, 0), (7, .getfield 31, 9, 3), (10, .iload_n 1, 0, 0), (11, .iload_n 2, 0, 0), (12, .invokestatic 146, 106, 2), (15, .invokevirtual 163, 22, 1), (18, .invokevirtual 88, 5, 0), (21, .ireturn, 0, 0)])
/-- WitnessBench.distance(IIII)I -/
def ev_m117 : ev_M := (⟨"WitnessBench", "distance", "(IIII)I"⟩, prog_1_method_8_code, 5, some .int, [],
  [(0, .aload_n 0, 0, 0), (1, .iload_n 1, 0, 0), (2, .iload_n 2, 0, 0), (3, .invokevirtual 142, 115, 2), (6, .aload_n 0, 0, 0), (7, .iload_n 3, 0, 0), (8, .iload 4, 0, 0), (10, .invokevirtual 142, 115, 2), (13, .aload_n 0, 0, 0), (14, .getfield 31, 9, 3), (17, .iload_n 1, 0, 0), (18, .iload_n 2, 0, 0), (19, .invokestatic 146, 106, 2), (22, .iload_n 3, 0, 0), (23, .iload 4, 0, 0), (25, .invokestatic 146, 106, 2), (28, .invokevirtual 167, 33, 2), (31, .ireturn, 0, 0)])
/-- WitnessBench.join(I)I -/
def ev_m118 : ev_M := (⟨"WitnessBench", "join", "(I)I"⟩, prog_1_method_9_code, 3, some .int, [],
  [(0, .iload_n 1, 0, 0), (1, .invokestatic 106, 112, 1), (4, .aload_n 0, 0, 0), (5, .getfield 38, 9, 4), (8, .iload_n 1, 0, 0), (9, .invokevirtual 109, 40, 1), (12, .ifCond .ne 14, 0, 0), (15, .aload_n 0, 0, 0), (16, .getfield 31, 9, 3), (19, .iload_n 1, 0, 0), (20, .invokevirtual 117, 26, 1), (23, .ifCond .ne 13, 0, 0), (26, .new 92, 12, 0), (29, .dup, 0, 0), (30, .ldc 170, 0, 0), (32, .invokespecial 96, 998, 1), (35, .athrow, 0, 0), (36, .aload_n 0, 0, 0), (37, .getfield 45, 9, 5), (40, .aload_n 0, 0, 0), (41, .getfield 38, 9, 4), (44, .aload_n 0, 0, 0), (45, .getfield 31, 9, 3), (48, .iload_n 1, 0, 0), (49, .invokevirtual 172, 52, 3), (52, .istore_n 2, 0, 0), (53, .aload_n 0, 0, 0), (54, .getfield 45, 9, 5), (57, .invokevirtual 176, 57, 0), (60, .bipush 24, 0, 0), (62, .if_icmp .le 13, 0, 0), (65, .new 121, 14, 0), (68, .dup, 0, 0), (69, .ldc 179, 0, 0), (71, .invokespecial 125, 998, 1), (74, .athrow, 0, 0), (75, .aload_n 0, 0, 0), (76, .getfield 45, 9, 5), (79, .aload_n 0, 0, 0), (80, .getfield 38, 9, 4), (83, .iload_n 1, 0, 0), (84, .invokevirtual 181, 58, 2), (87, .iload_n 2, 0, 0), (88, .ireturn, 0, 0)])
/-- WitnessBench.retract()I -/
def ev_m119 : ev_M := (⟨"WitnessBench", "retract", "()I"⟩, prog_1_method_10_code, 2, some .int, [],
  [(0, .aload_n 0, 0, 0), (1, .getfield 38, 9, 4), (4, .invokevirtual 185, 45, 0), (7, .istore_n 1, 0, 0), (8, .iload_n 1, 0, 0), (9, .iconst (-1), 0, 0), (10, .if_icmp .ne 13, 0, 0), (13, .new 92, 12, 0), (16, .dup, 0, 0), (17, .ldc 188, 0, 0), (19, .invokespecial 96, 998, 1), (22, .athrow, 0, 0), (23, .aload_n 0, 0, 0), (24, .getfield 38, 9, 4), (27, .iload_n 1, 0, 0), (28, .invokevirtual 190, 46, 1), (31, .iload_n 1, 0, 0), (32, .ireturn, 0, 0)])
/-- WitnessBench.at(II)I -/
def ev_m120 : ev_M := (⟨"WitnessBench", "at", "(II)I"⟩, prog_1_method_12_code, 3, some .int, [],
  [(0, .aload_n 0, 0, 0), (1, .iload_n 1, 0, 0), (2, .invokevirtual 194, 121, 1), (5, .iload_n 2, 0, 0), (6, .invokestatic 106, 112, 1), (9, .aload_n 0, 0, 0), (10, .getfield 38, 9, 4), (13, .iload_n 1, 0, 0), (14, .iload_n 2, 0, 0), (15, .invokevirtual 197, 39, 2), (18, .ireturn, 0, 0)])
/-- WitnessBench.checkPlace(I)V -/
def ev_m121 : ev_M := (⟨"WitnessBench", "checkPlace", "(I)V"⟩, prog_1_method_29_code, 2, none, [],
  [(0, .iload_n 1, 0, 0), (1, .ifCond .lt 14, 0, 0), (4, .iload_n 1, 0, 0), (5, .aload_n 0, 0, 0), (6, .getfield 38, 9, 4), (9, .invokevirtual 193, 36, 0), (12, .if_icmp .lt 14, 0, 0), (15, .new 258, 13, 0), (18, .dup, 0, 0), (19, .ldc_w 290, 0, 0), (22, .invokespecial 262, 998, 1), (25, .athrow, 0, 0), (26, .return_, 0, 0)])
/-- WitnessBench.beside(III)I -/
def ev_m122 : ev_M := (⟨"WitnessBench", "beside", "(III)I"⟩, prog_1_method_13_code, 4, some .int, [],
  [(0, .aload_n 0, 0, 0), (1, .iload_n 1, 0, 0), (2, .iload_n 2, 0, 0), (3, .invokevirtual 142, 115, 2), (6, .iload_n 3, 0, 0), (7, .invokestatic 106, 112, 1), (10, .aload_n 0, 0, 0), (11, .getfield 38, 9, 4), (14, .iload_n 1, 0, 0), (15, .iload_n 2, 0, 0), (16, .iload_n 3, 0, 0), (17, .invokevirtual 200, 48, 3), (20, .ireturn, 0, 0)])
/-- WitnessBench.base(I)V -/
def ev_m123 : ev_M := (⟨"WitnessBench", "base", "(I)V"⟩, prog_1_method_14_code, 2, none, [],
  [(0, .iload_n 1, 0, 0), (1, .iconst (-1), 0, 0), (2, .if_icmp .eq 12, 0, 0), (5, .iload_n 1, 0, 0), (6, .invokestatic 106, 112, 1), (9, .aload_n 0, 0, 0), (10, .iload_n 1, 0, 0), (11, .invokevirtual 204, 124, 1), (14, .aload_n 0, 0, 0), (15, .getfield 38, 9, 4), (18, .iload_n 1, 0, 0), (19, .invokevirtual 207, 49, 1), (22, .return_, 0, 0)])
/-- WitnessBench.checkJoined(I)V -/
def ev_m124 : ev_M := (⟨"WitnessBench", "checkJoined", "(I)V"⟩, prog_1_method_30_code, 2, none, [],
  [(0, .aload_n 0, 0, 0), (1, .getfield 38, 9, 4), (4, .iload_n 1, 0, 0), (5, .invokevirtual 109, 40, 1), (8, .ifCond .ne 14, 0, 0), (11, .new 92, 12, 0), (14, .dup, 0, 0), (15, .ldc_w 292, 0, 0), (18, .invokespecial 96, 998, 1), (21, .athrow, 0, 0), (22, .return_, 0, 0)])
/-- WitnessBench.choose(II)V -/
def ev_m125 : ev_M := (⟨"WitnessBench", "choose", "(II)V"⟩, prog_1_method_15_code, 3, none, [],
  [(0, .aload_n 0, 0, 0), (1, .iload_n 1, 0, 0), (2, .invokevirtual 194, 121, 1), (5, .iload_n 2, 0, 0), (6, .iconst (-1), 0, 0), (7, .if_icmp .eq 12, 0, 0), (10, .iload_n 2, 0, 0), (11, .invokestatic 106, 112, 1), (14, .aload_n 0, 0, 0), (15, .iload_n 2, 0, 0), (16, .invokevirtual 204, 124, 1), (19, .aload_n 0, 0, 0), (20, .getfield 38, 9, 4), (23, .iload_n 1, 0, 0), (24, .iload_n 2, 0, 0), (25, .invokevirtual 210, 50, 2), (28, .return_, 0, 0)])
/-- WitnessBench.out(I)I -/
def ev_m126 : ev_M := (⟨"WitnessBench", "out", "(I)I"⟩, prog_1_method_17_code, 2, some .int, [],
  [(0, .aload_n 0, 0, 0), (1, .iload_n 1, 0, 0), (2, .invokevirtual 218, 127, 1), (5, .aload_n 0, 0, 0), (6, .getfield 52, 9, 6), (9, .iload_n 1, 0, 0), (10, .invokevirtual 221, 70, 1), (13, .ireturn, 0, 0)])
/-- WitnessBench.checkSheet(I)V -/
def ev_m127 : ev_M := (⟨"WitnessBench", "checkSheet", "(I)V"⟩, prog_1_method_31_code, 2, none, [],
  [(0, .iload_n 1, 0, 0), (1, .ifCond .lt 14, 0, 0), (4, .iload_n 1, 0, 0), (5, .aload_n 0, 0, 0), (6, .getfield 52, 9, 6), (9, .invokevirtual 217, 69, 0), (12, .if_icmp .lt 14, 0, 0), (15, .new 258, 13, 0), (18, .dup, 0, 0), (19, .ldc_w 294, 0, 0), (22, .invokespecial 262, 998, 1), (25, .athrow, 0, 0), (26, .return_, 0, 0)])
/-- WitnessBench.amend(IC)V -/
def ev_m128 : ev_M := (⟨"WitnessBench", "amend", "(IC)V"⟩, prog_1_method_18_code, 3, none, [],
  [(0, .aload_n 0, 0, 0), (1, .iload_n 1, 0, 0), (2, .invokevirtual 218, 127, 1), (5, .aload_n 0, 0, 0), (6, .getfield 52, 9, 6), (9, .iload_n 1, 0, 0), (10, .iload_n 2, 0, 0), (11, .invokevirtual 225, 71, 2), (14, .return_, 0, 0)])
/-- WitnessBench.rebuild(I)I -/
def ev_m129 : ev_M := (⟨"WitnessBench", "rebuild", "(I)I"⟩, prog_1_method_19_code, 3, some .int, [],
  [(0, .iload_n 1, 0, 0), (1, .invokestatic 106, 112, 1), (4, .aload_n 0, 0, 0), (5, .iload_n 1, 0, 0), (6, .invokevirtual 204, 124, 1), (9, .aload_n 0, 0, 0), (10, .getfield 59, 9, 7), (13, .aload_n 0, 0, 0), (14, .getfield 52, 9, 6), (17, .aload_n 0, 0, 0), (18, .getfield 38, 9, 4), (21, .aload_n 0, 0, 0), (22, .getfield 31, 9, 3), (25, .iload_n 1, 0, 0), (26, .invokevirtual 229, 75, 4), (29, .istore_n 2, 0, 0), (30, .iload_n 2, 0, 0), (31, .iconst (-1), 0, 0), (32, .if_icmp .ne 13, 0, 0), (35, .aload_n 0, 0, 0), (36, .getfield 59, 9, 7), (39, .invokevirtual 233, 86, 0), (42, .goto 7, 0, 0), (45, .bipush (-100), 0, 0), (47, .iload_n 2, 0, 0), (48, .isub, 0, 0), (49, .ireturn, 0, 0)])
/-- WitnessBench.found(I)I -/
def ev_m130 : ev_M := (⟨"WitnessBench", "found", "(I)I"⟩, prog_1_method_22_code, 2, some .int, [],
  [(0, .iload_n 1, 0, 0), (1, .ifCond .lt 11, 0, 0), (4, .iload_n 1, 0, 0), (5, .aload_n 0, 0, 0), (6, .getfield 239, 9, 9), (9, .if_icmp .lt 14, 0, 0), (12, .new 258, 13, 0), (15, .dup, 0, 0), (16, .ldc_w 260, 0, 0), (19, .invokespecial 262, 998, 1), (22, .athrow, 0, 0), (23, .aload_n 0, 0, 0), (24, .getfield 63, 9, 8), (27, .iload_n 1, 0, 0), (28, .iaload, 0, 0), (29, .ireturn, 0, 0)])
/-- WitnessBench.blocks(II)I -/
def ev_m131 : ev_M := (⟨"WitnessBench", "blocks", "(II)I"⟩, prog_1_method_23_code, 3, some .int, [],
  [(0, .iload_n 1, 0, 0), (1, .invokestatic 106, 112, 1), (4, .iload_n 2, 0, 0), (5, .invokestatic 106, 112, 1), (8, .iload_n 1, 0, 0), (9, .iload_n 2, 0, 0), (10, .if_icmp .ne 14, 0, 0), (13, .new 81, 11, 0), (16, .dup, 0, 0), (17, .ldc_w 263, 0, 0), (20, .invokespecial 85, 998, 1), (23, .athrow, 0, 0), (24, .aload_n 0, 0, 0), (25, .iload_n 1, 0, 0), (26, .invokevirtual 204, 124, 1), (29, .aload_n 0, 0, 0), (30, .iload_n 2, 0, 0), (31, .invokevirtual 204, 124, 1), (34, .aload_n 0, 0, 0), (35, .getfield 70, 9, 10), (38, .aload_n 0, 0, 0), (39, .getfield 38, 9, 4), (42, .aload_n 0, 0, 0), (43, .getfield 31, 9, 3), (46, .iload_n 1, 0, 0), (47, .iload_n 2, 0, 0), (48, .invokevirtual 265, 88, 4), (51, .ireturn, 0, 0)])
/-- WitnessBench.block(II)I -/
def ev_m132 : ev_M := (⟨"WitnessBench", "block", "(II)I"⟩, prog_1_method_24_code, 3, some .int, [],
  [(0, .iload_n 1, 0, 0), (1, .ifCond .lt 23, 0, 0), (4, .iload_n 1, 0, 0), (5, .aload_n 0, 0, 0), (6, .getfield 70, 9, 10), (9, .invokevirtual 269, 92, 0), (12, .if_icmp .ge 12, 0, 0), (15, .iload_n 2, 0, 0), (16, .ifCond .lt 8, 0, 0), (19, .iload_n 2, 0, 0), (20, .iconst 3, 0, 0), (21, .if_icmp .lt 14, 0, 0), (24, .new 258, 13, 0), (27, .dup, 0, 0), (28, .ldc_w 270, 0, 0), (31, .invokespecial 262, 998, 1), (34, .athrow, 0, 0), (35, .aload_n 0, 0, 0), (36, .getfield 70, 9, 10), (39, .iload_n 1, 0, 0), (40, .iload_n 2, 0, 0), (41, .invokevirtual 272, 93, 2), (44, .ireturn, 0, 0)])
/-- WitnessBench.parent(II)V -/
def ev_m133 : ev_M := (⟨"WitnessBench", "parent", "(II)V"⟩, prog_1_method_25_code, 3, none, [],
  [(0, .iload_n 1, 0, 0), (1, .invokestatic 106, 112, 1), (4, .iload_n 2, 0, 0), (5, .iconst (-1), 0, 0), (6, .if_icmp .eq 30, 0, 0), (9, .iload_n 2, 0, 0), (10, .invokestatic 106, 112, 1), (13, .aload_n 0, 0, 0), (14, .getfield 77, 9, 11), (17, .iload_n 2, 0, 0), (18, .iload_n 1, 0, 0), (19, .invokevirtual 275, 95, 2), (22, .ifCond .eq 14, 0, 0), (25, .new 92, 12, 0), (28, .dup, 0, 0), (29, .ldc_w 278, 0, 0), (32, .invokespecial 96, 998, 1), (35, .athrow, 0, 0), (36, .aload_n 0, 0, 0), (37, .getfield 77, 9, 11), (40, .iload_n 1, 0, 0), (41, .iload_n 2, 0, 0), (42, .invokevirtual 280, 96, 2), (45, .return_, 0, 0)])
/-- WitnessBench.changes(I)I -/
def ev_m134 : ev_M := (⟨"WitnessBench", "changes", "(I)I"⟩, prog_1_method_26_code, 4, some .int, [],
  [(0, .iload_n 1, 0, 0), (1, .iconst (-1), 0, 0), (2, .if_icmp .eq 25, 0, 0), (5, .aload_n 0, 0, 0), (6, .iload_n 1, 0, 0), (7, .invokevirtual 194, 121, 1), (10, .aload_n 0, 0, 0), (11, .getfield 77, 9, 11), (14, .aload_n 0, 0, 0), (15, .getfield 38, 9, 4), (18, .aload_n 0, 0, 0), (19, .getfield 31, 9, 3), (22, .iload_n 1, 0, 0), (23, .invokevirtual 283, 97, 3), (26, .ireturn, 0, 0), (27, .iconst 0, 0, 0), (28, .istore_n 2, 0, 0), (29, .iconst 0, 0, 0), (30, .istore_n 3, 0, 0), (31, .iload_n 3, 0, 0), (32, .aload_n 0, 0, 0), (33, .getfield 38, 9, 4), (36, .invokevirtual 193, 36, 0), (39, .if_icmp .ge 28, 0, 0), (42, .iload_n 2, 0, 0), (43, .aload_n 0, 0, 0), (44, .getfield 77, 9, 11), (47, .aload_n 0, 0, 0), (48, .getfield 38, 9, 4), (51, .aload_n 0, 0, 0), (52, .getfield 31, 9, 3), (55, .iload_n 3, 0, 0), (56, .invokevirtual 283, 97, 3), (59, .iadd, 0, 0), (60, .istore_n 2, 0, 0), (61, .iinc 3 1, 0, 0), (64, .goto (-33), 0, 0), (67, .iload_n 2, 0, 0), (68, .ireturn, 0, 0)])
/-- WitnessBenchModel.<init>()V -/
def ev_m135 : ev_M := (⟨"WitnessBenchModel", "<init>", "()V"⟩, prog_12_method_1_code, 1, none, [],
  [(0, .aload_n 0, 0, 0), (1, .invokespecial 1, 999, 0), (4, .aload_n 0, 0, 0), (5, .bipush 8, 0, 0), (7, .newarray .int, 0, 0), (9, .putfield 7, 10, 1), (12, .aload_n 0, 0, 0), (13, .iconst 4, 0, 0), (14, .newarray .int, 0, 0), (16, .putfield 13, 10, 3), (19, .aload_n 0, 0, 0), (20, .sipush 240, 0, 0), (23, .newarray .int, 0, 0), (25, .putfield 16, 10, 4), (28, .aload_n 0, 0, 0), (29, .bipush 40, 0, 0), (31, .newarray .int, 0, 0), (33, .putfield 19, 10, 5), (36, .aload_n 0, 0, 0), (37, .sipush 480, 0, 0), (40, .newarray .int, 0, 0), (42, .putfield 22, 10, 6), (45, .aload_n 0, 0, 0), (46, .bipush 40, 0, 0), (48, .newarray .int, 0, 0), (50, .putfield 25, 10, 7), (53, .aload_n 0, 0, 0), (54, .bipush 40, 0, 0), (56, .newarray .int, 0, 0), (58, .putfield 28, 10, 8), (61, .aload_n 0, 0, 0), (62, .bipush 24, 0, 0), (64, .newarray .int, 0, 0), (66, .putfield 31, 10, 10), (69, .aload_n 0, 0, 0), (70, .bipush 8, 0, 0), (72, .newarray .int, 0, 0), (74, .putfield 34, 10, 11), (77, .aload_n 0, 0, 0), (78, .bipush 16, 0, 0), (80, .newarray .int, 0, 0), (82, .putfield 37, 10, 12), (85, .aload_n 0, 0, 0), (86, .bipush 8, 0, 0), (88, .newarray .int, 0, 0), (90, .putfield 40, 10, 13), (93, .aload_n 0, 0, 0), (94, .bipush 6, 0, 0), (96, .newarray .int, 0, 0), (98, .putfield 43, 10, 15), (101, .aload_n 0, 0, 0), (102, .bipush 6, 0, 0), (104, .newarray .int, 0, 0), (106, .putfield 46, 10, 16), (109, .aload_n 0, 0, 0), (110, .bipush 16, 0, 0), (112, .newarray .int, 0, 0), (114, .putfield 49, 10, 17), (117, .aload_n 0, 0, 0), (118, .iconst 4, 0, 0), (119, .newarray .int, 0, 0), (121, .putfield 52, 10, 20), (124, .aload_n 0, 0, 0), (125, .iconst (-1), 0, 0), (126, .putfield 55, 10, 21), (129, .aload_n 0, 0, 0), (130, .bipush 96, 0, 0), (132, .newarray .int, 0, 0), (134, .putfield 59, 10, 23), (137, .aload_n 0, 0, 0), (138, .bipush 24, 0, 0), (140, .newarray .int, 0, 0), (142, .putfield 62, 10, 24), (145, .aload_n 0, 0, 0), (146, .iconst 4, 0, 0), (147, .newarray .int, 0, 0), (149, .dup, 0, 0), (150, .iconst 0, 0, 0), (151, .iconst (-1), 0, 0), (152, .iastore, 0, 0), (153, .dup, 0, 0), (154, .iconst 1, 0, 0), (155, .iconst (-1), 0, 0), (156, .iastore, 0, 0), (157, .dup, 0, 0), (158, .iconst 2, 0, 0), (159, .iconst (-1), 0, 0), (160, .iastore, 0, 0), (161, .dup, 0, 0), (162, .iconst 3, 0, 0), (163, .iconst (-1), 0, 0), (164, .iastore, 0, 0), (165, .putfield 65, 10, 25), (168, .aload_n 0, 0, 0), (169, .sipush 275, 0, 0), (172, .newarray .int, 0, 0), (174, .putfield 68, 10, 26), (177, .aload_n 0, 0, 0), (178, .sipush 169, 0, 0), (181, .newarray .int, 0, 0), (183, .putfield 71, 10, 27), (186, .aload_n 0, 0, 0), (187, .sipush 2400, 0, 0), (190, .newarray .int, 0, 0), (192, .putfield 74, 10, 29), (195, .aload_n 0, 0, 0), (196, .bipush 24, 0, 0), (198, .newarray .int, 0, 0), (200, .putfield 77, 10, 35), (203, .aload_n 0, 0, 0), (204, .sipush 288, 0, 0), (207, .newarray .int, 0, 0), (209, .putfield 80, 10, 36), (212, .aload_n 0, 0, 0), (213, .bipush 24, 0, 0), (215, .newarray .int, 0, 0), (217, .putfield 83, 10, 38), (220, .aload_n 0, 0, 0), (221, .sipush 288, 0, 0), (224, .newarray .int, 0, 0), (226, .putfield 86, 10, 39), (229, .aload_n 0, 0, 0), (230, .bipush 40, 0, 0), (232, .newarray .int, 0, 0), (234, .putfield 89, 10, 41), (237, .aload_n 0, 0, 0), (238, .sipush 180, 0, 0), (241, .newarray .int, 0, 0), (243, .putfield 92, 10, 43), (246, .aload_n 0, 0, 0), (247, .iconst 4, 0, 0), (248, .newarray .int, 0, 0), (250, .putfield 95, 10, 44), (253, .aload_n 0, 0, 0), (254, .iconst 4, 0, 0), (255, .newarray .int, 0, 0), (257, .putfield 98, 10, 45), (260, .return_, 0, 0)])
/-- WitnessBenchModel.thrown()I -/
def ev_m136 : ev_M := (⟨"WitnessBenchModel", "thrown", "()I"⟩, prog_12_method_2_code, 1, some .int, [],
  [(0, .aload_n 0, 0, 0), (1, .getfield 101, 10, 0), (4, .ireturn, 0, 0)])
/-- WitnessBenchModel.type(C)I -/
def ev_m137 : ev_M := (⟨"WitnessBenchModel", "type", "(C)I"⟩, prog_12_method_7_code, 2, some .int, [],
  [(0, .aload_n 0, 0, 0), (1, .iload_n 1, 0, 0), (2, .bipush 97, 0, 0), (4, .if_icmp .lt 9, 0, 0), (7, .iload_n 1, 0, 0), (8, .bipush 122, 0, 0), (10, .if_icmp .le 7, 0, 0), (13, .iconst 1, 0, 0), (14, .goto 17, 0, 0), (17, .aload_n 0, 0, 0), (18, .getfield 114, 10, 2), (21, .bipush 8, 0, 0), (23, .if_icmp .ne 7, 0, 0), (26, .iconst 2, 0, 0), (27, .goto 4, 0, 0), (30, .iconst 0, 0, 0), (31, .putfield 101, 10, 0), (34, .aload_n 0, 0, 0), (35, .getfield 101, 10, 0), (38, .ifCond .le 5, 0, 0), (41, .iconst 0, 0, 0), (42, .ireturn, 0, 0), (43, .aload_n 0, 0, 0), (44, .getfield 7, 10, 1), (47, .aload_n 0, 0, 0), (48, .getfield 114, 10, 2), (51, .iload_n 1, 0, 0), (52, .iastore, 0, 0), (53, .aload_n 0, 0, 0), (54, .dup, 0, 0), (55, .getfield 114, 10, 2), (58, .iconst 1, 0, 0), (59, .iadd, 0, 0), (60, .putfield 114, 10, 2), (63, .aload_n 0, 0, 0), (64, .getfield 114, 10, 2), (67, .ireturn, 0, 0)])
/-- WitnessBenchModel.cut(I)V -/
def ev_m138 : ev_M := (⟨"WitnessBenchModel", "cut", "(I)V"⟩, prog_12_method_8_code, 2, none, [],
  [(0, .aload_n 0, 0, 0), (1, .iload_n 1, 0, 0), (2, .ifCond .lt 11, 0, 0), (5, .iload_n 1, 0, 0), (6, .aload_n 0, 0, 0), (7, .getfield 114, 10, 2), (10, .if_icmp .le 7, 0, 0), (13, .iconst 1, 0, 0), (14, .goto 4, 0, 0), (17, .iconst 0, 0, 0), (18, .putfield 101, 10, 0), (21, .aload_n 0, 0, 0), (22, .aload_n 0, 0, 0), (23, .getfield 101, 10, 0), (26, .ifCond .le 10, 0, 0), (29, .aload_n 0, 0, 0), (30, .getfield 114, 10, 2), (33, .goto 4, 0, 0), (36, .iload_n 1, 0, 0), (37, .putfield 114, 10, 2), (40, .return_, 0, 0)])
/-- WitnessBenchModel.word(I)I -/
def ev_m139 : ev_M := (⟨"WitnessBenchModel", "word", "(I)I"⟩, prog_12_method_18_code, 4, some .int, [],
  [(0, .aload_n 0, 0, 0), (1, .iload_n 1, 0, 0), (2, .invokestatic 104, 140, 1), (5, .ifCond .ne 7, 0, 0), (8, .iconst 1, 0, 0), (9, .goto 44, 0, 0), (12, .aload_n 0, 0, 0), (13, .iload_n 1, 0, 0), (14, .invokevirtual 155, 141, 1), (17, .ifCond .eq 7, 0, 0), (20, .iconst 2, 0, 0), (21, .goto 32, 0, 0), (24, .aload_n 0, 0, 0), (25, .getfield 114, 10, 2), (28, .bipush 6, 0, 0), (30, .if_icmp .le 7, 0, 0), (33, .iconst 3, 0, 0), (34, .goto 19, 0, 0), (37, .aload_n 0, 0, 0), (38, .getfield 13, 10, 3), (41, .iload_n 1, 0, 0), (42, .iaload, 0, 0), (43, .bipush 10, 0, 0), (45, .if_icmp .ne 7, 0, 0), (48, .iconst 4, 0, 0), (49, .goto 4, 0, 0), (52, .iconst 0, 0, 0), (53, .putfield 101, 10, 0), (56, .aload_n 0, 0, 0), (57, .getfield 101, 10, 0), (60, .ifCond .le 5, 0, 0), (63, .iconst 0, 0, 0), (64, .ireturn, 0, 0), (65, .bipush 10, 0, 0), (67, .iload_n 1, 0, 0), (68, .imul, 0, 0), (69, .aload_n 0, 0, 0), (70, .getfield 13, 10, 3), (73, .iload_n 1, 0, 0), (74, .iaload, 0, 0), (75, .iadd, 0, 0), (76, .istore_n 2, 0, 0), (77, .iconst 0, 0, 0), (78, .istore_n 3, 0, 0), (79, .iload_n 3, 0, 0), (80, .aload_n 0, 0, 0), (81, .getfield 114, 10, 2), (84, .if_icmp .ge 26, 0, 0), (87, .aload_n 0, 0, 0), (88, .getfield 16, 10, 4), (91, .bipush 6, 0, 0), (93, .iload_n 2, 0, 0), (94, .imul, 0, 0), (95, .iload_n 3, 0, 0), (96, .iadd, 0, 0), (97, .aload_n 0, 0, 0), (98, .getfield 7, 10, 1), (101, .iload_n 3, 0, 0), (102, .iaload, 0, 0), (103, .iastore, 0, 0), (104, .iinc 3 1, 0, 0), (107, .goto (-28), 0, 0), (110, .aload_n 0, 0, 0), (111, .getfield 19, 10, 5), (114, .iload_n 2, 0, 0), (115, .aload_n 0, 0, 0), (116, .getfield 114, 10, 2), (119, .iastore, 0, 0), (120, .aload_n 0, 0, 0), (121, .getfield 13, 10, 3), (124, .iload_n 1, 0, 0), (125, .dup2, 0, 0), (126, .iaload, 0, 0), (127, .iconst 1, 0, 0), (128, .iadd, 0, 0), (129, .iastore, 0, 0), (130, .aload_n 0, 0, 0), (131, .iconst 0, 0, 0), (132, .putfield 114, 10, 2), (135, .aload_n 0, 0, 0), (136, .invokevirtual 158, 142, 0), (139, .aload_n 0, 0, 0), (140, .getfield 13, 10, 3), (143, .iload_n 1, 0, 0), (144, .iaload, 0, 0), (145, .ireturn, 0, 0)])
/-- WitnessBenchModel.isWitness(I)Z -/
def ev_m140 : ev_M := (⟨"WitnessBenchModel", "isWitness", "(I)Z"⟩, prog_12_method_3_code, 1, some .boolean, [],
  [(0, .iload_n 0, 0, 0), (1, .ifCond .lt 12, 0, 0), (4, .iload_n 0, 0, 0), (5, .iconst 4, 0, 0), (6, .if_icmp .ge 7, 0, 0), (9, .iconst 1, 0, 0), (10, .goto 4, 0, 0), (13, .iconst 0, 0, 0), (14, .ireturn, 0, 0)])
/-- WitnessBenchModel.isJoined(I)Z -/
def ev_m141 : ev_M := (⟨"WitnessBenchModel", "isJoined", "(I)Z"⟩, prog_12_method_5_code, 4, some .boolean, [],
  [(0, .iconst 0, 0, 0), (1, .istore_n 2, 0, 0), (2, .iconst 0, 0, 0), (3, .istore_n 3, 0, 0), (4, .iload_n 3, 0, 0), (5, .aload_n 0, 0, 0), (6, .getfield 108, 10, 19), (9, .if_icmp .ge 29, 0, 0), (12, .iload_n 2, 0, 0), (13, .ifCond .ne 13, 0, 0), (16, .aload_n 0, 0, 0), (17, .getfield 52, 10, 20), (20, .iload_n 3, 0, 0), (21, .iaload, 0, 0), (22, .iload_n 1, 0, 0), (23, .if_icmp .ne 7, 0, 0), (26, .iconst 1, 0, 0), (27, .goto 4, 0, 0), (30, .iconst 0, 0, 0), (31, .istore_n 2, 0, 0), (32, .iinc 3 1, 0, 0), (35, .goto (-31), 0, 0), (38, .iload_n 2, 0, 0), (39, .ireturn, 0, 0)])
/-- WitnessBenchModel.settle()V -/
def ev_m142 : ev_M := (⟨"WitnessBenchModel", "settle", "()V"⟩, prog_12_method_16_code, 4, none, [],
  [(0, .iconst 0, 0, 0), (1, .istore_n 1, 0, 0), (2, .iload_n 1, 0, 0), (3, .bipush 40, 0, 0), (5, .if_icmp .ge 78, 0, 0), (8, .aload_n 0, 0, 0), (9, .iload_n 1, 0, 0), (10, .invokevirtual 138, 143, 1), (13, .ifCond .eq 64, 0, 0), (16, .aload_n 0, 0, 0), (17, .iload_n 1, 0, 0), (18, .aload_n 0, 0, 0), (19, .getfield 19, 10, 5), (22, .iload_n 1, 0, 0), (23, .iaload, 0, 0), (24, .invokevirtual 141, 144, 2), (27, .aload_n 0, 0, 0), (28, .getfield 25, 10, 7), (31, .iload_n 1, 0, 0), (32, .aload_n 0, 0, 0), (33, .getfield 128, 10, 18), (36, .iastore, 0, 0), (37, .iconst 0, 0, 0), (38, .istore_n 2, 0, 0), (39, .iload_n 2, 0, 0), (40, .aload_n 0, 0, 0), (41, .getfield 128, 10, 18), (44, .if_icmp .ge 26, 0, 0), (47, .aload_n 0, 0, 0), (48, .getfield 22, 10, 6), (51, .bipush 12, 0, 0), (53, .iload_n 1, 0, 0), (54, .imul, 0, 0), (55, .iload_n 2, 0, 0), (56, .iadd, 0, 0), (57, .aload_n 0, 0, 0), (58, .getfield 49, 10, 17), (61, .iload_n 2, 0, 0), (62, .iaload, 0, 0), (63, .iastore, 0, 0), (64, .iinc 2 1, 0, 0), (67, .goto (-28), 0, 0), (70, .aload_n 0, 0, 0), (71, .getfield 28, 10, 8), (74, .iload_n 1, 0, 0), (75, .iload_n 1, 0, 0), (76, .iastore, 0, 0), (77, .iinc 1 1, 0, 0), (80, .goto (-78), 0, 0), (83, .iconst 1, 0, 0), (84, .istore_n 1, 0, 0), (85, .iload_n 1, 0, 0), (86, .ifCond .eq 124, 0, 0), (89, .iconst 0, 0, 0), (90, .istore_n 1, 0, 0), (91, .iconst 0, 0, 0), (92, .istore_n 2, 0, 0), (93, .iload_n 2, 0, 0), (94, .bipush 40, 0, 0), (96, .if_icmp .ge 66, 0, 0), (99, .iconst 0, 0, 0), (100, .istore_n 3, 0, 0), (101, .iload_n 3, 0, 0), (102, .iload_n 2, 0, 0), (103, .if_icmp .ge 53, 0, 0), (106, .aload_n 0, 0, 0), (107, .iload_n 2, 0, 0), (108, .invokevirtual 138, 143, 1), (111, .ifCond .eq 45, 0, 0), (114, .aload_n 0, 0, 0), (115, .iload_n 3, 0, 0), (116, .invokevirtual 138, 143, 1), (119, .ifCond .eq 21, 0, 0), (122, .aload_n 0, 0, 0), (123, .iload_n 2, 0, 0), (124, .iload_n 3, 0, 0), (125, .invokevirtual 145, 148, 2), (128, .ifCond .eq 12, 0, 0), (131, .aload_n 0, 0, 0), (132, .iload_n 2, 0, 0), (133, .iload_n 3, 0, 0), (134, .invokevirtual 149, 150, 2), (137, .ifCond .ne 7, 0, 0), (140, .iload_n 1, 0, 0), (141, .ifCond .eq 7, 0, 0), (144, .iconst 1, 0, 0), (145, .goto 4, 0, 0), (148, .iconst 0, 0, 0), (149, .istore_n 1, 0, 0), (150, .iinc 3 1, 0, 0), (153, .goto (-52), 0, 0), (156, .iinc 2 1, 0, 0), (159, .goto (-66), 0, 0), (162, .iconst 0, 0, 0), (163, .istore_n 2, 0, 0), (164, .iload_n 2, 0, 0), (165, .aload_n 0, 0, 0), (166, .getfield 152, 10, 14), (169, .if_icmp .ge 38, 0, 0), (172, .aload_n 0, 0, 0), (173, .aload_n 0, 0, 0), (174, .getfield 43, 10, 15), (177, .iload_n 2, 0, 0), (178, .iaload, 0, 0), (179, .aload_n 0, 0, 0), (180, .getfield 46, 10, 16), (183, .iload_n 2, 0, 0), (184, .iaload, 0, 0), (185, .invokevirtual 149, 150, 2), (188, .ifCond .ne 7, 0, 0), (191, .iload_n 1, 0, 0), (192, .ifCond .eq 7, 0, 0), (195, .iconst 1, 0, 0), (196, .goto 4, 0, 0), (199, .iconst 0, 0, 0), (200, .istore_n 1, 0, 0), (201, .iinc 2 1, 0, 0), (204, .goto (-40), 0, 0), (207, .goto (-122), 0, 0), (210, .return_, 0, 0)])
/-- WitnessBenchModel.isThere(I)Z -/
def ev_m143 : ev_M := (⟨"WitnessBenchModel", "isThere", "(I)Z"⟩, prog_12_method_13_code, 2, some .boolean, [],
  [(0, .iload_n 1, 0, 0), (1, .bipush 10, 0, 0), (3, .irem, 0, 0), (4, .aload_n 0, 0, 0), (5, .getfield 13, 10, 3), (8, .iload_n 1, 0, 0), (9, .bipush 10, 0, 0), (11, .idiv, 0, 0), (12, .iaload, 0, 0), (13, .if_icmp .ge 7, 0, 0), (16, .iconst 1, 0, 0), (17, .goto 4, 0, 0), (20, .iconst 0, 0, 0), (21, .ireturn, 0, 0)])
/-- WitnessBenchModel.workForm(II)V -/
def ev_m144 : ev_M := (⟨"WitnessBenchModel", "workForm", "(II)V"⟩, prog_12_method_12_code, 7, none, [],
  [(0, .aload_n 0, 0, 0), (1, .iconst 0, 0, 0), (2, .putfield 128, 10, 18), (5, .iconst 0, 0, 0), (6, .istore_n 3, 0, 0), (7, .iload_n 3, 0, 0), (8, .iload_n 2, 0, 0), (9, .if_icmp .ge 119, 0, 0), (12, .aload_n 0, 0, 0), (13, .iload_n 1, 0, 0), (14, .iload_n 3, 0, 0), (15, .iload_n 2, 0, 0), (16, .invokevirtual 131, 145, 3), (19, .istore 4, 0, 0), (21, .iload 4, 0, 0), (23, .ifCond .ge 7, 0, 0), (26, .iconst 1, 0, 0), (27, .goto 10, 0, 0), (30, .aload_n 0, 0, 0), (31, .getfield 40, 10, 13), (34, .iload 4, 0, 0), (36, .iaload, 0, 0), (37, .istore 5, 0, 0), (39, .iconst 0, 0, 0), (40, .istore 6, 0, 0), (42, .iload 6, 0, 0), (44, .iload 5, 0, 0), (46, .if_icmp .ge 47, 0, 0), (49, .aload_n 0, 0, 0), (50, .getfield 49, 10, 17), (53, .aload_n 0, 0, 0), (54, .getfield 128, 10, 18), (57, .iload 6, 0, 0), (59, .iadd, 0, 0), (60, .iload 4, 0, 0), (62, .ifCond .ge 12, 0, 0), (65, .aload_n 0, 0, 0), (66, .iload_n 1, 0, 0), (67, .iload_n 3, 0, 0), (68, .invokevirtual 117, 147, 2), (71, .goto 15, 0, 0), (74, .aload_n 0, 0, 0), (75, .getfield 37, 10, 12), (78, .iconst 2, 0, 0), (79, .iload 4, 0, 0), (81, .imul, 0, 0), (82, .iload 6, 0, 0), (84, .iadd, 0, 0), (85, .iaload, 0, 0), (86, .iastore, 0, 0), (87, .iinc 6 1, 0, 0), (90, .goto (-48), 0, 0), (93, .aload_n 0, 0, 0), (94, .aload_n 0, 0, 0), (95, .getfield 128, 10, 18), (98, .iload 5, 0, 0), (100, .iadd, 0, 0), (101, .putfield 128, 10, 18), (104, .iload 4, 0, 0), (106, .ifCond .ge 9, 0, 0), (109, .iload_n 3, 0, 0), (110, .iconst 1, 0, 0), (111, .iadd, 0, 0), (112, .goto 12, 0, 0), (115, .iload_n 3, 0, 0), (116, .aload_n 0, 0, 0), (117, .getfield 34, 10, 11), (120, .iload 4, 0, 0), (122, .iaload, 0, 0), (123, .iadd, 0, 0), (124, .istore_n 3, 0, 0), (125, .goto (-118), 0, 0), (128, .return_, 0, 0)])
/-- WitnessBenchModel.ruleAt(III)I -/
def ev_m145 : ev_M := (⟨"WitnessBenchModel", "ruleAt", "(III)I"⟩, prog_12_method_11_code, 7, some .int, [],
  [(0, .iconst (-1), 0, 0), (1, .istore 4, 0, 0), (3, .aload_n 0, 0, 0), (4, .getfield 121, 10, 9), (7, .iconst 1, 0, 0), (8, .isub, 0, 0), (9, .istore 5, 0, 0), (11, .iload 5, 0, 0), (13, .ifCond .lt 73, 0, 0), (16, .iload 4, 0, 0), (18, .ifCond .lt 29, 0, 0), (21, .aload_n 0, 0, 0), (22, .getfield 34, 10, 11), (25, .iload 5, 0, 0), (27, .iaload, 0, 0), (28, .aload_n 0, 0, 0), (29, .getfield 34, 10, 11), (32, .iload 4, 0, 0), (34, .ifCond .ge 7, 0, 0), (37, .iconst 0, 0, 0), (38, .goto 5, 0, 0), (41, .iload 4, 0, 0), (43, .iaload, 0, 0), (44, .if_icmp .lt 7, 0, 0), (47, .iconst 1, 0, 0), (48, .goto 4, 0, 0), (51, .iconst 0, 0, 0), (52, .istore 6, 0, 0), (54, .iload 6, 0, 0), (56, .ifCond .eq 20, 0, 0), (59, .aload_n 0, 0, 0), (60, .iload 5, 0, 0), (62, .iload_n 1, 0, 0), (63, .iload_n 2, 0, 0), (64, .iload_n 3, 0, 0), (65, .invokevirtual 124, 146, 4), (68, .ifCond .eq 8, 0, 0), (71, .iload 5, 0, 0), (73, .goto 5, 0, 0), (76, .iload 4, 0, 0), (78, .istore 4, 0, 0), (80, .iinc 5 (-1), 0, 0), (83, .goto (-72), 0, 0), (86, .iload 4, 0, 0), (88, .ireturn, 0, 0)])
/-- WitnessBenchModel.stands(IIII)Z -/
def ev_m146 : ev_M := (⟨"WitnessBenchModel", "stands", "(IIII)Z"⟩, prog_12_method_9_code, 7, some .boolean, [],
  [(0, .iload_n 3, 0, 0), (1, .aload_n 0, 0, 0), (2, .getfield 34, 10, 11), (5, .iload_n 1, 0, 0), (6, .iaload, 0, 0), (7, .iadd, 0, 0), (8, .iload 4, 0, 0), (10, .if_icmp .gt 7, 0, 0), (13, .iconst 1, 0, 0), (14, .goto 4, 0, 0), (17, .iconst 0, 0, 0), (18, .istore 5, 0, 0), (20, .iconst 0, 0, 0), (21, .istore 6, 0, 0), (23, .iload 6, 0, 0), (25, .aload_n 0, 0, 0), (26, .getfield 34, 10, 11), (29, .iload_n 1, 0, 0), (30, .iaload, 0, 0), (31, .if_icmp .ge 44, 0, 0), (34, .iload 5, 0, 0), (36, .ifCond .eq 39, 0, 0), (39, .aload_n 0, 0, 0), (40, .getfield 31, 10, 10), (43, .iconst 3, 0, 0), (44, .iload_n 1, 0, 0), (45, .imul, 0, 0), (46, .iload 6, 0, 0), (48, .iadd, 0, 0), (49, .iaload, 0, 0), (50, .aload_n 0, 0, 0), (51, .iload_n 2, 0, 0), (52, .iload_n 3, 0, 0), (53, .iload 6, 0, 0), (55, .iadd, 0, 0), (56, .invokevirtual 117, 147, 2), (59, .if_icmp .ne 7, 0, 0), (62, .iconst 1, 0, 0), (63, .goto 4, 0, 0), (66, .iconst 0, 0, 0), (67, .istore 5, 0, 0), (69, .iinc 6 1, 0, 0), (72, .goto (-49), 0, 0), (75, .iload 5, 0, 0), (77, .ireturn, 0, 0)])
/-- WitnessBenchModel.letter(II)I -/
def ev_m147 : ev_M := (⟨"WitnessBenchModel", "letter", "(II)I"⟩, prog_12_method_10_code, 3, some .int, [],
  [(0, .iload_n 1, 0, 0), (1, .ifCond .ge 12, 0, 0), (4, .aload_n 0, 0, 0), (5, .getfield 7, 10, 1), (8, .iload_n 2, 0, 0), (9, .iaload, 0, 0), (10, .goto 14, 0, 0), (13, .aload_n 0, 0, 0), (14, .getfield 16, 10, 4), (17, .bipush 6, 0, 0), (19, .iload_n 1, 0, 0), (20, .imul, 0, 0), (21, .iload_n 2, 0, 0), (22, .iadd, 0, 0), (23, .iaload, 0, 0), (24, .ireturn, 0, 0)])
/-- WitnessBenchModel.alike(II)Z -/
def ev_m148 : ev_M := (⟨"WitnessBenchModel", "alike", "(II)Z"⟩, prog_12_method_15_code, 5, some .boolean, [],
  [(0, .aload_n 0, 0, 0), (1, .iload_n 1, 0, 0), (2, .invokevirtual 135, 149, 1), (5, .aload_n 0, 0, 0), (6, .iload_n 2, 0, 0), (7, .invokevirtual 135, 149, 1), (10, .if_icmp .ne 22, 0, 0), (13, .aload_n 0, 0, 0), (14, .getfield 25, 10, 7), (17, .iload_n 1, 0, 0), (18, .iaload, 0, 0), (19, .aload_n 0, 0, 0), (20, .getfield 25, 10, 7), (23, .iload_n 2, 0, 0), (24, .iaload, 0, 0), (25, .if_icmp .ne 7, 0, 0), (28, .iconst 1, 0, 0), (29, .goto 4, 0, 0), (32, .iconst 0, 0, 0), (33, .istore_n 3, 0, 0), (34, .iconst 0, 0, 0), (35, .istore 4, 0, 0), (37, .iload 4, 0, 0), (39, .aload_n 0, 0, 0), (40, .getfield 25, 10, 7), (43, .iload_n 1, 0, 0), (44, .iaload, 0, 0), (45, .if_icmp .ge 46, 0, 0), (48, .iload_n 3, 0, 0), (49, .ifCond .eq 42, 0, 0), (52, .aload_n 0, 0, 0), (53, .getfield 22, 10, 6), (56, .bipush 12, 0, 0), (58, .iload_n 1, 0, 0), (59, .imul, 0, 0), (60, .iload 4, 0, 0), (62, .iadd, 0, 0), (63, .iaload, 0, 0), (64, .aload_n 0, 0, 0), (65, .getfield 22, 10, 6), (68, .bipush 12, 0, 0), (70, .iload_n 2, 0, 0), (71, .imul, 0, 0), (72, .iload 4, 0, 0), (74, .iadd, 0, 0), (75, .iaload, 0, 0), (76, .if_icmp .ne 7, 0, 0), (79, .iconst 1, 0, 0), (80, .goto 4, 0, 0), (83, .iconst 0, 0, 0), (84, .istore_n 3, 0, 0), (85, .iinc 4 1, 0, 0), (88, .goto (-51), 0, 0), (91, .iload_n 3, 0, 0), (92, .ireturn, 0, 0)])
/-- WitnessBenchModel.isGap(I)Z -/
def ev_m149 : ev_M := (⟨"WitnessBenchModel", "isGap", "(I)Z"⟩, prog_12_method_14_code, 2, some .boolean, [],
  [(0, .aload_n 0, 0, 0), (1, .getfield 19, 10, 5), (4, .iload_n 1, 0, 0), (5, .iaload, 0, 0), (6, .ifCond .ne 7, 0, 0), (9, .iconst 1, 0, 0), (10, .goto 4, 0, 0), (13, .iconst 0, 0, 0), (14, .ireturn, 0, 0)])
/-- WitnessBenchModel.even(II)Z -/
def ev_m150 : ev_M := (⟨"WitnessBenchModel", "even", "(II)Z"⟩, prog_12_method_17_code, 5, some .boolean, [],
  [(0, .aload_n 0, 0, 0), (1, .getfield 28, 10, 8), (4, .iload_n 1, 0, 0), (5, .iaload, 0, 0), (6, .aload_n 0, 0, 0), (7, .getfield 28, 10, 8), (10, .iload_n 2, 0, 0), (11, .iaload, 0, 0), (12, .if_icmp .ge 12, 0, 0), (15, .aload_n 0, 0, 0), (16, .getfield 28, 10, 8), (19, .iload_n 1, 0, 0), (20, .iaload, 0, 0), (21, .goto 9, 0, 0), (24, .aload_n 0, 0, 0), (25, .getfield 28, 10, 8), (28, .iload_n 2, 0, 0), (29, .iaload, 0, 0), (30, .istore_n 3, 0, 0), (31, .aload_n 0, 0, 0), (32, .getfield 28, 10, 8), (35, .iload_n 1, 0, 0), (36, .iaload, 0, 0), (37, .aload_n 0, 0, 0), (38, .getfield 28, 10, 8), (41, .iload_n 2, 0, 0), (42, .iaload, 0, 0), (43, .if_icmp .eq 7, 0, 0), (46, .iconst 1, 0, 0), (47, .goto 4, 0, 0), (50, .iconst 0, 0, 0), (51, .istore 4, 0, 0), (53, .aload_n 0, 0, 0), (54, .getfield 28, 10, 8), (57, .iload_n 1, 0, 0), (58, .iload_n 3, 0, 0), (59, .iastore, 0, 0), (60, .aload_n 0, 0, 0), (61, .getfield 28, 10, 8), (64, .iload_n 2, 0, 0), (65, .iload_n 3, 0, 0), (66, .iastore, 0, 0), (67, .iload 4, 0, 0), (69, .ireturn, 0, 0)])
/-- WitnessBenchModel.rule(I)I -/
def ev_m151 : ev_M := (⟨"WitnessBenchModel", "rule", "(I)I"⟩, prog_12_method_19_code, 3, some .int, [],
  [(0, .aload_n 0, 0, 0), (1, .iload_n 1, 0, 0), (2, .iconst 1, 0, 0), (3, .if_icmp .lt 26, 0, 0), (6, .iload_n 1, 0, 0), (7, .iconst 3, 0, 0), (8, .if_icmp .gt 21, 0, 0), (11, .aload_n 0, 0, 0), (12, .getfield 114, 10, 2), (15, .iload_n 1, 0, 0), (16, .if_icmp .lt 13, 0, 0), (19, .aload_n 0, 0, 0), (20, .getfield 114, 10, 2), (23, .iload_n 1, 0, 0), (24, .iconst 2, 0, 0), (25, .iadd, 0, 0), (26, .if_icmp .le 7, 0, 0), (29, .iconst 1, 0, 0), (30, .goto 17, 0, 0), (33, .aload_n 0, 0, 0), (34, .getfield 121, 10, 9), (37, .bipush 8, 0, 0), (39, .if_icmp .ne 7, 0, 0), (42, .iconst 2, 0, 0), (43, .goto 4, 0, 0), (46, .iconst 0, 0, 0), (47, .putfield 101, 10, 0), (50, .aload_n 0, 0, 0), (51, .getfield 101, 10, 0), (54, .ifCond .le 5, 0, 0), (57, .iconst 0, 0, 0), (58, .ireturn, 0, 0), (59, .iconst 0, 0, 0), (60, .istore_n 2, 0, 0), (61, .iload_n 2, 0, 0), (62, .aload_n 0, 0, 0), (63, .getfield 114, 10, 2), (66, .if_icmp .ge 57, 0, 0), (69, .iload_n 2, 0, 0), (70, .iload_n 1, 0, 0), (71, .if_icmp .ge 25, 0, 0), (74, .aload_n 0, 0, 0), (75, .getfield 31, 10, 10), (78, .iconst 3, 0, 0), (79, .aload_n 0, 0, 0), (80, .getfield 121, 10, 9), (83, .imul, 0, 0), (84, .iload_n 2, 0, 0), (85, .iadd, 0, 0), (86, .aload_n 0, 0, 0), (87, .getfield 7, 10, 1), (90, .iload_n 2, 0, 0), (91, .iaload, 0, 0), (92, .iastore, 0, 0), (93, .goto 24, 0, 0), (96, .aload_n 0, 0, 0), (97, .getfield 37, 10, 12), (100, .iconst 2, 0, 0), (101, .aload_n 0, 0, 0), (102, .getfield 121, 10, 9), (105, .imul, 0, 0), (106, .iload_n 2, 0, 0), (107, .iadd, 0, 0), (108, .iload_n 1, 0, 0), (109, .isub, 0, 0), (110, .aload_n 0, 0, 0), (111, .getfield 7, 10, 1), (114, .iload_n 2, 0, 0), (115, .iaload, 0, 0), (116, .iastore, 0, 0), (117, .iinc 2 1, 0, 0), (120, .goto (-59), 0, 0), (123, .aload_n 0, 0, 0), (124, .getfield 34, 10, 11), (127, .aload_n 0, 0, 0), (128, .getfield 121, 10, 9), (131, .iload_n 1, 0, 0), (132, .iastore, 0, 0), (133, .aload_n 0, 0, 0), (134, .getfield 40, 10, 13), (137, .aload_n 0, 0, 0), (138, .getfield 121, 10, 9), (141, .aload_n 0, 0, 0), (142, .getfield 114, 10, 2), (145, .iload_n 1, 0, 0), (146, .isub, 0, 0), (147, .iastore, 0, 0), (148, .aload_n 0, 0, 0), (149, .dup, 0, 0), (150, .getfield 121, 10, 9), (153, .iconst 1, 0, 0), (154, .iadd, 0, 0), (155, .putfield 121, 10, 9), (158, .aload_n 0, 0, 0), (159, .iconst 0, 0, 0), (160, .putfield 114, 10, 2), (163, .aload_n 0, 0, 0), (164, .invokevirtual 158, 142, 0), (167, .aload_n 0, 0, 0), (168, .getfield 121, 10, 9), (171, .ireturn, 0, 0)])
/-- WitnessBenchModel.equate(IIII)I -/
def ev_m152 : ev_M := (⟨"WitnessBenchModel", "equate", "(IIII)I"⟩, prog_12_method_20_code, 5, some .int, [],
  [(0, .aload_n 0, 0, 0), (1, .aload_n 0, 0, 0), (2, .iload_n 1, 0, 0), (3, .iload_n 2, 0, 0), (4, .invokevirtual 161, 153, 2), (7, .ifCond .eq 13, 0, 0), (10, .aload_n 0, 0, 0), (11, .iload_n 3, 0, 0), (12, .iload 4, 0, 0), (14, .invokevirtual 161, 153, 2), (17, .ifCond .ne 7, 0, 0), (20, .iconst 1, 0, 0), (21, .goto 48, 0, 0), (24, .aload_n 0, 0, 0), (25, .bipush 10, 0, 0), (27, .iload_n 1, 0, 0), (28, .imul, 0, 0), (29, .iload_n 2, 0, 0), (30, .iadd, 0, 0), (31, .invokevirtual 135, 149, 1), (34, .ifCond .ne 17, 0, 0), (37, .aload_n 0, 0, 0), (38, .bipush 10, 0, 0), (40, .iload_n 3, 0, 0), (41, .imul, 0, 0), (42, .iload 4, 0, 0), (44, .iadd, 0, 0), (45, .invokevirtual 135, 149, 1), (48, .ifCond .eq 7, 0, 0), (51, .iconst 2, 0, 0), (52, .goto 17, 0, 0), (55, .aload_n 0, 0, 0), (56, .getfield 152, 10, 14), (59, .bipush 6, 0, 0), (61, .if_icmp .ne 7, 0, 0), (64, .iconst 3, 0, 0), (65, .goto 4, 0, 0), (68, .iconst 0, 0, 0), (69, .putfield 101, 10, 0), (72, .aload_n 0, 0, 0), (73, .getfield 101, 10, 0), (76, .ifCond .le 5, 0, 0), (79, .iconst 0, 0, 0), (80, .ireturn, 0, 0), (81, .aload_n 0, 0, 0), (82, .getfield 43, 10, 15), (85, .aload_n 0, 0, 0), (86, .getfield 152, 10, 14), (89, .bipush 10, 0, 0), (91, .iload_n 1, 0, 0), (92, .imul, 0, 0), (93, .iload_n 2, 0, 0), (94, .iadd, 0, 0), (95, .iastore, 0, 0), (96, .aload_n 0, 0, 0), (97, .getfield 46, 10, 16), (100, .aload_n 0, 0, 0), (101, .getfield 152, 10, 14), (104, .bipush 10, 0, 0), (106, .iload_n 3, 0, 0), (107, .imul, 0, 0), (108, .iload 4, 0, 0), (110, .iadd, 0, 0), (111, .iastore, 0, 0), (112, .aload_n 0, 0, 0), (113, .dup, 0, 0), (114, .getfield 152, 10, 14), (117, .iconst 1, 0, 0), (118, .iadd, 0, 0), (119, .putfield 152, 10, 14), (122, .aload_n 0, 0, 0), (123, .invokevirtual 158, 142, 0), (126, .aload_n 0, 0, 0), (127, .getfield 152, 10, 14), (130, .ireturn, 0, 0)])
/-- WitnessBenchModel.isWord(II)Z -/
def ev_m153 : ev_M := (⟨"WitnessBenchModel", "isWord", "(II)Z"⟩, prog_12_method_4_code, 3, some .boolean, [],
  [(0, .iload_n 1, 0, 0), (1, .invokestatic 104, 140, 1), (4, .ifCond .eq 21, 0, 0), (7, .iload_n 2, 0, 0), (8, .ifCond .lt 17, 0, 0), (11, .iload_n 2, 0, 0), (12, .aload_n 0, 0, 0), (13, .getfield 13, 10, 3), (16, .iload_n 1, 0, 0), (17, .iaload, 0, 0), (18, .if_icmp .ge 7, 0, 0), (21, .iconst 1, 0, 0), (22, .goto 4, 0, 0), (25, .iconst 0, 0, 0), (26, .ireturn, 0, 0)])
/-- WitnessBenchModel.form(II)I -/
def ev_m154 : ev_M := (⟨"WitnessBenchModel", "form", "(II)I"⟩, prog_12_method_21_code, 3, some .int, [],
  [(0, .aload_n 0, 0, 0), (1, .aload_n 0, 0, 0), (2, .iload_n 1, 0, 0), (3, .iload_n 2, 0, 0), (4, .invokevirtual 161, 153, 2), (7, .ifCond .eq 7, 0, 0), (10, .iconst 0, 0, 0), (11, .goto 4, 0, 0), (14, .iconst 1, 0, 0), (15, .putfield 101, 10, 0), (18, .aload_n 0, 0, 0), (19, .getfield 101, 10, 0), (22, .ifCond .le 7, 0, 0), (25, .iconst 0, 0, 0), (26, .goto 31, 0, 0), (29, .aload_n 0, 0, 0), (30, .bipush 10, 0, 0), (32, .iload_n 1, 0, 0), (33, .imul, 0, 0), (34, .iload_n 2, 0, 0), (35, .iadd, 0, 0), (36, .invokevirtual 135, 149, 1), (39, .ifCond .eq 7, 0, 0), (42, .iconst (-1), 0, 0), (43, .goto 14, 0, 0), (46, .aload_n 0, 0, 0), (47, .getfield 25, 10, 7), (50, .bipush 10, 0, 0), (52, .iload_n 1, 0, 0), (53, .imul, 0, 0), (54, .iload_n 2, 0, 0), (55, .iadd, 0, 0), (56, .iaload, 0, 0), (57, .ireturn, 0, 0)])
/-- WitnessBenchModel.distance(IIII)I -/
def ev_m155 : ev_M := (⟨"WitnessBenchModel", "distance", "(IIII)I"⟩, prog_12_method_25_code, 5, some .int, [],
  [(0, .aload_n 0, 0, 0), (1, .aload_n 0, 0, 0), (2, .iload_n 1, 0, 0), (3, .iload_n 2, 0, 0), (4, .invokevirtual 161, 153, 2), (7, .ifCond .eq 13, 0, 0), (10, .aload_n 0, 0, 0), (11, .iload_n 3, 0, 0), (12, .iload 4, 0, 0), (14, .invokevirtual 161, 153, 2), (17, .ifCond .ne 7, 0, 0), (20, .iconst 1, 0, 0), (21, .goto 4, 0, 0), (24, .iconst 0, 0, 0), (25, .putfield 101, 10, 0), (28, .aload_n 0, 0, 0), (29, .getfield 101, 10, 0), (32, .ifCond .le 7, 0, 0), (35, .iconst 0, 0, 0), (36, .goto 20, 0, 0), (39, .aload_n 0, 0, 0), (40, .bipush 10, 0, 0), (42, .iload_n 1, 0, 0), (43, .imul, 0, 0), (44, .iload_n 2, 0, 0), (45, .iadd, 0, 0), (46, .bipush 10, 0, 0), (48, .iload_n 3, 0, 0), (49, .imul, 0, 0), (50, .iload 4, 0, 0), (52, .iadd, 0, 0), (53, .invokevirtual 170, 156, 2), (56, .ireturn, 0, 0)])
/-- WitnessBenchModel.far(II)I -/
def ev_m156 : ev_M := (⟨"WitnessBenchModel", "far", "(II)I"⟩, prog_12_method_24_code, 3, some .int, [],
  [(0, .aload_n 0, 0, 0), (1, .getfield 28, 10, 8), (4, .iload_n 1, 0, 0), (5, .iaload, 0, 0), (6, .aload_n 0, 0, 0), (7, .getfield 28, 10, 8), (10, .iload_n 2, 0, 0), (11, .iaload, 0, 0), (12, .if_icmp .ne 7, 0, 0), (15, .iconst 0, 0, 0), (16, .goto 37, 0, 0), (19, .aload_n 0, 0, 0), (20, .iload_n 1, 0, 0), (21, .invokevirtual 135, 149, 1), (24, .ifCond .ne 11, 0, 0), (27, .aload_n 0, 0, 0), (28, .iload_n 2, 0, 0), (29, .invokevirtual 135, 149, 1), (32, .ifCond .eq 7, 0, 0), (35, .iconst 4, 0, 0), (36, .goto 17, 0, 0), (39, .aload_n 0, 0, 0), (40, .bipush 12, 0, 0), (42, .iconst 2, 0, 0), (43, .aload_n 0, 0, 0), (44, .iload_n 1, 0, 0), (45, .iload_n 2, 0, 0), (46, .invokevirtual 167, 157, 2), (49, .imul, 0, 0), (50, .invokevirtual 164, 158, 2), (53, .ireturn, 0, 0)])
/-- WitnessBenchModel.apart(II)I -/
def ev_m157 : ev_M := (⟨"WitnessBenchModel", "apart", "(II)I"⟩, prog_12_method_23_code, 6, some .int, [],
  [(0, .iconst 0, 0, 0), (1, .istore_n 3, 0, 0), (2, .iload_n 3, 0, 0), (3, .aload_n 0, 0, 0), (4, .getfield 25, 10, 7), (7, .iload_n 1, 0, 0), (8, .iaload, 0, 0), (9, .if_icmp .gt 163, 0, 0), (12, .iconst 0, 0, 0), (13, .istore 4, 0, 0), (15, .iload 4, 0, 0), (17, .aload_n 0, 0, 0), (18, .getfield 25, 10, 7), (21, .iload_n 2, 0, 0), (22, .iaload, 0, 0), (23, .if_icmp .gt 143, 0, 0), (26, .iload_n 3, 0, 0), (27, .ifCond .eq 8, 0, 0), (30, .iload 4, 0, 0), (32, .ifCond .ne 22, 0, 0), (35, .aload_n 0, 0, 0), (36, .getfield 71, 10, 27), (39, .bipush 13, 0, 0), (41, .iload_n 3, 0, 0), (42, .imul, 0, 0), (43, .iload 4, 0, 0), (45, .iadd, 0, 0), (46, .iload_n 3, 0, 0), (47, .iload 4, 0, 0), (49, .iadd, 0, 0), (50, .iastore, 0, 0), (51, .goto 109, 0, 0), (54, .aload_n 0, 0, 0), (55, .getfield 22, 10, 6), (58, .bipush 12, 0, 0), (60, .iload_n 1, 0, 0), (61, .imul, 0, 0), (62, .iload_n 3, 0, 0), (63, .iadd, 0, 0), (64, .iconst 1, 0, 0), (65, .isub, 0, 0), (66, .iaload, 0, 0), (67, .aload_n 0, 0, 0), (68, .getfield 22, 10, 6), (71, .bipush 12, 0, 0), (73, .iload_n 2, 0, 0), (74, .imul, 0, 0), (75, .iload 4, 0, 0), (77, .iadd, 0, 0), (78, .iconst 1, 0, 0), (79, .isub, 0, 0), (80, .iaload, 0, 0), (81, .if_icmp .ne 7, 0, 0), (84, .iconst 0, 0, 0), (85, .goto 4, 0, 0), (88, .iconst 1, 0, 0), (89, .istore 5, 0, 0), (91, .aload_n 0, 0, 0), (92, .getfield 71, 10, 27), (95, .bipush 13, 0, 0), (97, .iload_n 3, 0, 0), (98, .imul, 0, 0), (99, .iload 4, 0, 0), (101, .iadd, 0, 0), (102, .aload_n 0, 0, 0), (103, .aload_n 0, 0, 0), (104, .getfield 71, 10, 27), (107, .bipush 13, 0, 0), (109, .iload_n 3, 0, 0), (110, .imul, 0, 0), (111, .iload 4, 0, 0), (113, .iadd, 0, 0), (114, .bipush 14, 0, 0), (116, .isub, 0, 0), (117, .iaload, 0, 0), (118, .iload 5, 0, 0), (120, .iadd, 0, 0), (121, .iconst 1, 0, 0), (122, .aload_n 0, 0, 0), (123, .aload_n 0, 0, 0), (124, .getfield 71, 10, 27), (127, .bipush 13, 0, 0), (129, .iload_n 3, 0, 0), (130, .imul, 0, 0), (131, .iload 4, 0, 0), (133, .iadd, 0, 0), (134, .bipush 13, 0, 0), (136, .isub, 0, 0), (137, .iaload, 0, 0), (138, .aload_n 0, 0, 0), (139, .getfield 71, 10, 27), (142, .bipush 13, 0, 0), (144, .iload_n 3, 0, 0), (145, .imul, 0, 0), (146, .iload 4, 0, 0), (148, .iadd, 0, 0), (149, .iconst 1, 0, 0), (150, .isub, 0, 0), (151, .iaload, 0, 0), (152, .invokevirtual 164, 158, 2), (155, .iadd, 0, 0), (156, .invokevirtual 164, 158, 2), (159, .iastore, 0, 0), (160, .iinc 4 1, 0, 0), (163, .goto (-148), 0, 0), (166, .iinc 3 1, 0, 0), (169, .goto (-167), 0, 0), (172, .aload_n 0, 0, 0), (173, .getfield 71, 10, 27), (176, .bipush 13, 0, 0), (178, .aload_n 0, 0, 0), (179, .getfield 25, 10, 7), (182, .iload_n 1, 0, 0), (183, .iaload, 0, 0), (184, .imul, 0, 0), (185, .aload_n 0, 0, 0), (186, .getfield 25, 10, 7), (189, .iload_n 2, 0, 0), (190, .iaload, 0, 0), (191, .iadd, 0, 0), (192, .iaload, 0, 0), (193, .ireturn, 0, 0)])
/-- WitnessBenchModel.least(II)I -/
def ev_m158 : ev_M := (⟨"WitnessBenchModel", "least", "(II)I"⟩, prog_12_method_22_code, 3, some .int, [],
  [(0, .iload_n 1, 0, 0), (1, .iload_n 2, 0, 0), (2, .if_icmp .ge 7, 0, 0), (5, .iload_n 1, 0, 0), (6, .goto 4, 0, 0), (9, .iload_n 2, 0, 0), (10, .ireturn, 0, 0)])
/-- WitnessBenchModel.join(I)I -/
def ev_m159 : ev_M := (⟨"WitnessBenchModel", "join", "(I)I"⟩, prog_12_method_33_code, 8, some .int, [],
  [(0, .aload_n 0, 0, 0), (1, .iload_n 1, 0, 0), (2, .invokestatic 104, 140, 1), (5, .ifCond .ne 7, 0, 0), (8, .iconst 1, 0, 0), (9, .goto 25, 0, 0), (12, .aload_n 0, 0, 0), (13, .iload_n 1, 0, 0), (14, .invokevirtual 155, 141, 1), (17, .ifCond .ne 12, 0, 0), (20, .aload_n 0, 0, 0), (21, .getfield 13, 10, 3), (24, .iload_n 1, 0, 0), (25, .iaload, 0, 0), (26, .ifCond .ne 7, 0, 0), (29, .iconst 2, 0, 0), (30, .goto 4, 0, 0), (33, .iconst 0, 0, 0), (34, .putfield 101, 10, 0), (37, .aload_n 0, 0, 0), (38, .getfield 101, 10, 0), (41, .ifCond .le 5, 0, 0), (44, .iconst 0, 0, 0), (45, .ireturn, 0, 0), (46, .aload_n 0, 0, 0), (47, .iload_n 1, 0, 0), (48, .invokevirtual 185, 160, 1), (51, .aload_n 0, 0, 0), (52, .getfield 68, 10, 26), (55, .iconst 0, 0, 0), (56, .iaload, 0, 0), (57, .istore_n 2, 0, 0), (58, .aload_n 0, 0, 0), (59, .aload_n 0, 0, 0), (60, .getfield 111, 10, 22), (63, .aload_n 0, 0, 0), (64, .iload_n 1, 0, 0), (65, .invokevirtual 189, 163, 1), (68, .iadd, 0, 0), (69, .bipush 24, 0, 0), (71, .if_icmp .le 7, 0, 0), (74, .iconst 3, 0, 0), (75, .goto 4, 0, 0), (78, .iconst 0, 0, 0), (79, .putfield 101, 10, 0), (82, .aload_n 0, 0, 0), (83, .getfield 101, 10, 0), (86, .ifCond .le 5, 0, 0), (89, .iconst 0, 0, 0), (90, .ireturn, 0, 0), (91, .aload_n 0, 0, 0), (92, .getfield 111, 10, 22), (95, .istore_n 3, 0, 0), (96, .iconst 0, 0, 0), (97, .istore 4, 0, 0), (99, .iconst 0, 0, 0), (100, .istore 5, 0, 0), (102, .iconst 0, 0, 0), (103, .istore 6, 0, 0), (105, .iload 4, 0, 0), (107, .iload_n 3, 0, 0), (108, .if_icmp .lt 14, 0, 0), (111, .iload 5, 0, 0), (113, .aload_n 0, 0, 0), (114, .getfield 13, 10, 3), (117, .iload_n 1, 0, 0), (118, .iaload, 0, 0), (119, .if_icmp .ge 96, 0, 0), (122, .aload_n 0, 0, 0), (123, .iload 4, 0, 0), (125, .iload_n 1, 0, 0), (126, .iload 5, 0, 0), (128, .iload_n 3, 0, 0), (129, .invokevirtual 193, 165, 4), (132, .istore 7, 0, 0), (134, .iload 7, 0, 0), (136, .iconst 2, 0, 0), (137, .if_icmp .ne 25, 0, 0), (140, .aload_n 0, 0, 0), (141, .iload 4, 0, 0), (143, .iload 6, 0, 0), (145, .iadd, 0, 0), (146, .bipush 10, 0, 0), (148, .iload_n 1, 0, 0), (149, .imul, 0, 0), (150, .iload 5, 0, 0), (152, .iadd, 0, 0), (153, .invokevirtual 197, 166, 2), (156, .iinc 6 1, 0, 0), (159, .goto 36, 0, 0), (162, .aload_n 0, 0, 0), (163, .getfield 59, 10, 23), (166, .iconst 4, 0, 0), (167, .iload 4, 0, 0), (169, .iload 6, 0, 0), (171, .iadd, 0, 0), (172, .imul, 0, 0), (173, .iload_n 1, 0, 0), (174, .iadd, 0, 0), (175, .iload 7, 0, 0), (177, .ifCond .ne 13, 0, 0), (180, .bipush 10, 0, 0), (182, .iload_n 1, 0, 0), (183, .imul, 0, 0), (184, .iload 5, 0, 0), (186, .iadd, 0, 0), (187, .goto 4, 0, 0), (190, .iconst (-1), 0, 0), (191, .iastore, 0, 0), (192, .iinc 4 1, 0, 0), (195, .iload 7, 0, 0), (197, .iconst 1, 0, 0), (198, .if_icmp .ne 8, 0, 0), (201, .iload 5, 0, 0), (203, .goto 7, 0, 0), (206, .iload 5, 0, 0), (208, .iconst 1, 0, 0), (209, .iadd, 0, 0), (210, .istore 5, 0, 0), (212, .goto (-107), 0, 0), (215, .aload_n 0, 0, 0), (216, .aload_n 0, 0, 0), (217, .getfield 108, 10, 19), (220, .ifCond .ne 7, 0, 0), (223, .iload_n 1, 0, 0), (224, .goto 7, 0, 0), (227, .aload_n 0, 0, 0), (228, .getfield 55, 10, 21), (231, .putfield 55, 10, 21), (234, .aload_n 0, 0, 0), (235, .getfield 52, 10, 20), (238, .aload_n 0, 0, 0), (239, .getfield 108, 10, 19), (242, .iload_n 1, 0, 0), (243, .iastore, 0, 0), (244, .aload_n 0, 0, 0), (245, .dup, 0, 0), (246, .getfield 108, 10, 19), (249, .iconst 1, 0, 0), (250, .iadd, 0, 0), (251, .putfield 108, 10, 19), (254, .iload_n 2, 0, 0), (255, .ireturn, 0, 0)])
/-- WitnessBenchModel.workOut(I)V -/
def ev_m160 : ev_M := (⟨"WitnessBenchModel", "workOut", "(I)V"⟩, prog_12_method_28_code, 5, none, [],
  [(0, .aload_n 0, 0, 0), (1, .getfield 111, 10, 22), (4, .istore_n 2, 0, 0), (5, .iload_n 2, 0, 0), (6, .ifCond .lt 111, 0, 0), (9, .aload_n 0, 0, 0), (10, .getfield 13, 10, 3), (13, .iload_n 1, 0, 0), (14, .iaload, 0, 0), (15, .istore_n 3, 0, 0), (16, .iload_n 3, 0, 0), (17, .ifCond .lt 94, 0, 0), (20, .aload_n 0, 0, 0), (21, .aload_n 0, 0, 0), (22, .iload_n 2, 0, 0), (23, .iload_n 1, 0, 0), (24, .iload_n 3, 0, 0), (25, .invokevirtual 173, 161, 3), (28, .aload_n 0, 0, 0), (29, .iload_n 2, 0, 0), (30, .iconst 1, 0, 0), (31, .iadd, 0, 0), (32, .iload_n 1, 0, 0), (33, .iload_n 3, 0, 0), (34, .iconst 1, 0, 0), (35, .iadd, 0, 0), (36, .invokevirtual 176, 162, 3), (39, .iadd, 0, 0), (40, .bipush 8, 0, 0), (42, .aload_n 0, 0, 0), (43, .aload_n 0, 0, 0), (44, .iload_n 2, 0, 0), (45, .iconst 1, 0, 0), (46, .iadd, 0, 0), (47, .iload_n 1, 0, 0), (48, .iload_n 3, 0, 0), (49, .invokevirtual 176, 162, 3), (52, .aload_n 0, 0, 0), (53, .iload_n 2, 0, 0), (54, .iload_n 1, 0, 0), (55, .iload_n 3, 0, 0), (56, .iconst 1, 0, 0), (57, .iadd, 0, 0), (58, .invokevirtual 176, 162, 3), (61, .invokevirtual 164, 158, 2), (64, .iadd, 0, 0), (65, .invokevirtual 164, 158, 2), (68, .istore 4, 0, 0), (70, .aload_n 0, 0, 0), (71, .getfield 68, 10, 26), (74, .bipush 11, 0, 0), (76, .iload_n 2, 0, 0), (77, .imul, 0, 0), (78, .iload_n 3, 0, 0), (79, .iadd, 0, 0), (80, .iload_n 2, 0, 0), (81, .aload_n 0, 0, 0), (82, .getfield 111, 10, 22), (85, .if_icmp .ne 17, 0, 0), (88, .iload_n 3, 0, 0), (89, .aload_n 0, 0, 0), (90, .getfield 13, 10, 3), (93, .iload_n 1, 0, 0), (94, .iaload, 0, 0), (95, .if_icmp .ne 7, 0, 0), (98, .iconst 0, 0, 0), (99, .goto 5, 0, 0), (102, .iload 4, 0, 0), (104, .iastore, 0, 0), (105, .iinc 3 (-1), 0, 0), (108, .goto (-92), 0, 0), (111, .iinc 2 (-1), 0, 0), (114, .goto (-109), 0, 0), (117, .return_, 0, 0)])
/-- WitnessBenchModel.match(III)I -/
def ev_m161 : ev_M := (⟨"WitnessBenchModel", "match", "(III)I"⟩, prog_12_method_26_code, 6, some .int, [],
  [(0, .sipush 1000, 0, 0), (3, .istore 4, 0, 0), (5, .iconst 0, 0, 0), (6, .istore 5, 0, 0), (8, .iload 5, 0, 0), (10, .iconst 4, 0, 0), (11, .if_icmp .ge 75, 0, 0), (14, .iload_n 1, 0, 0), (15, .aload_n 0, 0, 0), (16, .getfield 111, 10, 22), (19, .if_icmp .ge 67, 0, 0), (22, .iload_n 3, 0, 0), (23, .aload_n 0, 0, 0), (24, .getfield 13, 10, 3), (27, .iload_n 2, 0, 0), (28, .iaload, 0, 0), (29, .if_icmp .ge 57, 0, 0), (32, .aload_n 0, 0, 0), (33, .getfield 59, 10, 23), (36, .iconst 4, 0, 0), (37, .iload_n 1, 0, 0), (38, .imul, 0, 0), (39, .iload 5, 0, 0), (41, .iadd, 0, 0), (42, .iaload, 0, 0), (43, .ifCond .ge 8, 0, 0), (46, .iload 4, 0, 0), (48, .goto 30, 0, 0), (51, .aload_n 0, 0, 0), (52, .iload 4, 0, 0), (54, .aload_n 0, 0, 0), (55, .aload_n 0, 0, 0), (56, .getfield 59, 10, 23), (59, .iconst 4, 0, 0), (60, .iload_n 1, 0, 0), (61, .imul, 0, 0), (62, .iload 5, 0, 0), (64, .iadd, 0, 0), (65, .iaload, 0, 0), (66, .bipush 10, 0, 0), (68, .iload_n 2, 0, 0), (69, .imul, 0, 0), (70, .iload_n 3, 0, 0), (71, .iadd, 0, 0), (72, .invokevirtual 170, 156, 2), (75, .invokevirtual 164, 158, 2), (78, .istore 4, 0, 0), (80, .iinc 5 1, 0, 0), (83, .goto (-75), 0, 0), (86, .iload 4, 0, 0), (88, .ireturn, 0, 0)])
/-- WitnessBenchModel.cost(III)I -/
def ev_m162 : ev_M := (⟨"WitnessBenchModel", "cost", "(III)I"⟩, prog_12_method_27_code, 4, some .int, [],
  [(0, .iload_n 1, 0, 0), (1, .aload_n 0, 0, 0), (2, .getfield 111, 10, 22), (5, .if_icmp .gt 13, 0, 0), (8, .iload_n 3, 0, 0), (9, .aload_n 0, 0, 0), (10, .getfield 13, 10, 3), (13, .iload_n 2, 0, 0), (14, .iaload, 0, 0), (15, .if_icmp .le 9, 0, 0), (18, .sipush 1000, 0, 0), (21, .goto 14, 0, 0), (24, .aload_n 0, 0, 0), (25, .getfield 68, 10, 26), (28, .bipush 11, 0, 0), (30, .iload_n 1, 0, 0), (31, .imul, 0, 0), (32, .iload_n 3, 0, 0), (33, .iadd, 0, 0), (34, .iaload, 0, 0), (35, .ireturn, 0, 0)])
/-- WitnessBenchModel.putIn(I)I -/
def ev_m163 : ev_M := (⟨"WitnessBenchModel", "putIn", "(I)I"⟩, prog_12_method_30_code, 6, some .int, [],
  [(0, .iconst 0, 0, 0), (1, .istore_n 2, 0, 0), (2, .iconst 0, 0, 0), (3, .istore_n 3, 0, 0), (4, .iconst 0, 0, 0), (5, .istore 4, 0, 0), (7, .iload_n 3, 0, 0), (8, .aload_n 0, 0, 0), (9, .getfield 111, 10, 22), (12, .if_icmp .lt 14, 0, 0), (15, .iload 4, 0, 0), (17, .aload_n 0, 0, 0), (18, .getfield 13, 10, 3), (21, .iload_n 1, 0, 0), (22, .iaload, 0, 0), (23, .if_icmp .ge 61, 0, 0), (26, .aload_n 0, 0, 0), (27, .iload_n 3, 0, 0), (28, .iload_n 1, 0, 0), (29, .iload 4, 0, 0), (31, .invokevirtual 179, 164, 3), (34, .istore 5, 0, 0), (36, .iload 5, 0, 0), (38, .iconst 2, 0, 0), (39, .if_icmp .ne 9, 0, 0), (42, .iload_n 2, 0, 0), (43, .iconst 1, 0, 0), (44, .iadd, 0, 0), (45, .goto 4, 0, 0), (48, .iload_n 2, 0, 0), (49, .istore_n 2, 0, 0), (50, .iload 5, 0, 0), (52, .iconst 2, 0, 0), (53, .if_icmp .ne 7, 0, 0), (56, .iload_n 3, 0, 0), (57, .goto 6, 0, 0), (60, .iload_n 3, 0, 0), (61, .iconst 1, 0, 0), (62, .iadd, 0, 0), (63, .istore_n 3, 0, 0), (64, .iload 5, 0, 0), (66, .iconst 1, 0, 0), (67, .if_icmp .ne 8, 0, 0), (70, .iload 4, 0, 0), (72, .goto 7, 0, 0), (75, .iload 4, 0, 0), (77, .iconst 1, 0, 0), (78, .iadd, 0, 0), (79, .istore 4, 0, 0), (81, .goto (-74), 0, 0), (84, .iload_n 2, 0, 0), (85, .ireturn, 0, 0)])
/-- WitnessBenchModel.step(III)I -/
def ev_m164 : ev_M := (⟨"WitnessBenchModel", "step", "(III)I"⟩, prog_12_method_29_code, 5, some .int, [],
  [(0, .aload_n 0, 0, 0), (1, .iload_n 1, 0, 0), (2, .iload_n 2, 0, 0), (3, .iload_n 3, 0, 0), (4, .invokevirtual 176, 162, 3), (7, .istore 4, 0, 0), (9, .iload 4, 0, 0), (11, .aload_n 0, 0, 0), (12, .iload_n 1, 0, 0), (13, .iload_n 2, 0, 0), (14, .iload_n 3, 0, 0), (15, .invokevirtual 173, 161, 3), (18, .aload_n 0, 0, 0), (19, .iload_n 1, 0, 0), (20, .iconst 1, 0, 0), (21, .iadd, 0, 0), (22, .iload_n 2, 0, 0), (23, .iload_n 3, 0, 0), (24, .iconst 1, 0, 0), (25, .iadd, 0, 0), (26, .invokevirtual 176, 162, 3), (29, .iadd, 0, 0), (30, .if_icmp .ne 7, 0, 0), (33, .iconst 0, 0, 0), (34, .goto 25, 0, 0), (37, .iload 4, 0, 0), (39, .bipush 8, 0, 0), (41, .aload_n 0, 0, 0), (42, .iload_n 1, 0, 0), (43, .iconst 1, 0, 0), (44, .iadd, 0, 0), (45, .iload_n 2, 0, 0), (46, .iload_n 3, 0, 0), (47, .invokevirtual 176, 162, 3), (50, .iadd, 0, 0), (51, .if_icmp .ne 7, 0, 0), (54, .iconst 1, 0, 0), (55, .goto 4, 0, 0), (58, .iconst 2, 0, 0), (59, .ireturn, 0, 0)])
/-- WitnessBenchModel.stepOf(IIII)I -/
def ev_m165 : ev_M := (⟨"WitnessBenchModel", "stepOf", "(IIII)I"⟩, prog_12_method_34_code, 10, some .int, [],
  [(0, .aload_n 0, 0, 0), (1, .getfield 111, 10, 22), (4, .iload 4, 0, 0), (6, .isub, 0, 0), (7, .istore 5, 0, 0), (9, .aload_n 0, 0, 0), (10, .getfield 68, 10, 26), (13, .bipush 11, 0, 0), (15, .iload_n 1, 0, 0), (16, .imul, 0, 0), (17, .iload_n 3, 0, 0), (18, .iadd, 0, 0), (19, .iaload, 0, 0), (20, .istore 6, 0, 0), (22, .sipush 1000, 0, 0), (25, .istore 7, 0, 0), (27, .iconst 0, 0, 0), (28, .istore 8, 0, 0), (30, .iload 8, 0, 0), (32, .iconst 4, 0, 0), (33, .if_icmp .ge 71, 0, 0), (36, .iload_n 1, 0, 0), (37, .iload 4, 0, 0), (39, .if_icmp .ge 65, 0, 0), (42, .iload_n 3, 0, 0), (43, .aload_n 0, 0, 0), (44, .getfield 13, 10, 3), (47, .iload_n 2, 0, 0), (48, .iaload, 0, 0), (49, .if_icmp .ge 55, 0, 0), (52, .aload_n 0, 0, 0), (53, .getfield 59, 10, 23), (56, .iconst 4, 0, 0), (57, .iload_n 1, 0, 0), (58, .iload 5, 0, 0), (60, .iadd, 0, 0), (61, .imul, 0, 0), (62, .iload 8, 0, 0), (64, .iadd, 0, 0), (65, .iaload, 0, 0), (66, .istore 9, 0, 0), (68, .iload 9, 0, 0), (70, .ifCond .ge 8, 0, 0), (73, .iload 7, 0, 0), (75, .goto 21, 0, 0), (78, .aload_n 0, 0, 0), (79, .iload 7, 0, 0), (81, .aload_n 0, 0, 0), (82, .iload 9, 0, 0), (84, .bipush 10, 0, 0), (86, .iload_n 2, 0, 0), (87, .imul, 0, 0), (88, .iload_n 3, 0, 0), (89, .iadd, 0, 0), (90, .invokevirtual 170, 156, 2), (93, .invokevirtual 164, 158, 2), (96, .istore 7, 0, 0), (98, .iinc 8 1, 0, 0), (101, .goto (-71), 0, 0), (104, .iload 7, 0, 0), (106, .sipush 1000, 0, 0), (109, .if_icmp .ge 27, 0, 0), (112, .iload 6, 0, 0), (114, .iload 7, 0, 0), (116, .aload_n 0, 0, 0), (117, .getfield 68, 10, 26), (120, .bipush 11, 0, 0), (122, .iload_n 1, 0, 0), (123, .imul, 0, 0), (124, .iload_n 3, 0, 0), (125, .iadd, 0, 0), (126, .bipush 12, 0, 0), (128, .iadd, 0, 0), (129, .iaload, 0, 0), (130, .iadd, 0, 0), (131, .if_icmp .ne 5, 0, 0), (134, .iconst 0, 0, 0), (135, .ireturn, 0, 0), (136, .iload_n 1, 0, 0), (137, .iload 4, 0, 0), (139, .if_icmp .ge 29, 0, 0), (142, .iload 6, 0, 0), (144, .bipush 8, 0, 0), (146, .aload_n 0, 0, 0), (147, .getfield 68, 10, 26), (150, .bipush 11, 0, 0), (152, .iload_n 1, 0, 0), (153, .imul, 0, 0), (154, .iload_n 3, 0, 0), (155, .iadd, 0, 0), (156, .bipush 11, 0, 0), (158, .iadd, 0, 0), (159, .iaload, 0, 0), (160, .iadd, 0, 0), (161, .if_icmp .ne 7, 0, 0), (164, .iconst 1, 0, 0), (165, .goto 4, 0, 0), (168, .iconst 2, 0, 0), (169, .ireturn, 0, 0)])
/-- WitnessBenchModel.open(II)V -/
def ev_m166 : ev_M := (⟨"WitnessBenchModel", "open", "(II)V"⟩, prog_12_method_31_code, 4, none, [],
  [(0, .aload_n 0, 0, 0), (1, .getfield 111, 10, 22), (4, .istore_n 3, 0, 0), (5, .iload_n 3, 0, 0), (6, .iload_n 1, 0, 0), (7, .if_icmp .le 17, 0, 0), (10, .aload_n 0, 0, 0), (11, .iload_n 3, 0, 0), (12, .iconst 1, 0, 0), (13, .isub, 0, 0), (14, .iload_n 3, 0, 0), (15, .invokevirtual 182, 167, 2), (18, .iinc 3 (-1), 0, 0), (21, .goto (-16), 0, 0), (24, .iconst 0, 0, 0), (25, .istore_n 3, 0, 0), (26, .iload_n 3, 0, 0), (27, .iconst 4, 0, 0), (28, .if_icmp .ge 32, 0, 0), (31, .aload_n 0, 0, 0), (32, .getfield 59, 10, 23), (35, .iconst 4, 0, 0), (36, .iload_n 1, 0, 0), (37, .imul, 0, 0), (38, .iload_n 3, 0, 0), (39, .iadd, 0, 0), (40, .iload_n 3, 0, 0), (41, .iload_n 2, 0, 0), (42, .bipush 10, 0, 0), (44, .idiv, 0, 0), (45, .if_icmp .ne 7, 0, 0), (48, .iload_n 2, 0, 0), (49, .goto 4, 0, 0), (52, .iconst (-1), 0, 0), (53, .iastore, 0, 0), (54, .iinc 3 1, 0, 0), (57, .goto (-31), 0, 0), (60, .aload_n 0, 0, 0), (61, .getfield 62, 10, 24), (64, .iload_n 1, 0, 0), (65, .iconst (-1), 0, 0), (66, .iastore, 0, 0), (67, .aload_n 0, 0, 0), (68, .dup, 0, 0), (69, .getfield 111, 10, 22), (72, .iconst 1, 0, 0), (73, .iadd, 0, 0), (74, .putfield 111, 10, 22), (77, .return_, 0, 0)])
/-- WitnessBenchModel.move(II)V -/
def ev_m167 : ev_M := (⟨"WitnessBenchModel", "move", "(II)V"⟩, prog_12_method_32_code, 4, none, [],
  [(0, .iconst 0, 0, 0), (1, .istore_n 3, 0, 0), (2, .iload_n 3, 0, 0), (3, .iconst 4, 0, 0), (4, .if_icmp .ge 29, 0, 0), (7, .aload_n 0, 0, 0), (8, .getfield 59, 10, 23), (11, .iconst 4, 0, 0), (12, .iload_n 2, 0, 0), (13, .imul, 0, 0), (14, .iload_n 3, 0, 0), (15, .iadd, 0, 0), (16, .aload_n 0, 0, 0), (17, .getfield 59, 10, 23), (20, .iconst 4, 0, 0), (21, .iload_n 1, 0, 0), (22, .imul, 0, 0), (23, .iload_n 3, 0, 0), (24, .iadd, 0, 0), (25, .iaload, 0, 0), (26, .iastore, 0, 0), (27, .iinc 3 1, 0, 0), (30, .goto (-28), 0, 0), (33, .aload_n 0, 0, 0), (34, .getfield 62, 10, 24), (37, .iload_n 2, 0, 0), (38, .aload_n 0, 0, 0), (39, .getfield 62, 10, 24), (42, .iload_n 1, 0, 0), (43, .iaload, 0, 0), (44, .iastore, 0, 0), (45, .return_, 0, 0)])
/-- WitnessBenchModel.retract()I -/
def ev_m168 : ev_M := (⟨"WitnessBenchModel", "retract", "()I"⟩, prog_12_method_35_code, 5, some .int, [],
  [(0, .aload_n 0, 0, 0), (1, .aload_n 0, 0, 0), (2, .getfield 108, 10, 19), (5, .ifCond .ne 7, 0, 0), (8, .iconst 1, 0, 0), (9, .goto 4, 0, 0), (12, .iconst 0, 0, 0), (13, .putfield 101, 10, 0), (16, .aload_n 0, 0, 0), (17, .getfield 101, 10, 0), (20, .ifCond .le 5, 0, 0), (23, .iconst 0, 0, 0), (24, .ireturn, 0, 0), (25, .aload_n 0, 0, 0), (26, .dup, 0, 0), (27, .getfield 108, 10, 19), (30, .iconst 1, 0, 0), (31, .isub, 0, 0), (32, .putfield 108, 10, 19), (35, .aload_n 0, 0, 0), (36, .getfield 52, 10, 20), (39, .aload_n 0, 0, 0), (40, .getfield 108, 10, 19), (43, .iaload, 0, 0), (44, .istore_n 1, 0, 0), (45, .aload_n 0, 0, 0), (46, .aload_n 0, 0, 0), (47, .getfield 55, 10, 21), (50, .iload_n 1, 0, 0), (51, .if_icmp .ne 7, 0, 0), (54, .iconst (-1), 0, 0), (55, .goto 7, 0, 0), (58, .aload_n 0, 0, 0), (59, .getfield 55, 10, 21), (62, .putfield 55, 10, 21), (65, .iconst 0, 0, 0), (66, .istore_n 2, 0, 0), (67, .iconst 0, 0, 0), (68, .istore_n 3, 0, 0), (69, .iload_n 3, 0, 0), (70, .aload_n 0, 0, 0), (71, .getfield 111, 10, 22), (74, .if_icmp .ge 113, 0, 0), (77, .aload_n 0, 0, 0), (78, .getfield 59, 10, 23), (81, .iconst 4, 0, 0), (82, .iload_n 3, 0, 0), (83, .imul, 0, 0), (84, .iload_n 1, 0, 0), (85, .iadd, 0, 0), (86, .iconst (-1), 0, 0), (87, .iastore, 0, 0), (88, .aload_n 0, 0, 0), (89, .getfield 62, 10, 24), (92, .iload_n 3, 0, 0), (93, .aload_n 0, 0, 0), (94, .getfield 62, 10, 24), (97, .iload_n 3, 0, 0), (98, .iaload, 0, 0), (99, .iload_n 1, 0, 0), (100, .if_icmp .ne 7, 0, 0), (103, .iconst (-1), 0, 0), (104, .goto 9, 0, 0), (107, .aload_n 0, 0, 0), (108, .getfield 62, 10, 24), (111, .iload_n 3, 0, 0), (112, .iaload, 0, 0), (113, .iastore, 0, 0), (114, .aload_n 0, 0, 0), (115, .getfield 59, 10, 23), (118, .iconst 4, 0, 0), (119, .iload_n 3, 0, 0), (120, .imul, 0, 0), (121, .iaload, 0, 0), (122, .aload_n 0, 0, 0), (123, .getfield 59, 10, 23), (126, .iconst 4, 0, 0), (127, .iload_n 3, 0, 0), (128, .imul, 0, 0), (129, .iconst 1, 0, 0), (130, .iadd, 0, 0), (131, .iaload, 0, 0), (132, .iadd, 0, 0), (133, .aload_n 0, 0, 0), (134, .getfield 59, 10, 23), (137, .iconst 4, 0, 0), (138, .iload_n 3, 0, 0), (139, .imul, 0, 0), (140, .iconst 2, 0, 0), (141, .iadd, 0, 0), (142, .iaload, 0, 0), (143, .iadd, 0, 0), (144, .aload_n 0, 0, 0), (145, .getfield 59, 10, 23), (148, .iconst 4, 0, 0), (149, .iload_n 3, 0, 0), (150, .imul, 0, 0), (151, .iconst 3, 0, 0), (152, .iadd, 0, 0), (153, .iaload, 0, 0), (154, .iadd, 0, 0), (155, .bipush (-4), 0, 0), (157, .if_icmp .ne 7, 0, 0), (160, .iconst 1, 0, 0), (161, .goto 4, 0, 0), (164, .iconst 0, 0, 0), (165, .istore 4, 0, 0), (167, .iload 4, 0, 0), (169, .ifCond .ne 12, 0, 0), (172, .aload_n 0, 0, 0), (173, .iload_n 3, 0, 0), (174, .iload_n 2, 0, 0), (175, .invokevirtual 182, 167, 2), (178, .iinc 2 1, 0, 0), (181, .iinc 3 1, 0, 0), (184, .goto (-115), 0, 0), (187, .aload_n 0, 0, 0), (188, .iload_n 2, 0, 0), (189, .putfield 111, 10, 22), (192, .iload_n 1, 0, 0), (193, .ireturn, 0, 0)])
/-- WitnessBenchModel.places()I -/
def ev_m169 : ev_M := (⟨"WitnessBenchModel", "places", "()I"⟩, prog_12_method_36_code, 1, some .int, [],
  [(0, .aload_n 0, 0, 0), (1, .iconst 0, 0, 0), (2, .putfield 101, 10, 0), (5, .aload_n 0, 0, 0), (6, .getfield 111, 10, 22), (9, .ireturn, 0, 0)])
/-- WitnessBenchModel.at(II)I -/
def ev_m170 : ev_M := (⟨"WitnessBenchModel", "at", "(II)I"⟩, prog_12_method_37_code, 4, some .int, [],
  [(0, .aload_n 0, 0, 0), (1, .aload_n 0, 0, 0), (2, .iload_n 1, 0, 0), (3, .invokevirtual 200, 171, 1), (6, .ifCond .eq 14, 0, 0), (9, .iload_n 2, 0, 0), (10, .invokestatic 104, 140, 1), (13, .ifCond .eq 7, 0, 0), (16, .iconst 0, 0, 0), (17, .goto 4, 0, 0), (20, .iconst 1, 0, 0), (21, .putfield 101, 10, 0), (24, .aload_n 0, 0, 0), (25, .getfield 101, 10, 0), (28, .ifCond .le 5, 0, 0), (31, .iconst 0, 0, 0), (32, .ireturn, 0, 0), (33, .aload_n 0, 0, 0), (34, .getfield 59, 10, 23), (37, .iconst 4, 0, 0), (38, .iload_n 1, 0, 0), (39, .imul, 0, 0), (40, .iload_n 2, 0, 0), (41, .iadd, 0, 0), (42, .iaload, 0, 0), (43, .istore_n 3, 0, 0), (44, .iload_n 3, 0, 0), (45, .ifCond .ge 7, 0, 0), (48, .iconst (-1), 0, 0), (49, .goto 7, 0, 0), (52, .iload_n 3, 0, 0), (53, .bipush 10, 0, 0), (55, .irem, 0, 0), (56, .ireturn, 0, 0)])
/-- WitnessBenchModel.isPlace(I)Z -/
def ev_m171 : ev_M := (⟨"WitnessBenchModel", "isPlace", "(I)Z"⟩, prog_12_method_6_code, 2, some .boolean, [],
  [(0, .iload_n 1, 0, 0), (1, .ifCond .lt 15, 0, 0), (4, .iload_n 1, 0, 0), (5, .aload_n 0, 0, 0), (6, .getfield 111, 10, 22), (9, .if_icmp .ge 7, 0, 0), (12, .iconst 1, 0, 0), (13, .goto 4, 0, 0), (16, .iconst 0, 0, 0), (17, .ireturn, 0, 0)])
/-- WitnessBenchModel.beside(III)I -/
def ev_m172 : ev_M := (⟨"WitnessBenchModel", "beside", "(III)I"⟩, prog_12_method_39_code, 5, some .int, [],
  [(0, .aload_n 0, 0, 0), (1, .aload_n 0, 0, 0), (2, .iload_n 1, 0, 0), (3, .iload_n 2, 0, 0), (4, .invokevirtual 161, 153, 2), (7, .ifCond .eq 14, 0, 0), (10, .iload_n 3, 0, 0), (11, .invokestatic 104, 140, 1), (14, .ifCond .eq 7, 0, 0), (17, .iconst 0, 0, 0), (18, .goto 4, 0, 0), (21, .iconst 1, 0, 0), (22, .putfield 101, 10, 0), (25, .aload_n 0, 0, 0), (26, .getfield 101, 10, 0), (29, .ifCond .le 5, 0, 0), (32, .iconst 0, 0, 0), (33, .ireturn, 0, 0), (34, .aload_n 0, 0, 0), (35, .bipush 10, 0, 0), (37, .iload_n 1, 0, 0), (38, .imul, 0, 0), (39, .iload_n 2, 0, 0), (40, .iadd, 0, 0), (41, .invokevirtual 203, 173, 1), (44, .istore 4, 0, 0), (46, .iload 4, 0, 0), (48, .ifCond .lt 17, 0, 0), (51, .aload_n 0, 0, 0), (52, .getfield 59, 10, 23), (55, .iconst 4, 0, 0), (56, .iload 4, 0, 0), (58, .imul, 0, 0), (59, .iload_n 3, 0, 0), (60, .iadd, 0, 0), (61, .iaload, 0, 0), (62, .ifCond .ge 7, 0, 0), (65, .iconst (-1), 0, 0), (66, .goto 17, 0, 0), (69, .aload_n 0, 0, 0), (70, .getfield 59, 10, 23), (73, .iconst 4, 0, 0), (74, .iload 4, 0, 0), (76, .imul, 0, 0), (77, .iload_n 3, 0, 0), (78, .iadd, 0, 0), (79, .iaload, 0, 0), (80, .bipush 10, 0, 0), (82, .irem, 0, 0), (83, .ireturn, 0, 0)])
/-- WitnessBenchModel.placeOf(I)I -/
def ev_m173 : ev_M := (⟨"WitnessBenchModel", "placeOf", "(I)I"⟩, prog_12_method_38_code, 3, some .int, [],
  [(0, .iconst 0, 0, 0), (1, .istore_n 2, 0, 0), (2, .iload_n 2, 0, 0), (3, .aload_n 0, 0, 0), (4, .getfield 111, 10, 22), (7, .if_icmp .ge 28, 0, 0), (10, .aload_n 0, 0, 0), (11, .getfield 59, 10, 23), (14, .iconst 4, 0, 0), (15, .iload_n 2, 0, 0), (16, .imul, 0, 0), (17, .iload_n 1, 0, 0), (18, .bipush 10, 0, 0), (20, .idiv, 0, 0), (21, .iadd, 0, 0), (22, .iaload, 0, 0), (23, .iload_n 1, 0, 0), (24, .if_icmp .ne 5, 0, 0), (27, .iload_n 2, 0, 0), (28, .ireturn, 0, 0), (29, .iinc 2 1, 0, 0), (32, .goto (-30), 0, 0), (35, .iconst (-1), 0, 0), (36, .ireturn, 0, 0)])
/-- WitnessBenchModel.base(I)V -/
def ev_m174 : ev_M := (⟨"WitnessBenchModel", "base", "(I)V"⟩, prog_12_method_40_code, 3, none, [],
  [(0, .aload_n 0, 0, 0), (1, .iload_n 1, 0, 0), (2, .iconst (-1), 0, 0), (3, .if_icmp .eq 14, 0, 0), (6, .iload_n 1, 0, 0), (7, .invokestatic 104, 140, 1), (10, .ifCond .ne 7, 0, 0), (13, .iconst 1, 0, 0), (14, .goto 21, 0, 0), (17, .iload_n 1, 0, 0), (18, .iconst (-1), 0, 0), (19, .if_icmp .eq 15, 0, 0), (22, .aload_n 0, 0, 0), (23, .iload_n 1, 0, 0), (24, .invokevirtual 155, 141, 1), (27, .ifCond .ne 7, 0, 0), (30, .iconst 2, 0, 0), (31, .goto 4, 0, 0), (34, .iconst 0, 0, 0), (35, .putfield 101, 10, 0), (38, .aload_n 0, 0, 0), (39, .getfield 101, 10, 0), (42, .ifCond .le 4, 0, 0), (45, .return_, 0, 0), (46, .aload_n 0, 0, 0), (47, .iload_n 1, 0, 0), (48, .putfield 55, 10, 21), (51, .iconst 0, 0, 0), (52, .istore_n 2, 0, 0), (53, .iload_n 2, 0, 0), (54, .aload_n 0, 0, 0), (55, .getfield 111, 10, 22), (58, .if_icmp .ge 16, 0, 0), (61, .aload_n 0, 0, 0), (62, .getfield 62, 10, 24), (65, .iload_n 2, 0, 0), (66, .iconst (-1), 0, 0), (67, .iastore, 0, 0), (68, .iinc 2 1, 0, 0), (71, .goto (-18), 0, 0), (74, .return_, 0, 0)])
/-- WitnessBenchModel.choose(II)V -/
def ev_m175 : ev_M := (⟨"WitnessBenchModel", "choose", "(II)V"⟩, prog_12_method_41_code, 3, none, [],
  [(0, .aload_n 0, 0, 0), (1, .aload_n 0, 0, 0), (2, .iload_n 1, 0, 0), (3, .invokevirtual 200, 171, 1), (6, .ifCond .eq 15, 0, 0), (9, .iload_n 2, 0, 0), (10, .iconst (-1), 0, 0), (11, .if_icmp .eq 14, 0, 0), (14, .iload_n 2, 0, 0), (15, .invokestatic 104, 140, 1), (18, .ifCond .ne 7, 0, 0), (21, .iconst 1, 0, 0), (22, .goto 21, 0, 0), (25, .iload_n 2, 0, 0), (26, .iconst (-1), 0, 0), (27, .if_icmp .eq 15, 0, 0), (30, .aload_n 0, 0, 0), (31, .iload_n 2, 0, 0), (32, .invokevirtual 155, 141, 1), (35, .ifCond .ne 7, 0, 0), (38, .iconst 2, 0, 0), (39, .goto 4, 0, 0), (42, .iconst 0, 0, 0), (43, .putfield 101, 10, 0), (46, .aload_n 0, 0, 0), (47, .getfield 101, 10, 0), (50, .ifCond .ne 10, 0, 0), (53, .aload_n 0, 0, 0), (54, .getfield 62, 10, 24), (57, .iload_n 1, 0, 0), (58, .iload_n 2, 0, 0), (59, .iastore, 0, 0), (60, .return_, 0, 0)])
/-- WitnessBenchModel.apparatus(Z)I -/
def ev_m176 : ev_M := (⟨"WitnessBenchModel", "apparatus", "(Z)I"⟩, prog_12_method_49_code, 5, some .int, [],
  [(0, .aload_n 0, 0, 0), (1, .iconst 0, 0, 0), (2, .putfield 101, 10, 0), (5, .aload_n 0, 0, 0), (6, .iconst 0, 0, 0), (7, .putfield 206, 10, 28), (10, .iconst 0, 0, 0), (11, .istore_n 2, 0, 0), (12, .iload_n 2, 0, 0), (13, .aload_n 0, 0, 0), (14, .getfield 111, 10, 22), (17, .if_icmp .ge 78, 0, 0), (20, .iconst 0, 0, 0), (21, .istore_n 3, 0, 0), (22, .iconst 0, 0, 0), (23, .istore 4, 0, 0), (25, .iload 4, 0, 0), (27, .iconst 4, 0, 0), (28, .if_icmp .ge 51, 0, 0), (31, .iload_n 3, 0, 0), (32, .ifCond .ne 35, 0, 0), (35, .aload_n 0, 0, 0), (36, .iload 4, 0, 0), (38, .invokevirtual 155, 141, 1), (41, .ifCond .eq 30, 0, 0), (44, .aload_n 0, 0, 0), (45, .aload_n 0, 0, 0), (46, .getfield 59, 10, 23), (49, .iconst 4, 0, 0), (50, .iload_n 2, 0, 0), (51, .imul, 0, 0), (52, .iload 4, 0, 0), (54, .iadd, 0, 0), (55, .iaload, 0, 0), (56, .aload_n 0, 0, 0), (57, .iload_n 2, 0, 0), (58, .invokevirtual 218, 177, 1), (61, .invokevirtual 212, 178, 2), (64, .ifCond .ne 7, 0, 0), (67, .iconst 1, 0, 0), (68, .goto 4, 0, 0), (71, .iconst 0, 0, 0), (72, .istore_n 3, 0, 0), (73, .iinc 4 1, 0, 0), (76, .goto (-51), 0, 0), (79, .iload_n 3, 0, 0), (80, .ifCond .eq 9, 0, 0), (83, .aload_n 0, 0, 0), (84, .iload_n 2, 0, 0), (85, .iload_n 1, 0, 0), (86, .invokevirtual 229, 179, 2), (89, .iinc 2 1, 0, 0), (92, .goto (-80), 0, 0), (95, .aload_n 0, 0, 0), (96, .getfield 206, 10, 28), (99, .ireturn, 0, 0)])
/-- WitnessBenchModel.lemma(I)I -/
def ev_m177 : ev_M := (⟨"WitnessBenchModel", "lemma", "(I)I"⟩, prog_12_method_42_code, 3, some .int, [],
  [(0, .aload_n 0, 0, 0), (1, .getfield 62, 10, 24), (4, .iload_n 1, 0, 0), (5, .iaload, 0, 0), (6, .ifCond .ge 10, 0, 0), (9, .aload_n 0, 0, 0), (10, .getfield 55, 10, 21), (13, .goto 9, 0, 0), (16, .aload_n 0, 0, 0), (17, .getfield 62, 10, 24), (20, .iload_n 1, 0, 0), (21, .iaload, 0, 0), (22, .istore_n 2, 0, 0), (23, .iload_n 2, 0, 0), (24, .ifCond .ge 7, 0, 0), (27, .iconst (-1), 0, 0), (28, .goto 13, 0, 0), (31, .aload_n 0, 0, 0), (32, .getfield 59, 10, 23), (35, .iconst 4, 0, 0), (36, .iload_n 1, 0, 0), (37, .imul, 0, 0), (38, .iload_n 2, 0, 0), (39, .iadd, 0, 0), (40, .iaload, 0, 0), (41, .ireturn, 0, 0)])
/-- WitnessBenchModel.readsAlike(II)Z -/
def ev_m178 : ev_M := (⟨"WitnessBenchModel", "readsAlike", "(II)Z"⟩, prog_12_method_43_code, 3, some .boolean, [],
  [(0, .iload_n 1, 0, 0), (1, .ifCond .lt 7, 0, 0), (4, .iload_n 2, 0, 0), (5, .ifCond .ge 19, 0, 0), (8, .iload_n 1, 0, 0), (9, .ifCond .ge 11, 0, 0), (12, .iload_n 2, 0, 0), (13, .ifCond .ge 7, 0, 0), (16, .iconst 1, 0, 0), (17, .goto 13, 0, 0), (20, .iconst 0, 0, 0), (21, .goto 9, 0, 0), (24, .aload_n 0, 0, 0), (25, .iload_n 1, 0, 0), (26, .iload_n 2, 0, 0), (27, .invokevirtual 145, 148, 2), (30, .ireturn, 0, 0)])
/-- WitnessBenchModel.sayEntry(IZ)V -/
def ev_m179 : ev_M := (⟨"WitnessBenchModel", "sayEntry", "(IZ)V"⟩, prog_12_method_48_code, 7, none, [],
  [(0, .aload_n 0, 0, 0), (1, .iload_n 1, 0, 0), (2, .invokevirtual 218, 177, 1), (5, .istore_n 3, 0, 0), (6, .iload_n 1, 0, 0), (7, .bipush 9, 0, 0), (9, .if_icmp .le 14, 0, 0), (12, .aload_n 0, 0, 0), (13, .bipush 48, 0, 0), (15, .iload_n 1, 0, 0), (16, .bipush 10, 0, 0), (18, .idiv, 0, 0), (19, .iadd, 0, 0), (20, .invokevirtual 209, 180, 1), (23, .aload_n 0, 0, 0), (24, .bipush 48, 0, 0), (26, .iload_n 1, 0, 0), (27, .bipush 10, 0, 0), (29, .irem, 0, 0), (30, .iadd, 0, 0), (31, .invokevirtual 209, 180, 1), (34, .aload_n 0, 0, 0), (35, .bipush 32, 0, 0), (37, .invokevirtual 209, 180, 1), (40, .aload_n 0, 0, 0), (41, .iload_n 3, 0, 0), (42, .invokevirtual 215, 181, 1), (45, .aload_n 0, 0, 0), (46, .bipush 93, 0, 0), (48, .invokevirtual 209, 180, 1), (51, .iconst 1, 0, 0), (52, .istore 4, 0, 0), (54, .iload_n 2, 0, 0), (55, .ifCond .ne 23, 0, 0), (58, .aload_n 0, 0, 0), (59, .iload_n 1, 0, 0), (60, .iload_n 3, 0, 0), (61, .iconst 4, 0, 0), (62, .invokevirtual 221, 182, 3), (65, .ifCond .eq 13, 0, 0), (68, .aload_n 0, 0, 0), (69, .iload_n 1, 0, 0), (70, .iload_n 3, 0, 0), (71, .iconst 1, 0, 0), (72, .invokevirtual 225, 183, 3), (75, .iconst 0, 0, 0), (76, .istore 4, 0, 0), (78, .iconst 0, 0, 0), (79, .istore 5, 0, 0), (81, .iload 5, 0, 0), (83, .iconst 4, 0, 0), (84, .if_icmp .ge 65, 0, 0), (87, .aload_n 0, 0, 0), (88, .getfield 59, 10, 23), (91, .iconst 4, 0, 0), (92, .iload_n 1, 0, 0), (93, .imul, 0, 0), (94, .iload 5, 0, 0), (96, .iadd, 0, 0), (97, .iaload, 0, 0), (98, .istore 6, 0, 0), (100, .aload_n 0, 0, 0), (101, .iload 5, 0, 0), (103, .invokevirtual 155, 141, 1), (106, .ifCond .eq 37, 0, 0), (109, .aload_n 0, 0, 0), (110, .iload 6, 0, 0), (112, .iload_n 3, 0, 0), (113, .invokevirtual 212, 178, 2), (116, .ifCond .ne 27, 0, 0), (119, .aload_n 0, 0, 0), (120, .iload_n 1, 0, 0), (121, .iload 6, 0, 0), (123, .iload 5, 0, 0), (125, .invokevirtual 221, 182, 3), (128, .ifCond .ne 15, 0, 0), (131, .aload_n 0, 0, 0), (132, .iload_n 1, 0, 0), (133, .iload 6, 0, 0), (135, .iload 4, 0, 0), (137, .invokevirtual 225, 183, 3), (140, .iconst 0, 0, 0), (141, .istore 4, 0, 0), (143, .iinc 5 1, 0, 0), (146, .goto (-65), 0, 0), (149, .aload_n 0, 0, 0), (150, .bipush 10, 0, 0), (152, .invokevirtual 209, 180, 1), (155, .return_, 0, 0)])
/-- WitnessBenchModel.say(I)V -/
def ev_m180 : ev_M := (⟨"WitnessBenchModel", "say", "(I)V"⟩, prog_12_method_44_code, 2, none, [],
  [(0, .aload_n 0, 0, 0), (1, .getfield 74, 10, 29), (4, .aload_n 0, 0, 0), (5, .getfield 206, 10, 28), (8, .iload_n 1, 0, 0), (9, .iastore, 0, 0), (10, .aload_n 0, 0, 0), (11, .dup, 0, 0), (12, .getfield 206, 10, 28), (15, .iconst 1, 0, 0), (16, .iadd, 0, 0), (17, .putfield 206, 10, 28), (20, .return_, 0, 0)])
/-- WitnessBenchModel.sayReading(I)V -/
def ev_m181 : ev_M := (⟨"WitnessBenchModel", "sayReading", "(I)V"⟩, prog_12_method_45_code, 3, none, [],
  [(0, .iload_n 1, 0, 0), (1, .ifCond .ge 12, 0, 0), (4, .aload_n 0, 0, 0), (5, .bipush 45, 0, 0), (7, .invokevirtual 209, 180, 1), (10, .goto 71, 0, 0), (13, .aload_n 0, 0, 0), (14, .iload_n 1, 0, 0), (15, .invokevirtual 135, 149, 1), (18, .ifCond .eq 12, 0, 0), (21, .aload_n 0, 0, 0), (22, .bipush 63, 0, 0), (24, .invokevirtual 209, 180, 1), (27, .goto 54, 0, 0), (30, .aload_n 0, 0, 0), (31, .getfield 25, 10, 7), (34, .iload_n 1, 0, 0), (35, .iaload, 0, 0), (36, .ifCond .ne 12, 0, 0), (39, .aload_n 0, 0, 0), (40, .bipush 46, 0, 0), (42, .invokevirtual 209, 180, 1), (45, .goto 36, 0, 0), (48, .iconst 0, 0, 0), (49, .istore_n 2, 0, 0), (50, .iload_n 2, 0, 0), (51, .aload_n 0, 0, 0), (52, .getfield 25, 10, 7), (55, .iload_n 1, 0, 0), (56, .iaload, 0, 0), (57, .if_icmp .ge 24, 0, 0), (60, .aload_n 0, 0, 0), (61, .aload_n 0, 0, 0), (62, .getfield 22, 10, 6), (65, .bipush 12, 0, 0), (67, .iload_n 1, 0, 0), (68, .imul, 0, 0), (69, .iload_n 2, 0, 0), (70, .iadd, 0, 0), (71, .iaload, 0, 0), (72, .invokevirtual 209, 180, 1), (75, .iinc 2 1, 0, 0), (78, .goto (-28), 0, 0), (81, .return_, 0, 0)])
/-- WitnessBenchModel.isReadBelow(III)Z -/
def ev_m182 : ev_M := (⟨"WitnessBenchModel", "isReadBelow", "(III)Z"⟩, prog_12_method_46_code, 6, some .boolean, [],
  [(0, .iconst 0, 0, 0), (1, .istore 4, 0, 0), (3, .iconst 0, 0, 0), (4, .istore 5, 0, 0), (6, .iload 5, 0, 0), (8, .iload_n 3, 0, 0), (9, .if_icmp .ge 49, 0, 0), (12, .iload 4, 0, 0), (14, .ifCond .ne 31, 0, 0), (17, .aload_n 0, 0, 0), (18, .iload 5, 0, 0), (20, .invokevirtual 155, 141, 1), (23, .ifCond .eq 26, 0, 0), (26, .aload_n 0, 0, 0), (27, .aload_n 0, 0, 0), (28, .getfield 59, 10, 23), (31, .iconst 4, 0, 0), (32, .iload_n 1, 0, 0), (33, .imul, 0, 0), (34, .iload 5, 0, 0), (36, .iadd, 0, 0), (37, .iaload, 0, 0), (38, .iload_n 2, 0, 0), (39, .invokevirtual 212, 178, 2), (42, .ifCond .eq 7, 0, 0), (45, .iconst 1, 0, 0), (46, .goto 4, 0, 0), (49, .iconst 0, 0, 0), (50, .istore 4, 0, 0), (52, .iinc 5 1, 0, 0), (55, .goto (-49), 0, 0), (58, .iload 4, 0, 0), (60, .ireturn, 0, 0)])
/-- WitnessBenchModel.sayGroup(IIZ)V -/
def ev_m183 : ev_M := (⟨"WitnessBenchModel", "sayGroup", "(IIZ)V"⟩, prog_12_method_47_code, 5, none, [],
  [(0, .iload_n 3, 0, 0), (1, .ifCond .ne 9, 0, 0), (4, .aload_n 0, 0, 0), (5, .bipush 59, 0, 0), (7, .invokevirtual 209, 180, 1), (10, .aload_n 0, 0, 0), (11, .bipush 32, 0, 0), (13, .invokevirtual 209, 180, 1), (16, .aload_n 0, 0, 0), (17, .iload_n 2, 0, 0), (18, .invokevirtual 215, 181, 1), (21, .aload_n 0, 0, 0), (22, .bipush 32, 0, 0), (24, .invokevirtual 209, 180, 1), (27, .iconst 0, 0, 0), (28, .istore 4, 0, 0), (30, .iload 4, 0, 0), (32, .iconst 4, 0, 0), (33, .if_icmp .ge 46, 0, 0), (36, .aload_n 0, 0, 0), (37, .iload 4, 0, 0), (39, .invokevirtual 155, 141, 1), (42, .ifCond .eq 31, 0, 0), (45, .aload_n 0, 0, 0), (46, .aload_n 0, 0, 0), (47, .getfield 59, 10, 23), (50, .iconst 4, 0, 0), (51, .iload_n 1, 0, 0), (52, .imul, 0, 0), (53, .iload 4, 0, 0), (55, .iadd, 0, 0), (56, .iaload, 0, 0), (57, .iload_n 2, 0, 0), (58, .invokevirtual 212, 178, 2), (61, .ifCond .eq 12, 0, 0), (64, .aload_n 0, 0, 0), (65, .bipush 65, 0, 0), (67, .iload 4, 0, 0), (69, .iadd, 0, 0), (70, .invokevirtual 209, 180, 1), (73, .iinc 4 1, 0, 0), (76, .goto (-46), 0, 0), (79, .return_, 0, 0)])
/-- WitnessBenchModel.out(I)I -/
def ev_m184 : ev_M := (⟨"WitnessBenchModel", "out", "(I)I"⟩, prog_12_method_50_code, 2, some .int, [],
  [(0, .aload_n 0, 0, 0), (1, .iload_n 1, 0, 0), (2, .ifCond .lt 11, 0, 0), (5, .iload_n 1, 0, 0), (6, .aload_n 0, 0, 0), (7, .getfield 206, 10, 28), (10, .if_icmp .lt 7, 0, 0), (13, .iconst 1, 0, 0), (14, .goto 4, 0, 0), (17, .iconst 0, 0, 0), (18, .putfield 101, 10, 0), (21, .aload_n 0, 0, 0), (22, .getfield 101, 10, 0), (25, .ifCond .le 7, 0, 0), (28, .iconst 0, 0, 0), (29, .goto 9, 0, 0), (32, .aload_n 0, 0, 0), (33, .getfield 74, 10, 29), (36, .iload_n 1, 0, 0), (37, .iaload, 0, 0), (38, .ireturn, 0, 0)])
/-- WitnessBenchModel.amend(IC)V -/
def ev_m185 : ev_M := (⟨"WitnessBenchModel", "amend", "(IC)V"⟩, prog_12_method_51_code, 3, none, [],
  [(0, .aload_n 0, 0, 0), (1, .iload_n 1, 0, 0), (2, .ifCond .lt 11, 0, 0), (5, .iload_n 1, 0, 0), (6, .aload_n 0, 0, 0), (7, .getfield 206, 10, 28), (10, .if_icmp .lt 7, 0, 0), (13, .iconst 1, 0, 0), (14, .goto 4, 0, 0), (17, .iconst 0, 0, 0), (18, .putfield 101, 10, 0), (21, .aload_n 0, 0, 0), (22, .getfield 101, 10, 0), (25, .ifCond .ne 10, 0, 0), (28, .aload_n 0, 0, 0), (29, .getfield 74, 10, 29), (32, .iload_n 1, 0, 0), (33, .iload_n 2, 0, 0), (34, .iastore, 0, 0), (35, .return_, 0, 0)])
/-- WitnessBenchModel.rebuild(I)I -/
def ev_m186 : ev_M := (⟨"WitnessBenchModel", "rebuild", "(I)I"⟩, prog_12_method_63_code, 3, some .int, [],
  [(0, .aload_n 0, 0, 0), (1, .iload_n 1, 0, 0), (2, .invokestatic 104, 140, 1), (5, .ifCond .ne 7, 0, 0), (8, .iconst 1, 0, 0), (9, .goto 16, 0, 0), (12, .aload_n 0, 0, 0), (13, .iload_n 1, 0, 0), (14, .invokevirtual 155, 141, 1), (17, .ifCond .ne 7, 0, 0), (20, .iconst 2, 0, 0), (21, .goto 4, 0, 0), (24, .iconst 0, 0, 0), (25, .putfield 101, 10, 0), (28, .aload_n 0, 0, 0), (29, .getfield 101, 10, 0), (32, .ifCond .le 5, 0, 0), (35, .iconst 0, 0, 0), (36, .ireturn, 0, 0), (37, .aload_n 0, 0, 0), (38, .iconst 0, 0, 0), (39, .putfield 233, 10, 30), (42, .aload_n 0, 0, 0), (43, .iconst 0, 0, 0), (44, .putfield 248, 10, 33), (47, .aload_n 0, 0, 0), (48, .iconst 0, 0, 0), (49, .putfield 262, 10, 37), (52, .aload_n 0, 0, 0), (53, .iload_n 1, 0, 0), (54, .invokevirtual 280, 187, 1), (57, .aload_n 0, 0, 0), (58, .getfield 248, 10, 33), (61, .ifCond .eq 11, 0, 0), (64, .bipush (-100), 0, 0), (66, .aload_n 0, 0, 0), (67, .getfield 239, 10, 31), (70, .isub, 0, 0), (71, .ireturn, 0, 0), (72, .aload_n 0, 0, 0), (73, .aload_n 0, 0, 0), (74, .getfield 262, 10, 37), (77, .putfield 283, 10, 34), (80, .iconst 0, 0, 0), (81, .istore_n 2, 0, 0), (82, .iload_n 2, 0, 0), (83, .sipush 288, 0, 0), (86, .if_icmp .ge 21, 0, 0), (89, .aload_n 0, 0, 0), (90, .getfield 80, 10, 36), (93, .iload_n 2, 0, 0), (94, .aload_n 0, 0, 0), (95, .getfield 86, 10, 39), (98, .iload_n 2, 0, 0), (99, .iaload, 0, 0), (100, .iastore, 0, 0), (101, .iinc 2 1, 0, 0), (104, .goto (-22), 0, 0), (107, .iconst 0, 0, 0), (108, .istore_n 2, 0, 0), (109, .iload_n 2, 0, 0), (110, .bipush 24, 0, 0), (112, .if_icmp .ge 21, 0, 0), (115, .aload_n 0, 0, 0), (116, .getfield 77, 10, 35), (119, .iload_n 2, 0, 0), (120, .aload_n 0, 0, 0), (121, .getfield 83, 10, 38), (124, .iload_n 2, 0, 0), (125, .iaload, 0, 0), (126, .iastore, 0, 0), (127, .iinc 2 1, 0, 0), (130, .goto (-21), 0, 0), (133, .aload_n 0, 0, 0), (134, .getfield 283, 10, 34), (137, .ireturn, 0, 0)])
/-- WitnessBenchModel.readAll(I)V -/
def ev_m187 : ev_M := (⟨"WitnessBenchModel", "readAll", "(I)V"⟩, prog_12_method_62_code, 6, none, [],
  [(0, .iconst 0, 0, 0), (1, .istore_n 2, 0, 0), (2, .iconst (-1), 0, 0), (3, .istore_n 3, 0, 0), (4, .aload_n 0, 0, 0), (5, .invokevirtual 252, 188, 0), (8, .aload_n 0, 0, 0), (9, .getfield 248, 10, 33), (12, .ifCond .ne 170, 0, 0), (15, .aload_n 0, 0, 0), (16, .getfield 242, 10, 32), (19, .iconst (-1), 0, 0), (20, .if_icmp .eq 162, 0, 0), (23, .aload_n 0, 0, 0), (24, .iload_n 3, 0, 0), (25, .invokevirtual 265, 191, 1), (28, .istore 4, 0, 0), (30, .aload_n 0, 0, 0), (31, .iload 4, 0, 0), (33, .ifCond .lt 7, 0, 0), (36, .iconst 1, 0, 0), (37, .goto 4, 0, 0), (40, .iconst 0, 0, 0), (41, .invokevirtual 255, 192, 1), (44, .iload_n 2, 0, 0), (45, .iload 4, 0, 0), (47, .if_icmp .ge 25, 0, 0), (50, .aload_n 0, 0, 0), (51, .getfield 248, 10, 33), (54, .ifCond .ne 18, 0, 0), (57, .aload_n 0, 0, 0), (58, .aload_n 0, 0, 0), (59, .iload_n 2, 0, 0), (60, .invokevirtual 218, 177, 1), (63, .invokevirtual 268, 193, 1), (66, .iinc 2 1, 0, 0), (69, .goto (-25), 0, 0), (72, .aload_n 0, 0, 0), (73, .aload_n 0, 0, 0), (74, .getfield 242, 10, 32), (77, .bipush 32, 0, 0), (79, .if_icmp .ne 7, 0, 0), (82, .iconst 1, 0, 0), (83, .goto 4, 0, 0), (86, .iconst 0, 0, 0), (87, .invokevirtual 255, 192, 1), (90, .aload_n 0, 0, 0), (91, .aload_n 0, 0, 0), (92, .getfield 248, 10, 33), (95, .ifCond .ne 19, 0, 0), (98, .aload_n 0, 0, 0), (99, .aload_n 0, 0, 0), (100, .iload_n 2, 0, 0), (101, .invokevirtual 218, 177, 1), (104, .invokevirtual 271, 194, 1), (107, .ifCond .eq 7, 0, 0), (110, .iconst 1, 0, 0), (111, .goto 4, 0, 0), (114, .iconst 0, 0, 0), (115, .invokevirtual 255, 192, 1), (118, .aload_n 0, 0, 0), (119, .aload_n 0, 0, 0), (120, .getfield 242, 10, 32), (123, .bipush 93, 0, 0), (125, .if_icmp .ne 7, 0, 0), (128, .iconst 1, 0, 0), (129, .goto 4, 0, 0), (132, .iconst 0, 0, 0), (133, .invokevirtual 255, 192, 1), (136, .aload_n 0, 0, 0), (137, .iload_n 1, 0, 0), (138, .invokevirtual 274, 195, 1), (141, .istore 5, 0, 0), (143, .aload_n 0, 0, 0), (144, .getfield 248, 10, 33), (147, .ifCond .ne 29, 0, 0), (150, .iload 5, 0, 0), (152, .ifCond .ge 15, 0, 0), (155, .aload_n 0, 0, 0), (156, .aload_n 0, 0, 0), (157, .iload_n 2, 0, 0), (158, .invokevirtual 218, 177, 1), (161, .invokevirtual 268, 193, 1), (164, .goto 9, 0, 0), (167, .aload_n 0, 0, 0), (168, .iload 5, 0, 0), (170, .invokevirtual 277, 197, 1), (173, .iinc 2 1, 0, 0), (176, .iload 4, 0, 0), (178, .istore_n 3, 0, 0), (179, .goto (-171), 0, 0), (182, .iload_n 2, 0, 0), (183, .aload_n 0, 0, 0), (184, .getfield 111, 10, 22), (187, .if_icmp .ge 25, 0, 0), (190, .aload_n 0, 0, 0), (191, .getfield 248, 10, 33), (194, .ifCond .ne 18, 0, 0), (197, .aload_n 0, 0, 0), (198, .aload_n 0, 0, 0), (199, .iload_n 2, 0, 0), (200, .invokevirtual 218, 177, 1), (203, .invokevirtual 268, 193, 1), (206, .iinc 2 1, 0, 0), (209, .goto (-27), 0, 0), (212, .return_, 0, 0)])
/-- WitnessBenchModel.next()V -/
def ev_m188 : ev_M := (⟨"WitnessBenchModel", "next", "()V"⟩, prog_12_method_54_code, 5, none, [],
  [(0, .aload_n 0, 0, 0), (1, .aload_n 0, 0, 0), (2, .getfield 233, 10, 30), (5, .putfield 239, 10, 31), (8, .aload_n 0, 0, 0), (9, .getfield 233, 10, 30), (12, .aload_n 0, 0, 0), (13, .getfield 206, 10, 28), (16, .if_icmp .ne 9, 0, 0), (19, .aload_n 0, 0, 0), (20, .iconst (-1), 0, 0), (21, .putfield 242, 10, 32), (24, .return_, 0, 0), (25, .aload_n 0, 0, 0), (26, .bipush 48, 0, 0), (28, .bipush 57, 0, 0), (30, .iconst 2, 0, 0), (31, .invokevirtual 245, 189, 3), (34, .istore_n 1, 0, 0), (35, .aload_n 0, 0, 0), (36, .bipush 97, 0, 0), (38, .bipush 122, 0, 0), (40, .bipush 12, 0, 0), (42, .invokevirtual 245, 189, 3), (45, .istore_n 2, 0, 0), (46, .aload_n 0, 0, 0), (47, .bipush 65, 0, 0), (49, .bipush 90, 0, 0), (51, .iconst 4, 0, 0), (52, .invokevirtual 245, 189, 3), (55, .istore_n 3, 0, 0), (56, .iload_n 1, 0, 0), (57, .iload_n 2, 0, 0), (58, .iadd, 0, 0), (59, .iload_n 3, 0, 0), (60, .iadd, 0, 0), (61, .istore 4, 0, 0), (63, .aload_n 0, 0, 0), (64, .iload_n 1, 0, 0), (65, .ifCond .le 8, 0, 0), (68, .bipush (-2), 0, 0), (70, .goto 30, 0, 0), (73, .iload_n 2, 0, 0), (74, .ifCond .le 8, 0, 0), (77, .bipush (-3), 0, 0), (79, .goto 21, 0, 0), (82, .iload_n 3, 0, 0), (83, .ifCond .le 8, 0, 0), (86, .bipush (-4), 0, 0), (88, .goto 12, 0, 0), (91, .aload_n 0, 0, 0), (92, .getfield 74, 10, 29), (95, .aload_n 0, 0, 0), (96, .getfield 233, 10, 30), (99, .iaload, 0, 0), (100, .putfield 242, 10, 32), (103, .aload_n 0, 0, 0), (104, .iload 4, 0, 0), (106, .ifCond .le 13, 0, 0), (109, .aload_n 0, 0, 0), (110, .getfield 233, 10, 30), (113, .iload 4, 0, 0), (115, .iadd, 0, 0), (116, .goto 9, 0, 0), (119, .aload_n 0, 0, 0), (120, .getfield 233, 10, 30), (123, .iconst 1, 0, 0), (124, .iadd, 0, 0), (125, .putfield 233, 10, 30), (128, .return_, 0, 0)])
/-- WitnessBenchModel.many(III)I -/
def ev_m189 : ev_M := (⟨"WitnessBenchModel", "many", "(III)I"⟩, prog_12_method_53_code, 5, some .int, [],
  [(0, .iconst 0, 0, 0), (1, .istore 4, 0, 0), (3, .iload 4, 0, 0), (5, .iload_n 3, 0, 0), (6, .if_icmp .ge 25, 0, 0), (9, .aload_n 0, 0, 0), (10, .aload_n 0, 0, 0), (11, .getfield 233, 10, 30), (14, .iload 4, 0, 0), (16, .iadd, 0, 0), (17, .iload_n 1, 0, 0), (18, .iload_n 2, 0, 0), (19, .invokevirtual 236, 190, 3), (22, .ifCond .eq 9, 0, 0), (25, .iinc 4 1, 0, 0), (28, .goto (-25), 0, 0), (31, .iload 4, 0, 0), (33, .ireturn, 0, 0)])
/-- WitnessBenchModel.isFrom(III)Z -/
def ev_m190 : ev_M := (⟨"WitnessBenchModel", "isFrom", "(III)Z"⟩, prog_12_method_52_code, 4, some .boolean, [],
  [(0, .iload_n 1, 0, 0), (1, .aload_n 0, 0, 0), (2, .getfield 206, 10, 28), (5, .if_icmp .ge 27, 0, 0), (8, .aload_n 0, 0, 0), (9, .getfield 74, 10, 29), (12, .iload_n 1, 0, 0), (13, .iaload, 0, 0), (14, .iload_n 2, 0, 0), (15, .if_icmp .lt 17, 0, 0), (18, .aload_n 0, 0, 0), (19, .getfield 74, 10, 29), (22, .iload_n 1, 0, 0), (23, .iaload, 0, 0), (24, .iload_n 3, 0, 0), (25, .if_icmp .gt 7, 0, 0), (28, .iconst 1, 0, 0), (29, .goto 4, 0, 0), (32, .iconst 0, 0, 0), (33, .ireturn, 0, 0)])
/-- WitnessBenchModel.numberAbove(I)I -/
def ev_m191 : ev_M := (⟨"WitnessBenchModel", "numberAbove", "(I)I"⟩, prog_12_method_56_code, 4, some .int, [],
  [(0, .aload_n 0, 0, 0), (1, .getfield 242, 10, 32), (4, .bipush (-2), 0, 0), (6, .if_icmp .eq 5, 0, 0), (9, .iconst (-1), 0, 0), (10, .ireturn, 0, 0), (11, .aload_n 0, 0, 0), (12, .getfield 233, 10, 30), (15, .aload_n 0, 0, 0), (16, .getfield 239, 10, 31), (19, .iconst 1, 0, 0), (20, .iadd, 0, 0), (21, .if_icmp .ne 18, 0, 0), (24, .aload_n 0, 0, 0), (25, .getfield 74, 10, 29), (28, .aload_n 0, 0, 0), (29, .getfield 239, 10, 31), (32, .iaload, 0, 0), (33, .bipush 48, 0, 0), (35, .isub, 0, 0), (36, .goto 33, 0, 0), (39, .bipush 10, 0, 0), (41, .aload_n 0, 0, 0), (42, .getfield 74, 10, 29), (45, .aload_n 0, 0, 0), (46, .getfield 239, 10, 31), (49, .iaload, 0, 0), (50, .bipush 48, 0, 0), (52, .isub, 0, 0), (53, .imul, 0, 0), (54, .aload_n 0, 0, 0), (55, .getfield 74, 10, 29), (58, .aload_n 0, 0, 0), (59, .getfield 239, 10, 31), (62, .iconst 1, 0, 0), (63, .iadd, 0, 0), (64, .iaload, 0, 0), (65, .iadd, 0, 0), (66, .bipush 48, 0, 0), (68, .isub, 0, 0), (69, .istore_n 2, 0, 0), (70, .iload_n 2, 0, 0), (71, .iload_n 1, 0, 0), (72, .if_icmp .le 42, 0, 0), (75, .iload_n 2, 0, 0), (76, .aload_n 0, 0, 0), (77, .getfield 111, 10, 22), (80, .if_icmp .ge 34, 0, 0), (83, .aload_n 0, 0, 0), (84, .getfield 233, 10, 30), (87, .aload_n 0, 0, 0), (88, .getfield 239, 10, 31), (91, .iconst 1, 0, 0), (92, .iadd, 0, 0), (93, .if_icmp .eq 17, 0, 0), (96, .aload_n 0, 0, 0), (97, .getfield 74, 10, 29), (100, .aload_n 0, 0, 0), (101, .getfield 239, 10, 31), (104, .iaload, 0, 0), (105, .bipush 48, 0, 0), (107, .if_icmp .eq 7, 0, 0), (110, .iconst 1, 0, 0), (111, .goto 4, 0, 0), (114, .iconst 0, 0, 0), (115, .istore_n 3, 0, 0), (116, .iload_n 3, 0, 0), (117, .ifCond .eq 7, 0, 0), (120, .iload_n 2, 0, 0), (121, .goto 4, 0, 0), (124, .iconst (-1), 0, 0), (125, .ireturn, 0, 0)])
/-- WitnessBenchModel.pass(Z)V -/
def ev_m192 : ev_M := (⟨"WitnessBenchModel", "pass", "(Z)V"⟩, prog_12_method_55_code, 2, none, [],
  [(0, .aload_n 0, 0, 0), (1, .aload_n 0, 0, 0), (2, .getfield 248, 10, 33), (5, .ifCond .ne 7, 0, 0), (8, .iload_n 1, 0, 0), (9, .ifCond .ne 7, 0, 0), (12, .iconst 1, 0, 0), (13, .goto 4, 0, 0), (16, .iconst 0, 0, 0), (17, .putfield 248, 10, 33), (20, .aload_n 0, 0, 0), (21, .getfield 248, 10, 33), (24, .ifCond .ne 7, 0, 0), (27, .aload_n 0, 0, 0), (28, .invokevirtual 252, 188, 0), (31, .return_, 0, 0)])
/-- WitnessBenchModel.keepWord(I)V -/
def ev_m193 : ev_M := (⟨"WitnessBenchModel", "keepWord", "(I)V"⟩, prog_12_method_60_code, 3, none, [],
  [(0, .iload_n 1, 0, 0), (1, .ifCond .ge 4, 0, 0), (4, .return_, 0, 0), (5, .aload_n 0, 0, 0), (6, .getfield 83, 10, 38), (9, .aload_n 0, 0, 0), (10, .getfield 262, 10, 37), (13, .aload_n 0, 0, 0), (14, .iload_n 1, 0, 0), (15, .invokevirtual 135, 149, 1), (18, .ifCond .eq 7, 0, 0), (21, .iconst (-1), 0, 0), (22, .goto 9, 0, 0), (25, .aload_n 0, 0, 0), (26, .getfield 25, 10, 7), (29, .iload_n 1, 0, 0), (30, .iaload, 0, 0), (31, .iastore, 0, 0), (32, .iconst 0, 0, 0), (33, .istore_n 2, 0, 0), (34, .iload_n 2, 0, 0), (35, .aload_n 0, 0, 0), (36, .getfield 25, 10, 7), (39, .iload_n 1, 0, 0), (40, .iaload, 0, 0), (41, .if_icmp .ge 34, 0, 0), (44, .aload_n 0, 0, 0), (45, .getfield 86, 10, 39), (48, .bipush 12, 0, 0), (50, .aload_n 0, 0, 0), (51, .getfield 262, 10, 37), (54, .imul, 0, 0), (55, .iload_n 2, 0, 0), (56, .iadd, 0, 0), (57, .aload_n 0, 0, 0), (58, .getfield 22, 10, 6), (61, .bipush 12, 0, 0), (63, .iload_n 1, 0, 0), (64, .imul, 0, 0), (65, .iload_n 2, 0, 0), (66, .iadd, 0, 0), (67, .iaload, 0, 0), (68, .iastore, 0, 0), (69, .iinc 2 1, 0, 0), (72, .goto (-38), 0, 0), (75, .aload_n 0, 0, 0), (76, .dup, 0, 0), (77, .getfield 262, 10, 37), (80, .iconst 1, 0, 0), (81, .iadd, 0, 0), (82, .putfield 262, 10, 37), (85, .return_, 0, 0)])
/-- WitnessBenchModel.isLemma(I)Z -/
def ev_m194 : ev_M := (⟨"WitnessBenchModel", "isLemma", "(I)Z"⟩, prog_12_method_57_code, 4, some .boolean, [],
  [(0, .iload_n 1, 0, 0), (1, .ifCond .lt 20, 0, 0), (4, .aload_n 0, 0, 0), (5, .iload_n 1, 0, 0), (6, .invokevirtual 135, 149, 1), (9, .ifCond .ne 12, 0, 0), (12, .aload_n 0, 0, 0), (13, .getfield 25, 10, 7), (16, .iload_n 1, 0, 0), (17, .iaload, 0, 0), (18, .ifCond .ne 40, 0, 0), (21, .aload_n 0, 0, 0), (22, .getfield 242, 10, 32), (25, .iload_n 1, 0, 0), (26, .ifCond .ge 8, 0, 0), (29, .bipush 45, 0, 0), (31, .goto 18, 0, 0), (34, .aload_n 0, 0, 0), (35, .iload_n 1, 0, 0), (36, .invokevirtual 135, 149, 1), (39, .ifCond .eq 8, 0, 0), (42, .bipush 63, 0, 0), (44, .goto 5, 0, 0), (47, .bipush 46, 0, 0), (49, .if_icmp .ne 7, 0, 0), (52, .iconst 1, 0, 0), (53, .goto 4, 0, 0), (56, .iconst 0, 0, 0), (57, .ireturn, 0, 0), (58, .aload_n 0, 0, 0), (59, .getfield 242, 10, 32), (62, .bipush (-3), 0, 0), (64, .if_icmp .ne 25, 0, 0), (67, .aload_n 0, 0, 0), (68, .getfield 233, 10, 30), (71, .aload_n 0, 0, 0), (72, .getfield 239, 10, 31), (75, .isub, 0, 0), (76, .aload_n 0, 0, 0), (77, .getfield 25, 10, 7), (80, .iload_n 1, 0, 0), (81, .iaload, 0, 0), (82, .if_icmp .ne 7, 0, 0), (85, .iconst 1, 0, 0), (86, .goto 4, 0, 0), (89, .iconst 0, 0, 0), (90, .istore_n 2, 0, 0), (91, .iconst 0, 0, 0), (92, .istore_n 3, 0, 0), (93, .iload_n 3, 0, 0), (94, .aload_n 0, 0, 0), (95, .getfield 25, 10, 7), (98, .iload_n 1, 0, 0), (99, .iaload, 0, 0), (100, .if_icmp .ge 44, 0, 0), (103, .iload_n 2, 0, 0), (104, .ifCond .eq 40, 0, 0), (107, .aload_n 0, 0, 0), (108, .getfield 74, 10, 29), (111, .aload_n 0, 0, 0), (112, .getfield 239, 10, 31), (115, .iload_n 3, 0, 0), (116, .iadd, 0, 0), (117, .iaload, 0, 0), (118, .aload_n 0, 0, 0), (119, .getfield 22, 10, 6), (122, .bipush 12, 0, 0), (124, .iload_n 1, 0, 0), (125, .imul, 0, 0), (126, .iload_n 3, 0, 0), (127, .iadd, 0, 0), (128, .iaload, 0, 0), (129, .if_icmp .ne 7, 0, 0), (132, .iconst 1, 0, 0), (133, .goto 4, 0, 0), (136, .iconst 0, 0, 0), (137, .istore_n 2, 0, 0), (138, .iinc 3 1, 0, 0), (141, .goto (-48), 0, 0), (144, .iload_n 2, 0, 0), (145, .ireturn, 0, 0)])
/-- WitnessBenchModel.groups(I)I -/
def ev_m195 : ev_M := (⟨"WitnessBenchModel", "groups", "(I)I"⟩, prog_12_method_59_code, 8, some .int, [],
  [(0, .iconst 0, 0, 0), (1, .istore_n 2, 0, 0), (2, .iconst (-1), 0, 0), (3, .istore_n 3, 0, 0), (4, .iconst 1, 0, 0), (5, .istore 4, 0, 0), (7, .iload 4, 0, 0), (9, .ifCond .eq 212, 0, 0), (12, .aload_n 0, 0, 0), (13, .getfield 248, 10, 33), (16, .ifCond .ne 205, 0, 0), (19, .aload_n 0, 0, 0), (20, .aload_n 0, 0, 0), (21, .getfield 242, 10, 32), (24, .bipush 32, 0, 0), (26, .if_icmp .ne 7, 0, 0), (29, .iconst 1, 0, 0), (30, .goto 4, 0, 0), (33, .iconst 0, 0, 0), (34, .invokevirtual 255, 192, 1), (37, .aload_n 0, 0, 0), (38, .getfield 239, 10, 31), (41, .istore 5, 0, 0), (43, .aload_n 0, 0, 0), (44, .aload_n 0, 0, 0), (45, .getfield 242, 10, 32), (48, .bipush (-3), 0, 0), (50, .if_icmp .eq 30, 0, 0), (53, .aload_n 0, 0, 0), (54, .getfield 242, 10, 32), (57, .bipush 45, 0, 0), (59, .if_icmp .eq 21, 0, 0), (62, .aload_n 0, 0, 0), (63, .getfield 242, 10, 32), (66, .bipush 63, 0, 0), (68, .if_icmp .eq 12, 0, 0), (71, .aload_n 0, 0, 0), (72, .getfield 242, 10, 32), (75, .bipush 46, 0, 0), (77, .if_icmp .ne 7, 0, 0), (80, .iconst 1, 0, 0), (81, .goto 4, 0, 0), (84, .iconst 0, 0, 0), (85, .invokevirtual 255, 192, 1), (88, .aload_n 0, 0, 0), (89, .aload_n 0, 0, 0), (90, .getfield 242, 10, 32), (93, .bipush 32, 0, 0), (95, .if_icmp .ne 7, 0, 0), (98, .iconst 1, 0, 0), (99, .goto 4, 0, 0), (102, .iconst 0, 0, 0), (103, .invokevirtual 255, 192, 1), (106, .aload_n 0, 0, 0), (107, .getfield 248, 10, 33), (110, .ifCond .eq 7, 0, 0), (113, .iconst (-1), 0, 0), (114, .goto 8, 0, 0), (117, .aload_n 0, 0, 0), (118, .iload_n 2, 0, 0), (119, .invokevirtual 259, 196, 1), (122, .istore 6, 0, 0), (124, .iload 6, 0, 0), (126, .ifCond .lt 25, 0, 0), (129, .iload 6, 0, 0), (131, .iload_n 1, 0, 0), (132, .ishr, 0, 0), (133, .iconst 1, 0, 0), (134, .iand, 0, 0), (135, .iconst 1, 0, 0), (136, .if_icmp .ne 15, 0, 0), (139, .iload_n 2, 0, 0), (140, .iload_n 1, 0, 0), (141, .ishr, 0, 0), (142, .iconst 1, 0, 0), (143, .iand, 0, 0), (144, .ifCond .ne 7, 0, 0), (147, .iconst 1, 0, 0), (148, .goto 4, 0, 0), (151, .iconst 0, 0, 0), (152, .istore 7, 0, 0), (154, .aload_n 0, 0, 0), (155, .iload 6, 0, 0), (157, .ifCond .lt 7, 0, 0), (160, .iconst 1, 0, 0), (161, .goto 4, 0, 0), (164, .iconst 0, 0, 0), (165, .invokevirtual 255, 192, 1), (168, .iload 7, 0, 0), (170, .ifCond .eq 8, 0, 0), (173, .iload 5, 0, 0), (175, .goto 4, 0, 0), (178, .iload_n 3, 0, 0), (179, .istore_n 3, 0, 0), (180, .iload 6, 0, 0), (182, .ifCond .ge 7, 0, 0), (185, .iload_n 2, 0, 0), (186, .goto 5, 0, 0), (189, .iload 6, 0, 0), (191, .istore_n 2, 0, 0), (192, .aload_n 0, 0, 0), (193, .getfield 242, 10, 32), (196, .bipush 59, 0, 0), (198, .if_icmp .ne 7, 0, 0), (201, .iconst 1, 0, 0), (202, .goto 4, 0, 0), (205, .iconst 0, 0, 0), (206, .istore 4, 0, 0), (208, .iload 4, 0, 0), (210, .ifCond .eq 8, 0, 0), (213, .aload_n 0, 0, 0), (214, .iconst 1, 0, 0), (215, .invokevirtual 255, 192, 1), (218, .goto (-211), 0, 0), (221, .aload_n 0, 0, 0), (222, .aload_n 0, 0, 0), (223, .getfield 242, 10, 32), (226, .bipush 10, 0, 0), (228, .if_icmp .ne 7, 0, 0), (231, .iconst 1, 0, 0), (232, .goto 4, 0, 0), (235, .iconst 0, 0, 0), (236, .invokevirtual 255, 192, 1), (239, .iload_n 3, 0, 0), (240, .ireturn, 0, 0)])
/-- WitnessBenchModel.siglaWith(I)I -/
def ev_m196 : ev_M := (⟨"WitnessBenchModel", "siglaWith", "(I)I"⟩, prog_12_method_58_code, 7, some .int, [],
  [(0, .iload_n 1, 0, 0), (1, .istore_n 2, 0, 0), (2, .iconst (-1), 0, 0), (3, .istore_n 3, 0, 0), (4, .aload_n 0, 0, 0), (5, .getfield 242, 10, 32), (8, .bipush (-4), 0, 0), (10, .if_icmp .ne 7, 0, 0), (13, .iconst 1, 0, 0), (14, .goto 4, 0, 0), (17, .iconst 0, 0, 0), (18, .istore 4, 0, 0), (20, .aload_n 0, 0, 0), (21, .getfield 239, 10, 31), (24, .istore 5, 0, 0), (26, .iload 5, 0, 0), (28, .aload_n 0, 0, 0), (29, .getfield 233, 10, 30), (32, .if_icmp .ge 82, 0, 0), (35, .iload 4, 0, 0), (37, .ifCond .eq 77, 0, 0), (40, .aload_n 0, 0, 0), (41, .getfield 74, 10, 29), (44, .iload 5, 0, 0), (46, .iaload, 0, 0), (47, .bipush 65, 0, 0), (49, .isub, 0, 0), (50, .istore 6, 0, 0), (52, .iload 6, 0, 0), (54, .iconst 4, 0, 0), (55, .if_icmp .ge 31, 0, 0), (58, .iload 6, 0, 0), (60, .iload_n 3, 0, 0), (61, .if_icmp .le 25, 0, 0), (64, .aload_n 0, 0, 0), (65, .iload 6, 0, 0), (67, .invokevirtual 155, 141, 1), (70, .ifCond .eq 16, 0, 0), (73, .iload_n 1, 0, 0), (74, .iload 6, 0, 0), (76, .ishr, 0, 0), (77, .iconst 1, 0, 0), (78, .iand, 0, 0), (79, .ifCond .ne 7, 0, 0), (82, .iconst 1, 0, 0), (83, .goto 4, 0, 0), (86, .iconst 0, 0, 0), (87, .istore 4, 0, 0), (89, .iload 4, 0, 0), (91, .ifCond .eq 12, 0, 0), (94, .iload_n 2, 0, 0), (95, .iconst 1, 0, 0), (96, .iload 6, 0, 0), (98, .ishl, 0, 0), (99, .ior, 0, 0), (100, .goto 4, 0, 0), (103, .iload_n 2, 0, 0), (104, .istore_n 2, 0, 0), (105, .iload 6, 0, 0), (107, .istore_n 3, 0, 0), (108, .iinc 5 1, 0, 0), (111, .goto (-85), 0, 0), (114, .iload 4, 0, 0), (116, .ifCond .eq 7, 0, 0), (119, .iload_n 2, 0, 0), (120, .goto 4, 0, 0), (123, .iconst (-1), 0, 0), (124, .ireturn, 0, 0)])
/-- WitnessBenchModel.keepText(I)V -/
def ev_m197 : ev_M := (⟨"WitnessBenchModel", "keepText", "(I)V"⟩, prog_12_method_61_code, 3, none, [],
  [(0, .aload_n 0, 0, 0), (1, .getfield 74, 10, 29), (4, .iload_n 1, 0, 0), (5, .iaload, 0, 0), (6, .bipush 45, 0, 0), (8, .if_icmp .ne 4, 0, 0), (11, .return_, 0, 0), (12, .iconst 0, 0, 0), (13, .istore_n 2, 0, 0), (14, .iload_n 2, 0, 0), (15, .bipush 12, 0, 0), (17, .if_icmp .ge 45, 0, 0), (20, .aload_n 0, 0, 0), (21, .iload_n 1, 0, 0), (22, .iload_n 2, 0, 0), (23, .iadd, 0, 0), (24, .bipush 97, 0, 0), (26, .bipush 122, 0, 0), (28, .invokevirtual 236, 190, 3), (31, .ifCond .eq 31, 0, 0), (34, .aload_n 0, 0, 0), (35, .getfield 86, 10, 39), (38, .bipush 12, 0, 0), (40, .aload_n 0, 0, 0), (41, .getfield 262, 10, 37), (44, .imul, 0, 0), (45, .iload_n 2, 0, 0), (46, .iadd, 0, 0), (47, .aload_n 0, 0, 0), (48, .getfield 74, 10, 29), (51, .iload_n 1, 0, 0), (52, .iload_n 2, 0, 0), (53, .iadd, 0, 0), (54, .iaload, 0, 0), (55, .iastore, 0, 0), (56, .iinc 2 1, 0, 0), (59, .goto (-45), 0, 0), (62, .aload_n 0, 0, 0), (63, .getfield 83, 10, 38), (66, .aload_n 0, 0, 0), (67, .getfield 262, 10, 37), (70, .aload_n 0, 0, 0), (71, .getfield 74, 10, 29), (74, .iload_n 1, 0, 0), (75, .iaload, 0, 0), (76, .bipush 63, 0, 0), (78, .if_icmp .ne 7, 0, 0), (81, .iconst (-1), 0, 0), (82, .goto 4, 0, 0), (85, .iload_n 2, 0, 0), (86, .iastore, 0, 0), (87, .aload_n 0, 0, 0), (88, .dup, 0, 0), (89, .getfield 262, 10, 37), (92, .iconst 1, 0, 0), (93, .iadd, 0, 0), (94, .putfield 262, 10, 37), (97, .return_, 0, 0)])
/-- WitnessBenchModel.built(II)I -/
def ev_m198 : ev_M := (⟨"WitnessBenchModel", "built", "(II)I"⟩, prog_12_method_64_code, 3, some .int, [],
  [(0, .aload_n 0, 0, 0), (1, .iconst 0, 0, 0), (2, .putfield 101, 10, 0), (5, .iload_n 1, 0, 0), (6, .ifCond .lt 15, 0, 0), (9, .iload_n 1, 0, 0), (10, .aload_n 0, 0, 0), (11, .getfield 283, 10, 34), (14, .if_icmp .ge 7, 0, 0), (17, .iload_n 2, 0, 0), (18, .ifCond .ge 5, 0, 0), (21, .iconst (-1), 0, 0), (22, .ireturn, 0, 0), (23, .aload_n 0, 0, 0), (24, .getfield 77, 10, 35), (27, .iload_n 1, 0, 0), (28, .iaload, 0, 0), (29, .ifCond .ge 14, 0, 0), (32, .iload_n 2, 0, 0), (33, .ifCond .ne 8, 0, 0), (36, .bipush 63, 0, 0), (38, .goto 4, 0, 0), (41, .iconst (-1), 0, 0), (42, .ireturn, 0, 0), (43, .iload_n 2, 0, 0), (44, .aload_n 0, 0, 0), (45, .getfield 77, 10, 35), (48, .iload_n 1, 0, 0), (49, .iaload, 0, 0), (50, .if_icmp .ge 17, 0, 0), (53, .aload_n 0, 0, 0), (54, .getfield 80, 10, 36), (57, .bipush 12, 0, 0), (59, .iload_n 1, 0, 0), (60, .imul, 0, 0), (61, .iload_n 2, 0, 0), (62, .iadd, 0, 0), (63, .iaload, 0, 0), (64, .goto 4, 0, 0), (67, .iconst (-1), 0, 0), (68, .ireturn, 0, 0)])
/-- WitnessBenchModel.concord()I -/
def ev_m199 : ev_M := (⟨"WitnessBenchModel", "concord", "()I"⟩, prog_12_method_66_code, 3, some .int, [],
  [(0, .aload_n 0, 0, 0), (1, .iconst 0, 0, 0), (2, .putfield 101, 10, 0), (5, .aload_n 0, 0, 0), (6, .iconst (-1), 0, 0), (7, .aload_n 0, 0, 0), (8, .getfield 114, 10, 2), (11, .invokevirtual 141, 144, 2), (14, .iconst (-1), 0, 0), (15, .istore_n 1, 0, 0), (16, .iconst 0, 0, 0), (17, .istore_n 2, 0, 0), (18, .iload_n 2, 0, 0), (19, .bipush 40, 0, 0), (21, .if_icmp .ge 48, 0, 0), (24, .aload_n 0, 0, 0), (25, .iload_n 2, 0, 0), (26, .invokevirtual 138, 143, 1), (29, .ifCond .eq 32, 0, 0), (32, .aload_n 0, 0, 0), (33, .iload_n 2, 0, 0), (34, .aload_n 0, 0, 0), (35, .getfield 114, 10, 2), (38, .ifCond .ne 7, 0, 0), (41, .iconst 1, 0, 0), (42, .goto 4, 0, 0), (45, .iconst 0, 0, 0), (46, .invokevirtual 286, 200, 2), (49, .ifCond .eq 12, 0, 0), (52, .aload_n 0, 0, 0), (53, .getfield 28, 10, 8), (56, .iload_n 2, 0, 0), (57, .iaload, 0, 0), (58, .goto 4, 0, 0), (61, .iload_n 1, 0, 0), (62, .istore_n 1, 0, 0), (63, .iinc 2 1, 0, 0), (66, .goto (-48), 0, 0), (69, .aload_n 0, 0, 0), (70, .iconst 0, 0, 0), (71, .putfield 290, 10, 40), (74, .iconst 0, 0, 0), (75, .istore_n 2, 0, 0), (76, .iload_n 2, 0, 0), (77, .bipush 40, 0, 0), (79, .if_icmp .ge 62, 0, 0), (82, .aload_n 0, 0, 0), (83, .iload_n 2, 0, 0), (84, .invokevirtual 138, 143, 1), (87, .ifCond .eq 48, 0, 0), (90, .iload_n 1, 0, 0), (91, .ifCond .lt 44, 0, 0), (94, .aload_n 0, 0, 0), (95, .getfield 28, 10, 8), (98, .iload_n 2, 0, 0), (99, .iaload, 0, 0), (100, .iload_n 1, 0, 0), (101, .if_icmp .ne 34, 0, 0), (104, .aload_n 0, 0, 0), (105, .getfield 89, 10, 41), (108, .aload_n 0, 0, 0), (109, .getfield 290, 10, 40), (112, .bipush 100, 0, 0), (114, .iload_n 2, 0, 0), (115, .bipush 10, 0, 0), (117, .idiv, 0, 0), (118, .imul, 0, 0), (119, .iload_n 2, 0, 0), (120, .bipush 10, 0, 0), (122, .irem, 0, 0), (123, .iadd, 0, 0), (124, .iastore, 0, 0), (125, .aload_n 0, 0, 0), (126, .dup, 0, 0), (127, .getfield 290, 10, 40), (130, .iconst 1, 0, 0), (131, .iadd, 0, 0), (132, .putfield 290, 10, 40), (135, .iinc 2 1, 0, 0), (138, .goto (-62), 0, 0), (141, .aload_n 0, 0, 0), (142, .getfield 290, 10, 40), (145, .ireturn, 0, 0)])
/-- WitnessBenchModel.isText(IZ)Z -/
def ev_m200 : ev_M := (⟨"WitnessBenchModel", "isText", "(IZ)Z"⟩, prog_12_method_65_code, 5, some .boolean, [],
  [(0, .aload_n 0, 0, 0), (1, .iload_n 1, 0, 0), (2, .invokevirtual 135, 149, 1), (5, .iload_n 2, 0, 0), (6, .if_icmp .ne 20, 0, 0), (9, .aload_n 0, 0, 0), (10, .getfield 25, 10, 7), (13, .iload_n 1, 0, 0), (14, .iaload, 0, 0), (15, .aload_n 0, 0, 0), (16, .getfield 128, 10, 18), (19, .if_icmp .ne 7, 0, 0), (22, .iconst 1, 0, 0), (23, .goto 4, 0, 0), (26, .iconst 0, 0, 0), (27, .istore_n 3, 0, 0), (28, .iconst 0, 0, 0), (29, .istore 4, 0, 0), (31, .iload 4, 0, 0), (33, .aload_n 0, 0, 0), (34, .getfield 128, 10, 18), (37, .if_icmp .ge 41, 0, 0), (40, .iload_n 3, 0, 0), (41, .ifCond .eq 37, 0, 0), (44, .aload_n 0, 0, 0), (45, .getfield 22, 10, 6), (48, .bipush 12, 0, 0), (50, .iload_n 1, 0, 0), (51, .imul, 0, 0), (52, .iload 4, 0, 0), (54, .iadd, 0, 0), (55, .iaload, 0, 0), (56, .aload_n 0, 0, 0), (57, .getfield 49, 10, 17), (60, .iload 4, 0, 0), (62, .iaload, 0, 0), (63, .if_icmp .ne 7, 0, 0), (66, .iconst 1, 0, 0), (67, .goto 4, 0, 0), (70, .iconst 0, 0, 0), (71, .istore_n 3, 0, 0), (72, .iinc 4 1, 0, 0), (75, .goto (-44), 0, 0), (78, .iload_n 3, 0, 0), (79, .ireturn, 0, 0)])
/-- WitnessBenchModel.found(I)I -/
def ev_m201 : ev_M := (⟨"WitnessBenchModel", "found", "(I)I"⟩, prog_12_method_67_code, 2, some .int, [],
  [(0, .aload_n 0, 0, 0), (1, .iload_n 1, 0, 0), (2, .ifCond .lt 11, 0, 0), (5, .iload_n 1, 0, 0), (6, .aload_n 0, 0, 0), (7, .getfield 290, 10, 40), (10, .if_icmp .lt 7, 0, 0), (13, .iconst 1, 0, 0), (14, .goto 4, 0, 0), (17, .iconst 0, 0, 0), (18, .putfield 101, 10, 0), (21, .aload_n 0, 0, 0), (22, .getfield 101, 10, 0), (25, .ifCond .le 7, 0, 0), (28, .iconst 0, 0, 0), (29, .goto 9, 0, 0), (32, .aload_n 0, 0, 0), (33, .getfield 89, 10, 41), (36, .iload_n 1, 0, 0), (37, .iaload, 0, 0), (38, .ireturn, 0, 0)])
/-- WitnessBenchModel.blocks(II)I -/
def ev_m202 : ev_M := (⟨"WitnessBenchModel", "blocks", "(II)I"⟩, prog_12_method_69_code, 6, some .int, [],
  [(0, .aload_n 0, 0, 0), (1, .iload_n 1, 0, 0), (2, .invokestatic 104, 140, 1), (5, .ifCond .eq 10, 0, 0), (8, .iload_n 2, 0, 0), (9, .invokestatic 104, 140, 1), (12, .ifCond .ne 7, 0, 0), (15, .iconst 1, 0, 0), (16, .goto 33, 0, 0), (19, .iload_n 1, 0, 0), (20, .iload_n 2, 0, 0), (21, .if_icmp .ne 7, 0, 0), (24, .iconst 2, 0, 0), (25, .goto 24, 0, 0), (28, .aload_n 0, 0, 0), (29, .iload_n 1, 0, 0), (30, .invokevirtual 155, 141, 1), (33, .ifCond .eq 11, 0, 0), (36, .aload_n 0, 0, 0), (37, .iload_n 2, 0, 0), (38, .invokevirtual 155, 141, 1), (41, .ifCond .ne 7, 0, 0), (44, .iconst 3, 0, 0), (45, .goto 4, 0, 0), (48, .iconst 0, 0, 0), (49, .putfield 101, 10, 0), (52, .aload_n 0, 0, 0), (53, .getfield 101, 10, 0), (56, .ifCond .le 5, 0, 0), (59, .iconst 0, 0, 0), (60, .ireturn, 0, 0), (61, .aload_n 0, 0, 0), (62, .iconst 0, 0, 0), (63, .putfield 293, 10, 42), (66, .iconst 0, 0, 0), (67, .istore_n 3, 0, 0), (68, .iload_n 3, 0, 0), (69, .aload_n 0, 0, 0), (70, .getfield 13, 10, 3), (73, .iload_n 1, 0, 0), (74, .iaload, 0, 0), (75, .if_icmp .ge 130, 0, 0), (78, .iconst 0, 0, 0), (79, .istore 4, 0, 0), (81, .iload 4, 0, 0), (83, .aload_n 0, 0, 0), (84, .getfield 13, 10, 3), (87, .iload_n 2, 0, 0), (88, .iaload, 0, 0), (89, .if_icmp .ge 110, 0, 0), (92, .iconst 0, 0, 0), (93, .istore 5, 0, 0), (95, .aload_n 0, 0, 0), (96, .iload_n 1, 0, 0), (97, .iload_n 3, 0, 0), (98, .iload 5, 0, 0), (100, .iadd, 0, 0), (101, .iload_n 2, 0, 0), (102, .iload 4, 0, 0), (104, .iload 5, 0, 0), (106, .iadd, 0, 0), (107, .invokevirtual 296, 203, 4), (110, .ifCond .eq 9, 0, 0), (113, .iinc 5 1, 0, 0), (116, .goto (-21), 0, 0), (119, .iload 5, 0, 0), (121, .iconst 2, 0, 0), (122, .if_icmp .lt 71, 0, 0), (125, .aload_n 0, 0, 0), (126, .iload_n 1, 0, 0), (127, .iload_n 3, 0, 0), (128, .iconst 1, 0, 0), (129, .isub, 0, 0), (130, .iload_n 2, 0, 0), (131, .iload 4, 0, 0), (133, .iconst 1, 0, 0), (134, .isub, 0, 0), (135, .invokevirtual 296, 203, 4), (138, .ifCond .ne 55, 0, 0), (141, .aload_n 0, 0, 0), (142, .getfield 92, 10, 43), (145, .iconst 3, 0, 0), (146, .aload_n 0, 0, 0), (147, .getfield 293, 10, 42), (150, .imul, 0, 0), (151, .iload_n 3, 0, 0), (152, .iastore, 0, 0), (153, .aload_n 0, 0, 0), (154, .getfield 92, 10, 43), (157, .iconst 3, 0, 0), (158, .aload_n 0, 0, 0), (159, .getfield 293, 10, 42), (162, .imul, 0, 0), (163, .iconst 1, 0, 0), (164, .iadd, 0, 0), (165, .iload 4, 0, 0), (167, .iastore, 0, 0), (168, .aload_n 0, 0, 0), (169, .getfield 92, 10, 43), (172, .iconst 3, 0, 0), (173, .aload_n 0, 0, 0), (174, .getfield 293, 10, 42), (177, .imul, 0, 0), (178, .iconst 2, 0, 0), (179, .iadd, 0, 0), (180, .iload 5, 0, 0), (182, .iastore, 0, 0), (183, .aload_n 0, 0, 0), (184, .dup, 0, 0), (185, .getfield 293, 10, 42), (188, .iconst 1, 0, 0), (189, .iadd, 0, 0), (190, .putfield 293, 10, 42), (193, .iinc 4 1, 0, 0), (196, .goto (-115), 0, 0), (199, .iinc 3 1, 0, 0), (202, .goto (-134), 0, 0), (205, .aload_n 0, 0, 0), (206, .getfield 293, 10, 42), (209, .ireturn, 0, 0)])
/-- WitnessBenchModel.isMoved(IIII)Z -/
def ev_m203 : ev_M := (⟨"WitnessBenchModel", "isMoved", "(IIII)Z"⟩, prog_12_method_68_code, 7, some .boolean, [],
  [(0, .aload_n 0, 0, 0), (1, .iload_n 1, 0, 0), (2, .iload_n 2, 0, 0), (3, .invokevirtual 161, 153, 2), (6, .ifCond .eq 13, 0, 0), (9, .aload_n 0, 0, 0), (10, .iload_n 3, 0, 0), (11, .iload 4, 0, 0), (13, .invokevirtual 161, 153, 2), (16, .ifCond .ne 5, 0, 0), (19, .iconst 0, 0, 0), (20, .ireturn, 0, 0), (21, .bipush 10, 0, 0), (23, .iload_n 1, 0, 0), (24, .imul, 0, 0), (25, .iload_n 2, 0, 0), (26, .iadd, 0, 0), (27, .istore 5, 0, 0), (29, .bipush 10, 0, 0), (31, .iload_n 3, 0, 0), (32, .imul, 0, 0), (33, .iload 4, 0, 0), (35, .iadd, 0, 0), (36, .istore 6, 0, 0), (38, .aload_n 0, 0, 0), (39, .iload 5, 0, 0), (41, .invokevirtual 135, 149, 1), (44, .ifCond .ne 39, 0, 0), (47, .aload_n 0, 0, 0), (48, .getfield 28, 10, 8), (51, .iload 5, 0, 0), (53, .iaload, 0, 0), (54, .aload_n 0, 0, 0), (55, .getfield 28, 10, 8), (58, .iload 6, 0, 0), (60, .iaload, 0, 0), (61, .if_icmp .ne 22, 0, 0), (64, .aload_n 0, 0, 0), (65, .iload 5, 0, 0), (67, .invokevirtual 203, 173, 1), (70, .aload_n 0, 0, 0), (71, .iload 6, 0, 0), (73, .invokevirtual 203, 173, 1), (76, .if_icmp .eq 7, 0, 0), (79, .iconst 1, 0, 0), (80, .goto 4, 0, 0), (83, .iconst 0, 0, 0), (84, .ireturn, 0, 0)])
/-- WitnessBenchModel.block(II)I -/
def ev_m204 : ev_M := (⟨"WitnessBenchModel", "block", "(II)I"⟩, prog_12_method_70_code, 3, some .int, [],
  [(0, .aload_n 0, 0, 0), (1, .iload_n 1, 0, 0), (2, .ifCond .lt 20, 0, 0), (5, .iload_n 1, 0, 0), (6, .aload_n 0, 0, 0), (7, .getfield 293, 10, 42), (10, .if_icmp .ge 12, 0, 0), (13, .iload_n 2, 0, 0), (14, .ifCond .lt 8, 0, 0), (17, .iload_n 2, 0, 0), (18, .iconst 2, 0, 0), (19, .if_icmp .le 7, 0, 0), (22, .iconst 1, 0, 0), (23, .goto 4, 0, 0), (26, .iconst 0, 0, 0), (27, .putfield 101, 10, 0), (30, .aload_n 0, 0, 0), (31, .getfield 101, 10, 0), (34, .ifCond .le 7, 0, 0), (37, .iconst 0, 0, 0), (38, .goto 13, 0, 0), (41, .aload_n 0, 0, 0), (42, .getfield 92, 10, 43), (45, .iconst 3, 0, 0), (46, .iload_n 1, 0, 0), (47, .imul, 0, 0), (48, .iload_n 2, 0, 0), (49, .iadd, 0, 0), (50, .iaload, 0, 0), (51, .ireturn, 0, 0)])
/-- WitnessBenchModel.parent(II)V -/
def ev_m205 : ev_M := (⟨"WitnessBenchModel", "parent", "(II)V"⟩, prog_12_method_71_code, 4, none, [],
  [(0, .aload_n 0, 0, 0), (1, .iload_n 1, 0, 0), (2, .invokestatic 104, 140, 1), (5, .ifCond .eq 15, 0, 0), (8, .iload_n 2, 0, 0), (9, .iconst (-1), 0, 0), (10, .if_icmp .eq 14, 0, 0), (13, .iload_n 2, 0, 0), (14, .invokestatic 104, 140, 1), (17, .ifCond .ne 7, 0, 0), (20, .iconst 1, 0, 0), (21, .goto 4, 0, 0), (24, .iconst 0, 0, 0), (25, .putfield 101, 10, 0), (28, .aload_n 0, 0, 0), (29, .getfield 101, 10, 0), (32, .ifCond .le 7, 0, 0), (35, .iconst (-1), 0, 0), (36, .goto 4, 0, 0), (39, .iload_n 2, 0, 0), (40, .istore_n 3, 0, 0), (41, .iload_n 3, 0, 0), (42, .ifCond .lt 34, 0, 0), (45, .aload_n 0, 0, 0), (46, .getfield 101, 10, 0), (49, .ifCond .ne 27, 0, 0), (52, .aload_n 0, 0, 0), (53, .iload_n 3, 0, 0), (54, .iload_n 1, 0, 0), (55, .if_icmp .ne 7, 0, 0), (58, .iconst 2, 0, 0), (59, .goto 4, 0, 0), (62, .iconst 0, 0, 0), (63, .putfield 101, 10, 0), (66, .aload_n 0, 0, 0), (67, .getfield 65, 10, 25), (70, .iload_n 3, 0, 0), (71, .iaload, 0, 0), (72, .istore_n 3, 0, 0), (73, .goto (-32), 0, 0), (76, .aload_n 0, 0, 0), (77, .getfield 101, 10, 0), (80, .ifCond .ne 10, 0, 0), (83, .aload_n 0, 0, 0), (84, .getfield 65, 10, 25), (87, .iload_n 1, 0, 0), (88, .iload_n 2, 0, 0), (89, .iastore, 0, 0), (90, .return_, 0, 0)])
/-- WitnessBenchModel.changes(I)I -/
def ev_m206 : ev_M := (⟨"WitnessBenchModel", "changes", "(I)I"⟩, prog_12_method_75_code, 4, some .int, [],
  [(0, .aload_n 0, 0, 0), (1, .iload_n 1, 0, 0), (2, .iconst (-1), 0, 0), (3, .if_icmp .eq 11, 0, 0), (6, .aload_n 0, 0, 0), (7, .iload_n 1, 0, 0), (8, .invokevirtual 200, 171, 1), (11, .ifCond .eq 7, 0, 0), (14, .iconst 0, 0, 0), (15, .goto 4, 0, 0), (18, .iconst 1, 0, 0), (19, .putfield 101, 10, 0), (22, .iconst 0, 0, 0), (23, .istore_n 2, 0, 0), (24, .iconst 0, 0, 0), (25, .istore_n 3, 0, 0), (26, .iload_n 3, 0, 0), (27, .aload_n 0, 0, 0), (28, .getfield 111, 10, 22), (31, .if_icmp .ge 38, 0, 0), (34, .aload_n 0, 0, 0), (35, .getfield 101, 10, 0), (38, .ifCond .ne 31, 0, 0), (41, .iload_n 1, 0, 0), (42, .iconst (-1), 0, 0), (43, .if_icmp .eq 8, 0, 0), (46, .iload_n 1, 0, 0), (47, .iload_n 3, 0, 0), (48, .if_icmp .ne 13, 0, 0), (51, .iload_n 2, 0, 0), (52, .aload_n 0, 0, 0), (53, .iload_n 3, 0, 0), (54, .invokevirtual 308, 207, 1), (57, .iadd, 0, 0), (58, .goto 4, 0, 0), (61, .iload_n 2, 0, 0), (62, .istore_n 2, 0, 0), (63, .iinc 3 1, 0, 0), (66, .goto (-40), 0, 0), (69, .iload_n 2, 0, 0), (70, .ireturn, 0, 0)])
/-- WitnessBenchModel.changesAt(I)I -/
def ev_m207 : ev_M := (⟨"WitnessBenchModel", "changesAt", "(I)I"⟩, prog_12_method_74_code, 4, some .int, [],
  [(0, .aload_n 0, 0, 0), (1, .iconst 0, 0, 0), (2, .putfield 299, 10, 46), (5, .iconst 0, 0, 0), (6, .istore_n 2, 0, 0), (7, .iload_n 2, 0, 0), (8, .iconst 4, 0, 0), (9, .if_icmp .ge 75, 0, 0), (12, .aload_n 0, 0, 0), (13, .getfield 59, 10, 23), (16, .iconst 4, 0, 0), (17, .iload_n 1, 0, 0), (18, .imul, 0, 0), (19, .iload_n 2, 0, 0), (20, .iadd, 0, 0), (21, .iaload, 0, 0), (22, .istore_n 3, 0, 0), (23, .aload_n 0, 0, 0), (24, .getfield 95, 10, 44), (27, .iload_n 2, 0, 0), (28, .aload_n 0, 0, 0), (29, .iload_n 2, 0, 0), (30, .invokevirtual 155, 141, 1), (33, .ifCond .eq 15, 0, 0), (36, .iload_n 3, 0, 0), (37, .ifCond .lt 15, 0, 0), (40, .aload_n 0, 0, 0), (41, .iload_n 3, 0, 0), (42, .invokevirtual 135, 149, 1), (45, .ifCond .eq 7, 0, 0), (48, .iconst (-1), 0, 0), (49, .goto 18, 0, 0), (52, .iload_n 3, 0, 0), (53, .ifCond .ge 8, 0, 0), (56, .bipush (-2), 0, 0), (58, .goto 9, 0, 0), (61, .aload_n 0, 0, 0), (62, .getfield 28, 10, 8), (65, .iload_n 3, 0, 0), (66, .iaload, 0, 0), (67, .iastore, 0, 0), (68, .aload_n 0, 0, 0), (69, .aload_n 0, 0, 0), (70, .getfield 95, 10, 44), (73, .iload_n 2, 0, 0), (74, .iaload, 0, 0), (75, .invokevirtual 302, 208, 1), (78, .iinc 2 1, 0, 0), (81, .goto (-74), 0, 0), (84, .aload_n 0, 0, 0), (85, .getfield 299, 10, 46), (88, .ifCond .ne 7, 0, 0), (91, .iconst 0, 0, 0), (92, .goto 6, 0, 0), (95, .sipush 1000, 0, 0), (98, .istore_n 2, 0, 0), (99, .iconst 0, 0, 0), (100, .istore_n 3, 0, 0), (101, .iload_n 3, 0, 0), (102, .sipush 256, 0, 0), (105, .if_icmp .ge 27, 0, 0), (108, .aload_n 0, 0, 0), (109, .getfield 299, 10, 46), (112, .ifCond .le 20, 0, 0), (115, .aload_n 0, 0, 0), (116, .iload_n 2, 0, 0), (117, .aload_n 0, 0, 0), (118, .iload_n 3, 0, 0), (119, .invokevirtual 305, 209, 1), (122, .invokevirtual 164, 158, 2), (125, .istore_n 2, 0, 0), (126, .iinc 3 1, 0, 0), (129, .goto (-28), 0, 0), (132, .iload_n 2, 0, 0), (133, .ireturn, 0, 0)])
/-- WitnessBenchModel.note(I)V -/
def ev_m208 : ev_M := (⟨"WitnessBenchModel", "note", "(I)V"⟩, prog_12_method_72_code, 4, none, [],
  [(0, .iload_n 1, 0, 0), (1, .iconst (-1), 0, 0), (2, .if_icmp .ne 7, 0, 0), (5, .iconst 1, 0, 0), (6, .goto 4, 0, 0), (9, .iconst 0, 0, 0), (10, .istore_n 2, 0, 0), (11, .iconst 0, 0, 0), (12, .istore_n 3, 0, 0), (13, .iload_n 3, 0, 0), (14, .aload_n 0, 0, 0), (15, .getfield 299, 10, 46), (18, .if_icmp .ge 29, 0, 0), (21, .iload_n 2, 0, 0), (22, .ifCond .ne 13, 0, 0), (25, .aload_n 0, 0, 0), (26, .getfield 98, 10, 45), (29, .iload_n 3, 0, 0), (30, .iaload, 0, 0), (31, .iload_n 1, 0, 0), (32, .if_icmp .ne 7, 0, 0), (35, .iconst 1, 0, 0), (36, .goto 4, 0, 0), (39, .iconst 0, 0, 0), (40, .istore_n 2, 0, 0), (41, .iinc 3 1, 0, 0), (44, .goto (-31), 0, 0), (47, .iload_n 2, 0, 0), (48, .ifCond .ne 23, 0, 0), (51, .aload_n 0, 0, 0), (52, .getfield 98, 10, 45), (55, .aload_n 0, 0, 0), (56, .getfield 299, 10, 46), (59, .iload_n 1, 0, 0), (60, .iastore, 0, 0), (61, .aload_n 0, 0, 0), (62, .dup, 0, 0), (63, .getfield 299, 10, 46), (66, .iconst 1, 0, 0), (67, .iadd, 0, 0), (68, .putfield 299, 10, 46), (71, .return_, 0, 0)])
/-- WitnessBenchModel.tried(I)I -/
def ev_m209 : ev_M := (⟨"WitnessBenchModel", "tried", "(I)I"⟩, prog_12_method_73_code, 7, some .int, [],
  [(0, .iconst 0, 0, 0), (1, .istore_n 2, 0, 0), (2, .iconst 0, 0, 0), (3, .istore_n 3, 0, 0), (4, .iload_n 3, 0, 0), (5, .iconst 4, 0, 0), (6, .if_icmp .ge 117, 0, 0), (9, .iload_n 1, 0, 0), (10, .iconst 2, 0, 0), (11, .iload_n 3, 0, 0), (12, .imul, 0, 0), (13, .ishr, 0, 0), (14, .iconst 3, 0, 0), (15, .iand, 0, 0), (16, .istore 4, 0, 0), (18, .iload 4, 0, 0), (20, .aload_n 0, 0, 0), (21, .getfield 299, 10, 46), (24, .if_icmp .ge 33, 0, 0), (27, .aload_n 0, 0, 0), (28, .getfield 95, 10, 44), (31, .iload_n 3, 0, 0), (32, .iaload, 0, 0), (33, .iconst (-1), 0, 0), (34, .if_icmp .eq 19, 0, 0), (37, .aload_n 0, 0, 0), (38, .getfield 95, 10, 44), (41, .iload_n 3, 0, 0), (42, .iaload, 0, 0), (43, .aload_n 0, 0, 0), (44, .getfield 98, 10, 45), (47, .iload 4, 0, 0), (49, .iaload, 0, 0), (50, .if_icmp .ne 7, 0, 0), (53, .iconst 1, 0, 0), (54, .goto 4, 0, 0), (57, .iconst 0, 0, 0), (58, .istore 5, 0, 0), (60, .aload_n 0, 0, 0), (61, .getfield 65, 10, 25), (64, .iload_n 3, 0, 0), (65, .iaload, 0, 0), (66, .ifCond .lt 24, 0, 0), (69, .iload 4, 0, 0), (71, .iload_n 1, 0, 0), (72, .iconst 2, 0, 0), (73, .aload_n 0, 0, 0), (74, .getfield 65, 10, 25), (77, .iload_n 3, 0, 0), (78, .iaload, 0, 0), (79, .imul, 0, 0), (80, .ishr, 0, 0), (81, .iconst 3, 0, 0), (82, .iand, 0, 0), (83, .if_icmp .eq 7, 0, 0), (86, .iconst 1, 0, 0), (87, .goto 4, 0, 0), (90, .iconst 0, 0, 0), (91, .istore 6, 0, 0), (93, .iload 5, 0, 0), (95, .ifCond .ne 9, 0, 0), (98, .sipush 1000, 0, 0), (101, .goto 15, 0, 0), (104, .iload 6, 0, 0), (106, .ifCond .eq 9, 0, 0), (109, .iload_n 2, 0, 0), (110, .iconst 1, 0, 0), (111, .iadd, 0, 0), (112, .goto 4, 0, 0), (115, .iload_n 2, 0, 0), (116, .istore_n 2, 0, 0), (117, .iinc 3 1, 0, 0), (120, .goto (-116), 0, 0), (123, .iload_n 2, 0, 0), (124, .ireturn, 0, 0)])
/-- WitnessBenchLaw.type(LWitnessBench;C[J)I -/
def ev_m210 : ev_M := (⟨"WitnessBenchLaw", "type", "(LWitnessBench;C[J)I"⟩, method_3_code, 4, some .int, [(0, 9, 12, 13), (0, 9, 15, 15)],
  [(0, .aload_n 2, 0, 0), (1, .iconst 0, 0, 0), (2, .aload_n 0, 0, 0), (3, .iload_n 1, 0, 0), (4, .invokevirtual 7, 109, 1), (7, .i2l, 0, 0), (8, .lastore, 0, 0), (9, .goto 9, 0, 0), (12, .astore_n 3, 0, 0), (13, .iconst 1, 0, 0), (14, .ireturn, 0, 0), (15, .astore_n 3, 0, 0), (16, .iconst 2, 0, 0), (17, .ireturn, 0, 0), (18, .iconst 0, 0, 0), (19, .ireturn, 0, 0)])
/-- WitnessBenchLaw.cut(LWitnessBench;I)I -/
def ev_m211 : ev_M := (⟨"WitnessBenchLaw", "cut", "(LWitnessBench;I)I"⟩, method_4_code, 3, some .int, [(0, 5, 8, 13)],
  [(0, .aload_n 0, 0, 0), (1, .iload_n 1, 0, 0), (2, .invokevirtual 17, 110, 1), (5, .goto 6, 0, 0), (8, .astore_n 2, 0, 0), (9, .iconst 1, 0, 0), (10, .ireturn, 0, 0), (11, .iconst 0, 0, 0), (12, .ireturn, 0, 0)])
/-- WitnessBenchLaw.word(LWitnessBench;I[J)I -/
def ev_m212 : ev_M := (⟨"WitnessBenchLaw", "word", "(LWitnessBench;I[J)I"⟩, method_5_code, 4, some .int, [(0, 9, 12, 25), (0, 9, 15, 15), (0, 9, 18, 13), (0, 9, 21, 27)],
  [(0, .aload_n 2, 0, 0), (1, .iconst 0, 0, 0), (2, .aload_n 0, 0, 0), (3, .iload_n 1, 0, 0), (4, .invokevirtual 21, 111, 1), (7, .i2l, 0, 0), (8, .lastore, 0, 0), (9, .goto 15, 0, 0), (12, .astore_n 3, 0, 0), (13, .iconst 1, 0, 0), (14, .ireturn, 0, 0), (15, .astore_n 3, 0, 0), (16, .iconst 2, 0, 0), (17, .ireturn, 0, 0), (18, .astore_n 3, 0, 0), (19, .iconst 3, 0, 0), (20, .ireturn, 0, 0), (21, .astore_n 3, 0, 0), (22, .iconst 4, 0, 0), (23, .ireturn, 0, 0), (24, .iconst 0, 0, 0), (25, .ireturn, 0, 0)])
/-- WitnessBenchLaw.rule(LWitnessBench;I[J)I -/
def ev_m213 : ev_M := (⟨"WitnessBenchLaw", "rule", "(LWitnessBench;I[J)I"⟩, method_6_code, 4, some .int, [(0, 9, 12, 13), (0, 9, 15, 27)],
  [(0, .aload_n 2, 0, 0), (1, .iconst 0, 0, 0), (2, .aload_n 0, 0, 0), (3, .iload_n 1, 0, 0), (4, .invokevirtual 29, 113, 1), (7, .i2l, 0, 0), (8, .lastore, 0, 0), (9, .goto 9, 0, 0), (12, .astore_n 3, 0, 0), (13, .iconst 1, 0, 0), (14, .ireturn, 0, 0), (15, .astore_n 3, 0, 0), (16, .iconst 2, 0, 0), (17, .ireturn, 0, 0), (18, .iconst 0, 0, 0), (19, .ireturn, 0, 0)])
/-- WitnessBenchLaw.equate(LWitnessBench;IIII[J)I -/
def ev_m214 : ev_M := (⟨"WitnessBenchLaw", "equate", "(LWitnessBench;IIII[J)I"⟩, method_7_code, 7, some .int, [(0, 14, 17, 25), (0, 14, 21, 13), (0, 14, 25, 27)],
  [(0, .aload 5, 0, 0), (2, .iconst 0, 0, 0), (3, .aload_n 0, 0, 0), (4, .iload_n 1, 0, 0), (5, .iload_n 2, 0, 0), (6, .iload_n 3, 0, 0), (7, .iload 4, 0, 0), (9, .invokevirtual 32, 114, 4), (12, .i2l, 0, 0), (13, .lastore, 0, 0), (14, .goto 15, 0, 0), (17, .astore 6, 0, 0), (19, .iconst 1, 0, 0), (20, .ireturn, 0, 0), (21, .astore 6, 0, 0), (23, .iconst 2, 0, 0), (24, .ireturn, 0, 0), (25, .astore 6, 0, 0), (27, .iconst 3, 0, 0), (28, .ireturn, 0, 0), (29, .iconst 0, 0, 0), (30, .ireturn, 0, 0)])
/-- WitnessBenchLaw.form(LWitnessBench;II[J)I -/
def ev_m215 : ev_M := (⟨"WitnessBenchLaw", "form", "(LWitnessBench;II[J)I"⟩, method_8_code, 5, some .int, [(0, 10, 13, 25)],
  [(0, .aload_n 3, 0, 0), (1, .iconst 0, 0, 0), (2, .aload_n 0, 0, 0), (3, .iload_n 1, 0, 0), (4, .iload_n 2, 0, 0), (5, .invokevirtual 36, 116, 2), (8, .i2l, 0, 0), (9, .lastore, 0, 0), (10, .goto 7, 0, 0), (13, .astore 4, 0, 0), (15, .iconst 1, 0, 0), (16, .ireturn, 0, 0), (17, .iconst 0, 0, 0), (18, .ireturn, 0, 0)])
/-- WitnessBenchLaw.distance(LWitnessBench;IIII[J)I -/
def ev_m216 : ev_M := (⟨"WitnessBenchLaw", "distance", "(LWitnessBench;IIII[J)I"⟩, method_9_code, 7, some .int, [(0, 14, 17, 25)],
  [(0, .aload 5, 0, 0), (2, .iconst 0, 0, 0), (3, .aload_n 0, 0, 0), (4, .iload_n 1, 0, 0), (5, .iload_n 2, 0, 0), (6, .iload_n 3, 0, 0), (7, .iload 4, 0, 0), (9, .invokevirtual 40, 117, 4), (12, .i2l, 0, 0), (13, .lastore, 0, 0), (14, .goto 7, 0, 0), (17, .astore 6, 0, 0), (19, .iconst 1, 0, 0), (20, .ireturn, 0, 0), (21, .iconst 0, 0, 0), (22, .ireturn, 0, 0)])
/-- WitnessBenchLaw.join(LWitnessBench;I[J)I -/
def ev_m217 : ev_M := (⟨"WitnessBenchLaw", "join", "(LWitnessBench;I[J)I"⟩, method_10_code, 4, some .int, [(0, 9, 12, 25), (0, 9, 15, 15), (0, 9, 18, 27)],
  [(0, .aload_n 2, 0, 0), (1, .iconst 0, 0, 0), (2, .aload_n 0, 0, 0), (3, .iload_n 1, 0, 0), (4, .invokevirtual 43, 118, 1), (7, .i2l, 0, 0), (8, .lastore, 0, 0), (9, .goto 12, 0, 0), (12, .astore_n 3, 0, 0), (13, .iconst 1, 0, 0), (14, .ireturn, 0, 0), (15, .astore_n 3, 0, 0), (16, .iconst 2, 0, 0), (17, .ireturn, 0, 0), (18, .astore_n 3, 0, 0), (19, .iconst 3, 0, 0), (20, .ireturn, 0, 0), (21, .iconst 0, 0, 0), (22, .ireturn, 0, 0)])
/-- WitnessBenchLaw.retract(LWitnessBench;[J)I -/
def ev_m218 : ev_M := (⟨"WitnessBenchLaw", "retract", "(LWitnessBench;[J)I"⟩, method_11_code, 3, some .int, [(0, 8, 11, 15)],
  [(0, .aload_n 1, 0, 0), (1, .iconst 0, 0, 0), (2, .aload_n 0, 0, 0), (3, .invokevirtual 46, 119, 0), (6, .i2l, 0, 0), (7, .lastore, 0, 0), (8, .goto 6, 0, 0), (11, .astore_n 2, 0, 0), (12, .iconst 1, 0, 0), (13, .ireturn, 0, 0), (14, .iconst 0, 0, 0), (15, .ireturn, 0, 0)])
/-- WitnessBenchLaw.at(LWitnessBench;II[J)I -/
def ev_m219 : ev_M := (⟨"WitnessBenchLaw", "at", "(LWitnessBench;II[J)I"⟩, method_12_code, 5, some .int, [(0, 10, 13, 25)],
  [(0, .aload_n 3, 0, 0), (1, .iconst 0, 0, 0), (2, .aload_n 0, 0, 0), (3, .iload_n 1, 0, 0), (4, .iload_n 2, 0, 0), (5, .invokevirtual 50, 120, 2), (8, .i2l, 0, 0), (9, .lastore, 0, 0), (10, .goto 7, 0, 0), (13, .astore 4, 0, 0), (15, .iconst 1, 0, 0), (16, .ireturn, 0, 0), (17, .iconst 0, 0, 0), (18, .ireturn, 0, 0)])
/-- WitnessBenchLaw.beside(LWitnessBench;III[J)I -/
def ev_m220 : ev_M := (⟨"WitnessBenchLaw", "beside", "(LWitnessBench;III[J)I"⟩, method_13_code, 6, some .int, [(0, 12, 15, 25)],
  [(0, .aload 4, 0, 0), (2, .iconst 0, 0, 0), (3, .aload_n 0, 0, 0), (4, .iload_n 1, 0, 0), (5, .iload_n 2, 0, 0), (6, .iload_n 3, 0, 0), (7, .invokevirtual 53, 122, 3), (10, .i2l, 0, 0), (11, .lastore, 0, 0), (12, .goto 7, 0, 0), (15, .astore 5, 0, 0), (17, .iconst 1, 0, 0), (18, .ireturn, 0, 0), (19, .iconst 0, 0, 0), (20, .ireturn, 0, 0)])
/-- WitnessBenchLaw.base(LWitnessBench;I)I -/
def ev_m221 : ev_M := (⟨"WitnessBenchLaw", "base", "(LWitnessBench;I)I"⟩, method_14_code, 3, some .int, [(0, 5, 8, 25), (0, 5, 11, 15)],
  [(0, .aload_n 0, 0, 0), (1, .iload_n 1, 0, 0), (2, .invokevirtual 57, 123, 1), (5, .goto 9, 0, 0), (8, .astore_n 2, 0, 0), (9, .iconst 1, 0, 0), (10, .ireturn, 0, 0), (11, .astore_n 2, 0, 0), (12, .iconst 2, 0, 0), (13, .ireturn, 0, 0), (14, .iconst 0, 0, 0), (15, .ireturn, 0, 0)])
/-- WitnessBenchLaw.choose(LWitnessBench;II)I -/
def ev_m222 : ev_M := (⟨"WitnessBenchLaw", "choose", "(LWitnessBench;II)I"⟩, method_15_code, 4, some .int, [(0, 6, 9, 25), (0, 6, 12, 15)],
  [(0, .aload_n 0, 0, 0), (1, .iload_n 1, 0, 0), (2, .iload_n 2, 0, 0), (3, .invokevirtual 60, 125, 2), (6, .goto 9, 0, 0), (9, .astore_n 3, 0, 0), (10, .iconst 1, 0, 0), (11, .ireturn, 0, 0), (12, .astore_n 3, 0, 0), (13, .iconst 2, 0, 0), (14, .ireturn, 0, 0), (15, .iconst 0, 0, 0), (16, .ireturn, 0, 0)])
/-- WitnessBenchLaw.out(LWitnessBench;I[J)I -/
def ev_m223 : ev_M := (⟨"WitnessBenchLaw", "out", "(LWitnessBench;I[J)I"⟩, method_16_code, 4, some .int, [(0, 9, 12, 25)],
  [(0, .aload_n 2, 0, 0), (1, .iconst 0, 0, 0), (2, .aload_n 0, 0, 0), (3, .iload_n 1, 0, 0), (4, .invokevirtual 64, 126, 1), (7, .i2l, 0, 0), (8, .lastore, 0, 0), (9, .goto 6, 0, 0), (12, .astore_n 3, 0, 0), (13, .iconst 1, 0, 0), (14, .ireturn, 0, 0), (15, .iconst 0, 0, 0), (16, .ireturn, 0, 0)])
/-- WitnessBenchLaw.amend(LWitnessBench;IC)I -/
def ev_m224 : ev_M := (⟨"WitnessBenchLaw", "amend", "(LWitnessBench;IC)I"⟩, method_17_code, 4, some .int, [(0, 6, 9, 25)],
  [(0, .aload_n 0, 0, 0), (1, .iload_n 1, 0, 0), (2, .iload_n 2, 0, 0), (3, .invokevirtual 67, 128, 2), (6, .goto 6, 0, 0), (9, .astore_n 3, 0, 0), (10, .iconst 1, 0, 0), (11, .ireturn, 0, 0), (12, .iconst 0, 0, 0), (13, .ireturn, 0, 0)])
/-- WitnessBenchLaw.rebuild(LWitnessBench;I[J)I -/
def ev_m225 : ev_M := (⟨"WitnessBenchLaw", "rebuild", "(LWitnessBench;I[J)I"⟩, method_18_code, 4, some .int, [(0, 9, 12, 25), (0, 9, 15, 15)],
  [(0, .aload_n 2, 0, 0), (1, .iconst 0, 0, 0), (2, .aload_n 0, 0, 0), (3, .iload_n 1, 0, 0), (4, .invokevirtual 71, 129, 1), (7, .i2l, 0, 0), (8, .lastore, 0, 0), (9, .goto 9, 0, 0), (12, .astore_n 3, 0, 0), (13, .iconst 1, 0, 0), (14, .ireturn, 0, 0), (15, .astore_n 3, 0, 0), (16, .iconst 2, 0, 0), (17, .ireturn, 0, 0), (18, .iconst 0, 0, 0), (19, .ireturn, 0, 0)])
/-- WitnessBenchLaw.found(LWitnessBench;I[J)I -/
def ev_m226 : ev_M := (⟨"WitnessBenchLaw", "found", "(LWitnessBench;I[J)I"⟩, method_19_code, 4, some .int, [(0, 9, 12, 25)],
  [(0, .aload_n 2, 0, 0), (1, .iconst 0, 0, 0), (2, .aload_n 0, 0, 0), (3, .iload_n 1, 0, 0), (4, .invokevirtual 74, 130, 1), (7, .i2l, 0, 0), (8, .lastore, 0, 0), (9, .goto 6, 0, 0), (12, .astore_n 3, 0, 0), (13, .iconst 1, 0, 0), (14, .ireturn, 0, 0), (15, .iconst 0, 0, 0), (16, .ireturn, 0, 0)])
/-- WitnessBenchLaw.blocks(LWitnessBench;II[J)I -/
def ev_m227 : ev_M := (⟨"WitnessBenchLaw", "blocks", "(LWitnessBench;II[J)I"⟩, method_20_code, 5, some .int, [(0, 10, 13, 25), (0, 10, 17, 13), (0, 10, 21, 15)],
  [(0, .aload_n 3, 0, 0), (1, .iconst 0, 0, 0), (2, .aload_n 0, 0, 0), (3, .iload_n 1, 0, 0), (4, .iload_n 2, 0, 0), (5, .invokevirtual 77, 131, 2), (8, .i2l, 0, 0), (9, .lastore, 0, 0), (10, .goto 15, 0, 0), (13, .astore 4, 0, 0), (15, .iconst 1, 0, 0), (16, .ireturn, 0, 0), (17, .astore 4, 0, 0), (19, .iconst 2, 0, 0), (20, .ireturn, 0, 0), (21, .astore 4, 0, 0), (23, .iconst 3, 0, 0), (24, .ireturn, 0, 0), (25, .iconst 0, 0, 0), (26, .ireturn, 0, 0)])
/-- WitnessBenchLaw.block(LWitnessBench;II[J)I -/
def ev_m228 : ev_M := (⟨"WitnessBenchLaw", "block", "(LWitnessBench;II[J)I"⟩, method_21_code, 5, some .int, [(0, 10, 13, 25)],
  [(0, .aload_n 3, 0, 0), (1, .iconst 0, 0, 0), (2, .aload_n 0, 0, 0), (3, .iload_n 1, 0, 0), (4, .iload_n 2, 0, 0), (5, .invokevirtual 80, 132, 2), (8, .i2l, 0, 0), (9, .lastore, 0, 0), (10, .goto 7, 0, 0), (13, .astore 4, 0, 0), (15, .iconst 1, 0, 0), (16, .ireturn, 0, 0), (17, .iconst 0, 0, 0), (18, .ireturn, 0, 0)])
/-- WitnessBenchLaw.parent(LWitnessBench;II)I -/
def ev_m229 : ev_M := (⟨"WitnessBenchLaw", "parent", "(LWitnessBench;II)I"⟩, method_22_code, 4, some .int, [(0, 6, 9, 25), (0, 6, 12, 15)],
  [(0, .aload_n 0, 0, 0), (1, .iload_n 1, 0, 0), (2, .iload_n 2, 0, 0), (3, .invokevirtual 83, 133, 2), (6, .goto 9, 0, 0), (9, .astore_n 3, 0, 0), (10, .iconst 1, 0, 0), (11, .ireturn, 0, 0), (12, .astore_n 3, 0, 0), (13, .iconst 2, 0, 0), (14, .ireturn, 0, 0), (15, .iconst 0, 0, 0), (16, .ireturn, 0, 0)])
/-- WitnessBenchLaw.changes(LWitnessBench;I[J)I -/
def ev_m230 : ev_M := (⟨"WitnessBenchLaw", "changes", "(LWitnessBench;I[J)I"⟩, method_23_code, 4, some .int, [(0, 9, 12, 25)],
  [(0, .aload_n 2, 0, 0), (1, .iconst 0, 0, 0), (2, .aload_n 0, 0, 0), (3, .iload_n 1, 0, 0), (4, .invokevirtual 86, 134, 1), (7, .i2l, 0, 0), (8, .lastore, 0, 0), (9, .goto 6, 0, 0), (12, .astore_n 3, 0, 0), (13, .iconst 1, 0, 0), (14, .ireturn, 0, 0), (15, .iconst 0, 0, 0), (16, .ireturn, 0, 0)])
def ev_law0 : List (Nat × Instr × Nat × Nat) := [(0, .new 8, 9, 0), (3, .dup, 0, 0), (4, .invokespecial 89, 103, 0), (7, .astore_n 1, 0, 0), (8, .new 90, 10, 0), (11, .dup, 0, 0), (12, .invokespecial 92, 135, 0), (15, .astore_n 2, 0, 0), (16, .iconst 1, 0, 0), (17, .newarray .long, 0, 0), (19, .astore_n 3, 0, 0), (20, .iconst 0, 0, 0), (21, .istore 4, 0, 0), (23, .iload 4, 0, 0), (25, .aload_n 0, 0, 0), (26, .arraylength, 0, 0), (27, .iconst 5, 0, 0), (28, .isub, 0, 0), (29, .if_icmp .gt 1481, 0, 0), (32, .aload_n 0, 0, 0), (33, .iload 4, 0, 0), (35, .iaload, 0, 0), (36, .bipush 31, 0, 0), (38, .iand, 0, 0), (39, .tableswitch 1465 0 24 #[113, 171, 207, 263, 319, 411, 479, 571, 627, 671, 684, 752, 832, 868, 916, 957, 1013, 1063, 1119, 1156, 1169, 1225, 1293, 1361, 1409], 113, 0), (152, .aload_n 1, 0, 0), (153, .aload_n 0, 0, 0), (154, .iload 4, 0, 0), (156, .iconst 1, 0, 0), (157, .iadd, 0, 0), (158, .iaload, 0, 0), (159, .i2c, 0, 0), (160, .aload_n 3, 0, 0), (161, .invokestatic 93, 210, 3), (164, .istore 5, 0, 0), (166, .aload_n 2, 0, 0), (167, .aload_n 0, 0, 0), (168, .iload 4, 0, 0), (170, .iconst 1, 0, 0), (171, .iadd, 0, 0), (172, .iaload, 0, 0), (173, .i2c, 0, 0), (174, .invokevirtual 98, 137, 1), (177, .istore 6, 0, 0), (179, .aload_n 2, 0, 0), (180, .invokevirtual 99, 136, 0), (183, .iload 5, 0, 0), (185, .if_icmp .eq 5, 0, 0), (188, .iconst 0, 0, 0), (189, .ireturn, 0, 0)]
def ev_law1 : List (Nat × Instr × Nat × Nat) := [(190, .iload 5, 0, 0), (192, .ifCond .ne 15, 0, 0), (195, .aload_n 3, 0, 0), (196, .iconst 0, 0, 0), (197, .laload, 0, 0), (198, .iload 6, 0, 0), (200, .i2l, 0, 0), (201, .lcmp, 0, 0), (202, .ifCond .eq 5, 0, 0), (205, .iconst 0, 0, 0), (206, .ireturn, 0, 0), (207, .goto 1297, 0, 0), (210, .aload_n 1, 0, 0), (211, .aload_n 0, 0, 0), (212, .iload 4, 0, 0), (214, .iconst 1, 0, 0), (215, .iadd, 0, 0), (216, .iaload, 0, 0), (217, .invokestatic 102, 211, 2), (220, .istore 5, 0, 0), (222, .aload_n 2, 0, 0), (223, .aload_n 0, 0, 0), (224, .iload 4, 0, 0), (226, .iconst 1, 0, 0), (227, .iadd, 0, 0), (228, .iaload, 0, 0), (229, .invokevirtual 105, 138, 1), (232, .aload_n 2, 0, 0), (233, .invokevirtual 99, 136, 0), (236, .iload 5, 0, 0), (238, .if_icmp .eq 5, 0, 0), (241, .iconst 0, 0, 0), (242, .ireturn, 0, 0), (243, .goto 1261, 0, 0), (246, .aload_n 1, 0, 0), (247, .aload_n 0, 0, 0), (248, .iload 4, 0, 0), (250, .iconst 1, 0, 0), (251, .iadd, 0, 0), (252, .iaload, 0, 0), (253, .aload_n 3, 0, 0), (254, .invokestatic 106, 212, 3), (257, .istore 5, 0, 0), (259, .aload_n 2, 0, 0), (260, .aload_n 0, 0, 0), (261, .iload 4, 0, 0), (263, .iconst 1, 0, 0), (264, .iadd, 0, 0), (265, .iaload, 0, 0), (266, .invokevirtual 109, 139, 1)]
def ev_law2 : List (Nat × Instr × Nat × Nat) := [(269, .istore 6, 0, 0), (271, .aload_n 2, 0, 0), (272, .invokevirtual 99, 136, 0), (275, .iload 5, 0, 0), (277, .if_icmp .eq 5, 0, 0), (280, .iconst 0, 0, 0), (281, .ireturn, 0, 0), (282, .iload 5, 0, 0), (284, .ifCond .ne 15, 0, 0), (287, .aload_n 3, 0, 0), (288, .iconst 0, 0, 0), (289, .laload, 0, 0), (290, .iload 6, 0, 0), (292, .i2l, 0, 0), (293, .lcmp, 0, 0), (294, .ifCond .eq 5, 0, 0), (297, .iconst 0, 0, 0), (298, .ireturn, 0, 0), (299, .goto 1205, 0, 0), (302, .aload_n 1, 0, 0), (303, .aload_n 0, 0, 0), (304, .iload 4, 0, 0), (306, .iconst 1, 0, 0), (307, .iadd, 0, 0), (308, .iaload, 0, 0), (309, .aload_n 3, 0, 0), (310, .invokestatic 110, 213, 3), (313, .istore 5, 0, 0), (315, .aload_n 2, 0, 0), (316, .aload_n 0, 0, 0), (317, .iload 4, 0, 0), (319, .iconst 1, 0, 0), (320, .iadd, 0, 0), (321, .iaload, 0, 0), (322, .invokevirtual 112, 151, 1), (325, .istore 6, 0, 0), (327, .aload_n 2, 0, 0), (328, .invokevirtual 99, 136, 0), (331, .iload 5, 0, 0), (333, .if_icmp .eq 5, 0, 0), (336, .iconst 0, 0, 0), (337, .ireturn, 0, 0), (338, .iload 5, 0, 0), (340, .ifCond .ne 15, 0, 0), (343, .aload_n 3, 0, 0), (344, .iconst 0, 0, 0), (345, .laload, 0, 0), (346, .iload 6, 0, 0), (348, .i2l, 0, 0), (349, .lcmp, 0, 0)]
def ev_law3 : List (Nat × Instr × Nat × Nat) := [(350, .ifCond .eq 5, 0, 0), (353, .iconst 0, 0, 0), (354, .ireturn, 0, 0), (355, .goto 1149, 0, 0), (358, .aload_n 1, 0, 0), (359, .aload_n 0, 0, 0), (360, .iload 4, 0, 0), (362, .iconst 1, 0, 0), (363, .iadd, 0, 0), (364, .iaload, 0, 0), (365, .aload_n 0, 0, 0), (366, .iload 4, 0, 0), (368, .iconst 2, 0, 0), (369, .iadd, 0, 0), (370, .iaload, 0, 0), (371, .aload_n 0, 0, 0), (372, .iload 4, 0, 0), (374, .iconst 3, 0, 0), (375, .iadd, 0, 0), (376, .iaload, 0, 0), (377, .aload_n 0, 0, 0), (378, .iload 4, 0, 0), (380, .iconst 4, 0, 0), (381, .iadd, 0, 0), (382, .iaload, 0, 0), (383, .aload_n 3, 0, 0), (384, .invokestatic 113, 214, 6), (387, .istore 5, 0, 0), (389, .aload_n 2, 0, 0), (390, .aload_n 0, 0, 0), (391, .iload 4, 0, 0), (393, .iconst 1, 0, 0), (394, .iadd, 0, 0), (395, .iaload, 0, 0), (396, .aload_n 0, 0, 0), (397, .iload 4, 0, 0), (399, .iconst 2, 0, 0), (400, .iadd, 0, 0), (401, .iaload, 0, 0), (402, .aload_n 0, 0, 0), (403, .iload 4, 0, 0), (405, .iconst 3, 0, 0), (406, .iadd, 0, 0), (407, .iaload, 0, 0), (408, .aload_n 0, 0, 0), (409, .iload 4, 0, 0), (411, .iconst 4, 0, 0), (412, .iadd, 0, 0), (413, .iaload, 0, 0), (414, .invokevirtual 116, 152, 4)]
def ev_law4 : List (Nat × Instr × Nat × Nat) := [(417, .istore 6, 0, 0), (419, .aload_n 2, 0, 0), (420, .invokevirtual 99, 136, 0), (423, .iload 5, 0, 0), (425, .if_icmp .eq 5, 0, 0), (428, .iconst 0, 0, 0), (429, .ireturn, 0, 0), (430, .iload 5, 0, 0), (432, .ifCond .ne 15, 0, 0), (435, .aload_n 3, 0, 0), (436, .iconst 0, 0, 0), (437, .laload, 0, 0), (438, .iload 6, 0, 0), (440, .i2l, 0, 0), (441, .lcmp, 0, 0), (442, .ifCond .eq 5, 0, 0), (445, .iconst 0, 0, 0), (446, .ireturn, 0, 0), (447, .goto 1057, 0, 0), (450, .aload_n 1, 0, 0), (451, .aload_n 0, 0, 0), (452, .iload 4, 0, 0), (454, .iconst 1, 0, 0), (455, .iadd, 0, 0), (456, .iaload, 0, 0), (457, .aload_n 0, 0, 0), (458, .iload 4, 0, 0), (460, .iconst 2, 0, 0), (461, .iadd, 0, 0), (462, .iaload, 0, 0), (463, .aload_n 3, 0, 0), (464, .invokestatic 117, 215, 4), (467, .istore 5, 0, 0), (469, .aload_n 2, 0, 0), (470, .aload_n 0, 0, 0), (471, .iload 4, 0, 0), (473, .iconst 1, 0, 0), (474, .iadd, 0, 0), (475, .iaload, 0, 0), (476, .aload_n 0, 0, 0), (477, .iload 4, 0, 0), (479, .iconst 2, 0, 0), (480, .iadd, 0, 0), (481, .iaload, 0, 0), (482, .invokevirtual 120, 154, 2), (485, .istore 6, 0, 0), (487, .aload_n 2, 0, 0), (488, .invokevirtual 99, 136, 0), (491, .iload 5, 0, 0), (493, .if_icmp .eq 5, 0, 0)]
def ev_law5 : List (Nat × Instr × Nat × Nat) := [(496, .iconst 0, 0, 0), (497, .ireturn, 0, 0), (498, .iload 5, 0, 0), (500, .ifCond .ne 15, 0, 0), (503, .aload_n 3, 0, 0), (504, .iconst 0, 0, 0), (505, .laload, 0, 0), (506, .iload 6, 0, 0), (508, .i2l, 0, 0), (509, .lcmp, 0, 0), (510, .ifCond .eq 5, 0, 0), (513, .iconst 0, 0, 0), (514, .ireturn, 0, 0), (515, .goto 989, 0, 0), (518, .aload_n 1, 0, 0), (519, .aload_n 0, 0, 0), (520, .iload 4, 0, 0), (522, .iconst 1, 0, 0), (523, .iadd, 0, 0), (524, .iaload, 0, 0), (525, .aload_n 0, 0, 0), (526, .iload 4, 0, 0), (528, .iconst 2, 0, 0), (529, .iadd, 0, 0), (530, .iaload, 0, 0), (531, .aload_n 0, 0, 0), (532, .iload 4, 0, 0), (534, .iconst 3, 0, 0), (535, .iadd, 0, 0), (536, .iaload, 0, 0), (537, .aload_n 0, 0, 0), (538, .iload 4, 0, 0), (540, .iconst 4, 0, 0), (541, .iadd, 0, 0), (542, .iaload, 0, 0), (543, .aload_n 3, 0, 0), (544, .invokestatic 121, 216, 6), (547, .istore 5, 0, 0), (549, .aload_n 2, 0, 0), (550, .aload_n 0, 0, 0), (551, .iload 4, 0, 0), (553, .iconst 1, 0, 0), (554, .iadd, 0, 0), (555, .iaload, 0, 0), (556, .aload_n 0, 0, 0), (557, .iload 4, 0, 0), (559, .iconst 2, 0, 0), (560, .iadd, 0, 0), (561, .iaload, 0, 0), (562, .aload_n 0, 0, 0)]
def ev_law6 : List (Nat × Instr × Nat × Nat) := [(563, .iload 4, 0, 0), (565, .iconst 3, 0, 0), (566, .iadd, 0, 0), (567, .iaload, 0, 0), (568, .aload_n 0, 0, 0), (569, .iload 4, 0, 0), (571, .iconst 4, 0, 0), (572, .iadd, 0, 0), (573, .iaload, 0, 0), (574, .invokevirtual 123, 155, 4), (577, .istore 6, 0, 0), (579, .aload_n 2, 0, 0), (580, .invokevirtual 99, 136, 0), (583, .iload 5, 0, 0), (585, .if_icmp .eq 5, 0, 0), (588, .iconst 0, 0, 0), (589, .ireturn, 0, 0), (590, .iload 5, 0, 0), (592, .ifCond .ne 15, 0, 0), (595, .aload_n 3, 0, 0), (596, .iconst 0, 0, 0), (597, .laload, 0, 0), (598, .iload 6, 0, 0), (600, .i2l, 0, 0), (601, .lcmp, 0, 0), (602, .ifCond .eq 5, 0, 0), (605, .iconst 0, 0, 0), (606, .ireturn, 0, 0), (607, .goto 897, 0, 0), (610, .aload_n 1, 0, 0), (611, .aload_n 0, 0, 0), (612, .iload 4, 0, 0), (614, .iconst 1, 0, 0), (615, .iadd, 0, 0), (616, .iaload, 0, 0), (617, .aload_n 3, 0, 0), (618, .invokestatic 124, 217, 3), (621, .istore 5, 0, 0), (623, .aload_n 2, 0, 0), (624, .aload_n 0, 0, 0), (625, .iload 4, 0, 0), (627, .iconst 1, 0, 0), (628, .iadd, 0, 0), (629, .iaload, 0, 0), (630, .invokevirtual 126, 159, 1), (633, .istore 6, 0, 0), (635, .aload_n 2, 0, 0), (636, .invokevirtual 99, 136, 0), (639, .iload 5, 0, 0), (641, .if_icmp .eq 5, 0, 0)]
def ev_law7 : List (Nat × Instr × Nat × Nat) := [(644, .iconst 0, 0, 0), (645, .ireturn, 0, 0), (646, .iload 5, 0, 0), (648, .ifCond .ne 15, 0, 0), (651, .aload_n 3, 0, 0), (652, .iconst 0, 0, 0), (653, .laload, 0, 0), (654, .iload 6, 0, 0), (656, .i2l, 0, 0), (657, .lcmp, 0, 0), (658, .ifCond .eq 5, 0, 0), (661, .iconst 0, 0, 0), (662, .ireturn, 0, 0), (663, .goto 841, 0, 0), (666, .aload_n 1, 0, 0), (667, .aload_n 3, 0, 0), (668, .invokestatic 127, 218, 2), (671, .istore 5, 0, 0), (673, .aload_n 2, 0, 0), (674, .invokevirtual 130, 168, 0), (677, .istore 6, 0, 0), (679, .aload_n 2, 0, 0), (680, .invokevirtual 99, 136, 0), (683, .iload 5, 0, 0), (685, .if_icmp .eq 5, 0, 0), (688, .iconst 0, 0, 0), (689, .ireturn, 0, 0), (690, .iload 5, 0, 0), (692, .ifCond .ne 15, 0, 0), (695, .aload_n 3, 0, 0), (696, .iconst 0, 0, 0), (697, .laload, 0, 0), (698, .iload 6, 0, 0), (700, .i2l, 0, 0), (701, .lcmp, 0, 0), (702, .ifCond .eq 5, 0, 0), (705, .iconst 0, 0, 0), (706, .ireturn, 0, 0), (707, .goto 797, 0, 0), (710, .aload_n 1, 0, 0), (711, .invokevirtual 131, 104, 0), (714, .aload_n 2, 0, 0), (715, .invokevirtual 134, 169, 0), (718, .if_icmp .eq 786, 0, 0), (721, .iconst 0, 0, 0), (722, .ireturn, 0, 0), (723, .aload_n 1, 0, 0), (724, .aload_n 0, 0, 0), (725, .iload 4, 0, 0), (727, .iconst 1, 0, 0)]
def ev_law8 : List (Nat × Instr × Nat × Nat) := [(728, .iadd, 0, 0), (729, .iaload, 0, 0), (730, .aload_n 0, 0, 0), (731, .iload 4, 0, 0), (733, .iconst 2, 0, 0), (734, .iadd, 0, 0), (735, .iaload, 0, 0), (736, .aload_n 3, 0, 0), (737, .invokestatic 135, 219, 4), (740, .istore 5, 0, 0), (742, .aload_n 2, 0, 0), (743, .aload_n 0, 0, 0), (744, .iload 4, 0, 0), (746, .iconst 1, 0, 0), (747, .iadd, 0, 0), (748, .iaload, 0, 0), (749, .aload_n 0, 0, 0), (750, .iload 4, 0, 0), (752, .iconst 2, 0, 0), (753, .iadd, 0, 0), (754, .iaload, 0, 0), (755, .invokevirtual 137, 170, 2), (758, .istore 6, 0, 0), (760, .aload_n 2, 0, 0), (761, .invokevirtual 99, 136, 0), (764, .iload 5, 0, 0), (766, .if_icmp .eq 5, 0, 0), (769, .iconst 0, 0, 0), (770, .ireturn, 0, 0), (771, .iload 5, 0, 0), (773, .ifCond .ne 15, 0, 0), (776, .aload_n 3, 0, 0), (777, .iconst 0, 0, 0), (778, .laload, 0, 0), (779, .iload 6, 0, 0), (781, .i2l, 0, 0), (782, .lcmp, 0, 0), (783, .ifCond .eq 5, 0, 0), (786, .iconst 0, 0, 0), (787, .ireturn, 0, 0), (788, .goto 716, 0, 0), (791, .aload_n 1, 0, 0), (792, .aload_n 0, 0, 0), (793, .iload 4, 0, 0), (795, .iconst 1, 0, 0), (796, .iadd, 0, 0), (797, .iaload, 0, 0), (798, .aload_n 0, 0, 0), (799, .iload 4, 0, 0), (801, .iconst 2, 0, 0)]
def ev_law9 : List (Nat × Instr × Nat × Nat) := [(802, .iadd, 0, 0), (803, .iaload, 0, 0), (804, .aload_n 0, 0, 0), (805, .iload 4, 0, 0), (807, .iconst 3, 0, 0), (808, .iadd, 0, 0), (809, .iaload, 0, 0), (810, .aload_n 3, 0, 0), (811, .invokestatic 138, 220, 5), (814, .istore 5, 0, 0), (816, .aload_n 2, 0, 0), (817, .aload_n 0, 0, 0), (818, .iload 4, 0, 0), (820, .iconst 1, 0, 0), (821, .iadd, 0, 0), (822, .iaload, 0, 0), (823, .aload_n 0, 0, 0), (824, .iload 4, 0, 0), (826, .iconst 2, 0, 0), (827, .iadd, 0, 0), (828, .iaload, 0, 0), (829, .aload_n 0, 0, 0), (830, .iload 4, 0, 0), (832, .iconst 3, 0, 0), (833, .iadd, 0, 0), (834, .iaload, 0, 0), (835, .invokevirtual 141, 172, 3), (838, .istore 6, 0, 0), (840, .aload_n 2, 0, 0), (841, .invokevirtual 99, 136, 0), (844, .iload 5, 0, 0), (846, .if_icmp .eq 5, 0, 0), (849, .iconst 0, 0, 0), (850, .ireturn, 0, 0), (851, .iload 5, 0, 0), (853, .ifCond .ne 15, 0, 0), (856, .aload_n 3, 0, 0), (857, .iconst 0, 0, 0), (858, .laload, 0, 0), (859, .iload 6, 0, 0), (861, .i2l, 0, 0), (862, .lcmp, 0, 0), (863, .ifCond .eq 5, 0, 0), (866, .iconst 0, 0, 0), (867, .ireturn, 0, 0), (868, .goto 636, 0, 0), (871, .aload_n 1, 0, 0), (872, .aload_n 0, 0, 0), (873, .iload 4, 0, 0), (875, .iconst 1, 0, 0)]
def ev_law10 : List (Nat × Instr × Nat × Nat) := [(876, .iadd, 0, 0), (877, .iaload, 0, 0), (878, .invokestatic 142, 221, 2), (881, .istore 5, 0, 0), (883, .aload_n 2, 0, 0), (884, .aload_n 0, 0, 0), (885, .iload 4, 0, 0), (887, .iconst 1, 0, 0), (888, .iadd, 0, 0), (889, .iaload, 0, 0), (890, .invokevirtual 144, 174, 1), (893, .aload_n 2, 0, 0), (894, .invokevirtual 99, 136, 0), (897, .iload 5, 0, 0), (899, .if_icmp .eq 5, 0, 0), (902, .iconst 0, 0, 0), (903, .ireturn, 0, 0), (904, .goto 600, 0, 0), (907, .aload_n 1, 0, 0), (908, .aload_n 0, 0, 0), (909, .iload 4, 0, 0), (911, .iconst 1, 0, 0), (912, .iadd, 0, 0), (913, .iaload, 0, 0), (914, .aload_n 0, 0, 0), (915, .iload 4, 0, 0), (917, .iconst 2, 0, 0), (918, .iadd, 0, 0), (919, .iaload, 0, 0), (920, .invokestatic 145, 222, 3), (923, .istore 5, 0, 0), (925, .aload_n 2, 0, 0), (926, .aload_n 0, 0, 0), (927, .iload 4, 0, 0), (929, .iconst 1, 0, 0), (930, .iadd, 0, 0), (931, .iaload, 0, 0), (932, .aload_n 0, 0, 0), (933, .iload 4, 0, 0), (935, .iconst 2, 0, 0), (936, .iadd, 0, 0), (937, .iaload, 0, 0), (938, .invokevirtual 148, 175, 2), (941, .aload_n 2, 0, 0), (942, .invokevirtual 99, 136, 0), (945, .iload 5, 0, 0), (947, .if_icmp .eq 5, 0, 0), (950, .iconst 0, 0, 0), (951, .ireturn, 0, 0), (952, .goto 552, 0, 0)]
def ev_law11 : List (Nat × Instr × Nat × Nat) := [(955, .aload_n 1, 0, 0), (956, .aload_n 0, 0, 0), (957, .iload 4, 0, 0), (959, .iconst 1, 0, 0), (960, .iadd, 0, 0), (961, .iaload, 0, 0), (962, .ifCond .eq 7, 0, 0), (965, .iconst 1, 0, 0), (966, .goto 4, 0, 0), (969, .iconst 0, 0, 0), (970, .invokevirtual 149, 105, 1), (973, .aload_n 2, 0, 0), (974, .aload_n 0, 0, 0), (975, .iload 4, 0, 0), (977, .iconst 1, 0, 0), (978, .iadd, 0, 0), (979, .iaload, 0, 0), (980, .ifCond .eq 7, 0, 0), (983, .iconst 1, 0, 0), (984, .goto 4, 0, 0), (987, .iconst 0, 0, 0), (988, .invokevirtual 153, 176, 1), (991, .if_icmp .eq 513, 0, 0), (994, .iconst 0, 0, 0), (995, .ireturn, 0, 0), (996, .aload_n 1, 0, 0), (997, .aload_n 0, 0, 0), (998, .iload 4, 0, 0), (1000, .iconst 1, 0, 0), (1001, .iadd, 0, 0), (1002, .iaload, 0, 0), (1003, .aload_n 3, 0, 0), (1004, .invokestatic 154, 223, 3), (1007, .istore 5, 0, 0), (1009, .aload_n 2, 0, 0), (1010, .aload_n 0, 0, 0), (1011, .iload 4, 0, 0), (1013, .iconst 1, 0, 0), (1014, .iadd, 0, 0), (1015, .iaload, 0, 0), (1016, .invokevirtual 156, 184, 1), (1019, .istore 6, 0, 0), (1021, .aload_n 2, 0, 0), (1022, .invokevirtual 99, 136, 0), (1025, .iload 5, 0, 0), (1027, .if_icmp .eq 5, 0, 0), (1030, .iconst 0, 0, 0), (1031, .ireturn, 0, 0), (1032, .iload 5, 0, 0), (1034, .ifCond .ne 15, 0, 0)]
def ev_law12 : List (Nat × Instr × Nat × Nat) := [(1037, .aload_n 3, 0, 0), (1038, .iconst 0, 0, 0), (1039, .laload, 0, 0), (1040, .iload 6, 0, 0), (1042, .i2l, 0, 0), (1043, .lcmp, 0, 0), (1044, .ifCond .eq 5, 0, 0), (1047, .iconst 0, 0, 0), (1048, .ireturn, 0, 0), (1049, .goto 455, 0, 0), (1052, .aload_n 1, 0, 0), (1053, .aload_n 0, 0, 0), (1054, .iload 4, 0, 0), (1056, .iconst 1, 0, 0), (1057, .iadd, 0, 0), (1058, .iaload, 0, 0), (1059, .aload_n 0, 0, 0), (1060, .iload 4, 0, 0), (1062, .iconst 2, 0, 0), (1063, .iadd, 0, 0), (1064, .iaload, 0, 0), (1065, .i2c, 0, 0), (1066, .invokestatic 157, 224, 3), (1069, .istore 5, 0, 0), (1071, .aload_n 2, 0, 0), (1072, .aload_n 0, 0, 0), (1073, .iload 4, 0, 0), (1075, .iconst 1, 0, 0), (1076, .iadd, 0, 0), (1077, .iaload, 0, 0), (1078, .aload_n 0, 0, 0), (1079, .iload 4, 0, 0), (1081, .iconst 2, 0, 0), (1082, .iadd, 0, 0), (1083, .iaload, 0, 0), (1084, .i2c, 0, 0), (1085, .invokevirtual 160, 185, 2), (1088, .aload_n 2, 0, 0), (1089, .invokevirtual 99, 136, 0), (1092, .iload 5, 0, 0), (1094, .if_icmp .eq 5, 0, 0), (1097, .iconst 0, 0, 0), (1098, .ireturn, 0, 0), (1099, .goto 405, 0, 0), (1102, .aload_n 1, 0, 0), (1103, .aload_n 0, 0, 0), (1104, .iload 4, 0, 0), (1106, .iconst 1, 0, 0), (1107, .iadd, 0, 0), (1108, .iaload, 0, 0)]
def ev_law13 : List (Nat × Instr × Nat × Nat) := [(1109, .aload_n 3, 0, 0), (1110, .invokestatic 161, 225, 3), (1113, .istore 5, 0, 0), (1115, .aload_n 2, 0, 0), (1116, .aload_n 0, 0, 0), (1117, .iload 4, 0, 0), (1119, .iconst 1, 0, 0), (1120, .iadd, 0, 0), (1121, .iaload, 0, 0), (1122, .invokevirtual 163, 186, 1), (1125, .istore 6, 0, 0), (1127, .aload_n 2, 0, 0), (1128, .invokevirtual 99, 136, 0), (1131, .iload 5, 0, 0), (1133, .if_icmp .eq 5, 0, 0), (1136, .iconst 0, 0, 0), (1137, .ireturn, 0, 0), (1138, .iload 5, 0, 0), (1140, .ifCond .ne 15, 0, 0), (1143, .aload_n 3, 0, 0), (1144, .iconst 0, 0, 0), (1145, .laload, 0, 0), (1146, .iload 6, 0, 0), (1148, .i2l, 0, 0), (1149, .lcmp, 0, 0), (1150, .ifCond .eq 5, 0, 0), (1153, .iconst 0, 0, 0), (1154, .ireturn, 0, 0), (1155, .goto 349, 0, 0), (1158, .aload_n 1, 0, 0), (1159, .aload_n 0, 0, 0), (1160, .iload 4, 0, 0), (1162, .iconst 1, 0, 0), (1163, .iadd, 0, 0), (1164, .iaload, 0, 0), (1165, .aload_n 0, 0, 0), (1166, .iload 4, 0, 0), (1168, .iconst 2, 0, 0), (1169, .iadd, 0, 0), (1170, .iaload, 0, 0), (1171, .invokevirtual 164, 107, 2), (1174, .aload_n 2, 0, 0), (1175, .aload_n 0, 0, 0), (1176, .iload 4, 0, 0), (1178, .iconst 1, 0, 0), (1179, .iadd, 0, 0), (1180, .iaload, 0, 0), (1181, .aload_n 0, 0, 0), (1182, .iload 4, 0, 0), (1184, .iconst 2, 0, 0)]
def ev_law14 : List (Nat × Instr × Nat × Nat) := [(1185, .iadd, 0, 0), (1186, .iaload, 0, 0), (1187, .invokevirtual 167, 198, 2), (1190, .if_icmp .eq 314, 0, 0), (1193, .iconst 0, 0, 0), (1194, .ireturn, 0, 0), (1195, .aload_n 1, 0, 0), (1196, .invokevirtual 168, 108, 0), (1199, .aload_n 2, 0, 0), (1200, .invokevirtual 171, 199, 0), (1203, .if_icmp .eq 301, 0, 0), (1206, .iconst 0, 0, 0), (1207, .ireturn, 0, 0), (1208, .aload_n 1, 0, 0), (1209, .aload_n 0, 0, 0), (1210, .iload 4, 0, 0), (1212, .iconst 1, 0, 0), (1213, .iadd, 0, 0), (1214, .iaload, 0, 0), (1215, .aload_n 3, 0, 0), (1216, .invokestatic 172, 226, 3), (1219, .istore 5, 0, 0), (1221, .aload_n 2, 0, 0), (1222, .aload_n 0, 0, 0), (1223, .iload 4, 0, 0), (1225, .iconst 1, 0, 0), (1226, .iadd, 0, 0), (1227, .iaload, 0, 0), (1228, .invokevirtual 174, 201, 1), (1231, .istore 6, 0, 0), (1233, .aload_n 2, 0, 0), (1234, .invokevirtual 99, 136, 0), (1237, .iload 5, 0, 0), (1239, .if_icmp .eq 5, 0, 0), (1242, .iconst 0, 0, 0), (1243, .ireturn, 0, 0), (1244, .iload 5, 0, 0), (1246, .ifCond .ne 15, 0, 0), (1249, .aload_n 3, 0, 0), (1250, .iconst 0, 0, 0), (1251, .laload, 0, 0), (1252, .iload 6, 0, 0), (1254, .i2l, 0, 0), (1255, .lcmp, 0, 0), (1256, .ifCond .eq 5, 0, 0), (1259, .iconst 0, 0, 0), (1260, .ireturn, 0, 0), (1261, .goto 243, 0, 0), (1264, .aload_n 1, 0, 0), (1265, .aload_n 0, 0, 0)]
def ev_law15 : List (Nat × Instr × Nat × Nat) := [(1266, .iload 4, 0, 0), (1268, .iconst 1, 0, 0), (1269, .iadd, 0, 0), (1270, .iaload, 0, 0), (1271, .aload_n 0, 0, 0), (1272, .iload 4, 0, 0), (1274, .iconst 2, 0, 0), (1275, .iadd, 0, 0), (1276, .iaload, 0, 0), (1277, .aload_n 3, 0, 0), (1278, .invokestatic 175, 227, 4), (1281, .istore 5, 0, 0), (1283, .aload_n 2, 0, 0), (1284, .aload_n 0, 0, 0), (1285, .iload 4, 0, 0), (1287, .iconst 1, 0, 0), (1288, .iadd, 0, 0), (1289, .iaload, 0, 0), (1290, .aload_n 0, 0, 0), (1291, .iload 4, 0, 0), (1293, .iconst 2, 0, 0), (1294, .iadd, 0, 0), (1295, .iaload, 0, 0), (1296, .invokevirtual 177, 202, 2), (1299, .istore 6, 0, 0), (1301, .aload_n 2, 0, 0), (1302, .invokevirtual 99, 136, 0), (1305, .iload 5, 0, 0), (1307, .if_icmp .eq 5, 0, 0), (1310, .iconst 0, 0, 0), (1311, .ireturn, 0, 0), (1312, .iload 5, 0, 0), (1314, .ifCond .ne 15, 0, 0), (1317, .aload_n 3, 0, 0), (1318, .iconst 0, 0, 0), (1319, .laload, 0, 0), (1320, .iload 6, 0, 0), (1322, .i2l, 0, 0), (1323, .lcmp, 0, 0), (1324, .ifCond .eq 5, 0, 0), (1327, .iconst 0, 0, 0), (1328, .ireturn, 0, 0), (1329, .goto 175, 0, 0), (1332, .aload_n 1, 0, 0), (1333, .aload_n 0, 0, 0), (1334, .iload 4, 0, 0), (1336, .iconst 1, 0, 0), (1337, .iadd, 0, 0), (1338, .iaload, 0, 0), (1339, .aload_n 0, 0, 0)]
def ev_law16 : List (Nat × Instr × Nat × Nat) := [(1340, .iload 4, 0, 0), (1342, .iconst 2, 0, 0), (1343, .iadd, 0, 0), (1344, .iaload, 0, 0), (1345, .aload_n 3, 0, 0), (1346, .invokestatic 178, 228, 4), (1349, .istore 5, 0, 0), (1351, .aload_n 2, 0, 0), (1352, .aload_n 0, 0, 0), (1353, .iload 4, 0, 0), (1355, .iconst 1, 0, 0), (1356, .iadd, 0, 0), (1357, .iaload, 0, 0), (1358, .aload_n 0, 0, 0), (1359, .iload 4, 0, 0), (1361, .iconst 2, 0, 0), (1362, .iadd, 0, 0), (1363, .iaload, 0, 0), (1364, .invokevirtual 180, 204, 2), (1367, .istore 6, 0, 0), (1369, .aload_n 2, 0, 0), (1370, .invokevirtual 99, 136, 0), (1373, .iload 5, 0, 0), (1375, .if_icmp .eq 5, 0, 0), (1378, .iconst 0, 0, 0), (1379, .ireturn, 0, 0), (1380, .iload 5, 0, 0), (1382, .ifCond .ne 15, 0, 0), (1385, .aload_n 3, 0, 0), (1386, .iconst 0, 0, 0), (1387, .laload, 0, 0), (1388, .iload 6, 0, 0), (1390, .i2l, 0, 0), (1391, .lcmp, 0, 0), (1392, .ifCond .eq 5, 0, 0), (1395, .iconst 0, 0, 0), (1396, .ireturn, 0, 0), (1397, .goto 107, 0, 0), (1400, .aload_n 1, 0, 0), (1401, .aload_n 0, 0, 0), (1402, .iload 4, 0, 0), (1404, .iconst 1, 0, 0), (1405, .iadd, 0, 0), (1406, .iaload, 0, 0), (1407, .aload_n 0, 0, 0), (1408, .iload 4, 0, 0), (1410, .iconst 2, 0, 0), (1411, .iadd, 0, 0), (1412, .iaload, 0, 0), (1413, .invokestatic 181, 229, 3)]
def ev_law17 : List (Nat × Instr × Nat × Nat) := [(1416, .istore 5, 0, 0), (1418, .aload_n 2, 0, 0), (1419, .aload_n 0, 0, 0), (1420, .iload 4, 0, 0), (1422, .iconst 1, 0, 0), (1423, .iadd, 0, 0), (1424, .iaload, 0, 0), (1425, .aload_n 0, 0, 0), (1426, .iload 4, 0, 0), (1428, .iconst 2, 0, 0), (1429, .iadd, 0, 0), (1430, .iaload, 0, 0), (1431, .invokevirtual 183, 205, 2), (1434, .aload_n 2, 0, 0), (1435, .invokevirtual 99, 136, 0), (1438, .iload 5, 0, 0), (1440, .if_icmp .eq 5, 0, 0), (1443, .iconst 0, 0, 0), (1444, .ireturn, 0, 0), (1445, .goto 59, 0, 0), (1448, .aload_n 1, 0, 0), (1449, .aload_n 0, 0, 0), (1450, .iload 4, 0, 0), (1452, .iconst 1, 0, 0), (1453, .iadd, 0, 0), (1454, .iaload, 0, 0), (1455, .aload_n 3, 0, 0), (1456, .invokestatic 184, 230, 3), (1459, .istore 5, 0, 0), (1461, .aload_n 2, 0, 0), (1462, .aload_n 0, 0, 0), (1463, .iload 4, 0, 0), (1465, .iconst 1, 0, 0), (1466, .iadd, 0, 0), (1467, .iaload, 0, 0), (1468, .invokevirtual 186, 206, 1), (1471, .istore 6, 0, 0), (1473, .aload_n 2, 0, 0), (1474, .invokevirtual 99, 136, 0), (1477, .iload 5, 0, 0), (1479, .if_icmp .eq 5, 0, 0), (1482, .iconst 0, 0, 0), (1483, .ireturn, 0, 0), (1484, .iload 5, 0, 0), (1486, .ifCond .ne 15, 0, 0), (1489, .aload_n 3, 0, 0), (1490, .iconst 0, 0, 0), (1491, .laload, 0, 0), (1492, .iload 6, 0, 0), (1494, .i2l, 0, 0)]
def ev_law18 : List (Nat × Instr × Nat × Nat) := [(1495, .lcmp, 0, 0), (1496, .ifCond .eq 5, 0, 0), (1499, .iconst 0, 0, 0), (1500, .ireturn, 0, 0), (1501, .goto 3, 0, 0), (1504, .iinc 4 5, 0, 0), (1507, .goto (-1484), 0, 0), (1510, .iconst 1, 0, 0), (1511, .ireturn, 0, 0)]
/-- the law -/
def ev_mlaw : ev_M := (⟨"WitnessBenchLaw", "law", "([I)Z"⟩, code, 7, some .boolean, [], ev_law0 ++ (ev_law1 ++ (ev_law2 ++ (ev_law3 ++ (ev_law4 ++ (ev_law5 ++ (ev_law6 ++ (ev_law7 ++ (ev_law8 ++ (ev_law9 ++ (ev_law10 ++ (ev_law11 ++ (ev_law12 ++ (ev_law13 ++ (ev_law14 ++ (ev_law15 ++ (ev_law16 ++ (ev_law17 ++ (ev_law18)))))))))))))))))))
def ev_prog : List ev_M := [ev_m0, ev_m1, ev_m2, ev_m3, ev_m4, ev_m5, ev_m6, ev_m7, ev_m8, ev_m9, ev_m10, ev_m11, ev_m12, ev_m13, ev_m14, ev_m15, ev_m16, ev_m17, ev_m18, ev_m19, ev_m20, ev_m21, ev_m22, ev_m23, ev_m24, ev_m25, ev_m26, ev_m27, ev_m28, ev_m29, ev_m30, ev_m31, ev_m32, ev_m33, ev_m34, ev_m35, ev_m36, ev_m37, ev_m38, ev_m39, ev_m40, ev_m41, ev_m42, ev_m43, ev_m44, ev_m45, ev_m46, ev_m47, ev_m48, ev_m49, ev_m50, ev_m51, ev_m52, ev_m53, ev_m54, ev_m55, ev_m56, ev_m57, ev_m58, ev_m59, ev_m60, ev_m61, ev_m62, ev_m63, ev_m64, ev_m65, ev_m66, ev_m67, ev_m68, ev_m69, ev_m70, ev_m71, ev_m72, ev_m73, ev_m74, ev_m75, ev_m76, ev_m77, ev_m78, ev_m79, ev_m80, ev_m81, ev_m82, ev_m83, ev_m84, ev_m85, ev_m86, ev_m87, ev_m88, ev_m89, ev_m90, ev_m91, ev_m92, ev_m93, ev_m94, ev_m95, ev_m96, ev_m97, ev_m98, ev_m99, ev_m100, ev_m101, ev_m102, ev_m103, ev_m104, ev_m105, ev_m106, ev_m107, ev_m108, ev_m109, ev_m110, ev_m111, ev_m112, ev_m113, ev_m114, ev_m115, ev_m116, ev_m117, ev_m118, ev_m119, ev_m120, ev_m121, ev_m122, ev_m123, ev_m124, ev_m125, ev_m126, ev_m127, ev_m128, ev_m129, ev_m130, ev_m131, ev_m132, ev_m133, ev_m134, ev_m135, ev_m136, ev_m137, ev_m138, ev_m139, ev_m140, ev_m141, ev_m142, ev_m143, ev_m144, ev_m145, ev_m146, ev_m147, ev_m148, ev_m149, ev_m150, ev_m151, ev_m152, ev_m153, ev_m154, ev_m155, ev_m156, ev_m157, ev_m158, ev_m159, ev_m160, ev_m161, ev_m162, ev_m163, ev_m164, ev_m165, ev_m166, ev_m167, ev_m168, ev_m169, ev_m170, ev_m171, ev_m172, ev_m173, ev_m174, ev_m175, ev_m176, ev_m177, ev_m178, ev_m179, ev_m180, ev_m181, ev_m182, ev_m183, ev_m184, ev_m185, ev_m186, ev_m187, ev_m188, ev_m189, ev_m190, ev_m191, ev_m192, ev_m193, ev_m194, ev_m195, ev_m196, ev_m197, ev_m198, ev_m199, ev_m200, ev_m201, ev_m202, ev_m203, ev_m204, ev_m205, ev_m206, ev_m207, ev_m208, ev_m209, ev_m210, ev_m211, ev_m212, ev_m213, ev_m214, ev_m215, ev_m216, ev_m217, ev_m218, ev_m219, ev_m220, ev_m221, ev_m222, ev_m223, ev_m224, ev_m225, ev_m226, ev_m227, ev_m228, ev_m229, ev_m230]
def ev_mcs : List Nat := [99, 99, 99, 0, 0, 0, 0, 0, 0, 0, 0, 0, 0, 0, 1, 1, 1, 1, 1, 2, 2, 2, 2, 2, 2, 2, 2, 2, 2, 2, 2, 2, 2, 2, 2, 3, 3, 3, 3, 3, 3, 3, 3, 3, 3, 3, 3, 3, 3, 3, 3, 4, 4, 4, 4, 4, 4, 4, 4, 5, 5, 5, 5, 5, 5, 5, 5, 5, 5, 5, 5, 5, 5, 6, 6, 6, 6, 6, 6, 6, 6, 6, 6, 6, 6, 6, 6, 7, 7, 7, 7, 7, 7, 7, 8, 8, 8, 8, 8, 8, 8, 8, 8, 9, 9, 9, 9, 9, 9, 9, 9, 9, 9, 9, 9, 9, 9, 9, 9, 9, 9, 9, 9, 9, 9, 9, 9, 9, 9, 9, 9, 9, 9, 9, 9, 10, 10, 10, 10, 10, 10, 10, 10, 10, 10, 10, 10, 10, 10, 10, 10, 10, 10, 10, 10, 10, 10, 10, 10, 10, 10, 10, 10, 10, 10, 10, 10, 10, 10, 10, 10, 10, 10, 10, 10, 10, 10, 10, 10, 10, 10, 10, 10, 10, 10, 10, 10, 10, 10, 10, 10, 10, 10, 10, 10, 10, 10, 10, 10, 10, 10, 10, 10, 10, 10, 10, 10, 10, 10, 10, 99, 99, 99, 99, 99, 99, 99, 99, 99, 99, 99, 99, 99, 99, 99, 99, 99, 99, 99, 99, 99]
def ev_nds : List (Nat × Nat) := [(0, 0), (0, 0), (0, 0), (1, 12), (0, 0), (0, 0), (0, 0), (0, 0), (0, 0), (0, 0), (1, 13), (0, 0), (1, 15), (2, 29), (2, 28), (2, 32), (1, 15), (0, 0), (2, 29), (2, 28), (0, 0), (1, 12), (0, 0), (2, 28), (0, 0), (0, 0), (0, 0), (4, 57), (3, 44), (1, 13), (4, 57), (0, 0), (2, 30), (2, 36), (1, 16), (1, 12), (0, 0), (2, 29), (1, 14), (0, 0), (0, 0), (1, 15), (0, 0), (1, 17), (0, 0), (0, 0), (2, 32), (1, 14), (1, 14), (1, 15), (0, 0), (1, 12), (4, 72), (3, 51), (1, 15), (0, 0), (0, 0), (0, 0), (2, 32), (1, 12), (5, 79), (3, 43), (4, 59), (1, 13), (0, 0), (2, 28), (1, 14), (2, 30), (3, 42), (0, 0), (0, 0), (0, 0), (0, 0), (2, 28), (1, 13), (5, 76), (4, 60), (1, 17), (1, 13), (3, 43), (1, 17), (3, 41), (2, 27), (1, 17), (3, 43), (1, 17), (0, 0), (1, 12), (4, 65), (2, 30), (3, 45), (0, 0), (0, 0), (0, 0), (1, 15), (0, 0), (0, 0), (3, 49), (2, 30), (0, 0), (0, 0), (2, 28), (1, 13), (3, 43), (1, 12), (6, 95), (0, 0), (2, 28), (3, 49), (6, 82), (6, 82), (7, 94), (6, 82), (6, 82), (8, 108), (7, 94), (8, 108), (8, 108), (7, 94), (6, 82), (7, 95), (6, 82), (8, 108), (7, 95), (6, 82), (7, 95), (7, 95), (6, 82), (7, 95), (7, 95), (6, 82), (7, 95), (6, 82), (7, 94), (7, 95), (1, 12), (0, 0), (0, 0), (0, 0), (5, 84), (0, 0), (0, 0), (4, 69), (0, 0), (3, 51), (2, 33), (1, 15), (0, 0), (1, 14), (0, 0), (0, 0), (5, 84), (5, 84), (1, 12), (2, 27), (3, 53), (2, 39), (1, 19), (0, 0), (6, 108), (4, 73), (3, 55), (0, 0), (5, 89), (4, 73), (3, 55), (1, 15), (0, 0), (1, 15), (0, 0), (1, 14), (0, 0), (2, 27), (0, 0), (1, 16), (1, 16), (5, 79), (0, 0), (2, 30), (4, 61), (0, 0), (1, 13), (3, 44), (3, 44), (0, 0), (0, 0), (6, 96), (5, 79), (2, 31), (1, 15), (0, 0), (0, 0), (3, 47), (1, 15), (1, 14), (4, 60), (1, 15), (1, 15), (0, 0), (4, 69), (1, 13), (0, 0), (3, 44), (2, 26), (0, 0), (1, 13), (2, 36), (1, 20), (0, 0), (0, 0), (7, 97), (7, 95), (8, 109), (7, 97), (9, 126), (9, 124), (9, 126), (8, 110), (7, 97), (8, 111), (9, 125), (8, 108), (8, 109), (8, 110), (8, 109), (8, 111), (7, 97), (8, 111), (7, 98), (8, 108), (8, 112)]
def ev_nd (k : Nat) : Nat × Nat := (ev_nds[k]?).getD (0, 0)
end
section
section EvLinks
variable {M : ev_M} {pc a b : Nat} {i : Instr}
/-! the links of a listing, looked up once -/
def ev_lkp (M : ev_M) (idx ci k : Nat) : Bool := match ev_cl[ci]? with
  | none => false
  | some q => !(q.2.1 k).2.2.2 || (decide (M.1.name = "<init>") && decide ((q.2.1 k).1 = M.1.cls) && ev_has (.fieldLink M.1.cls idx (q.2.1 k).1 (q.2.1 k).2.1 (q.2.1 k).2.2.1))
theorem ev_lkp_of {idx ci k : Nat} {q : vw_C} (hq : ev_cl[ci]? = some q) (hl : ev_lkp M idx ci k = true) :
    (q.2.1 k).2.2.2 = false ∨ ((q.2.1 k).2.2.2 = true ∧ M.1.name = "<init>" ∧ (q.2.1 k).1 = M.1.cls ∧ ev_has (.fieldLink M.1.cls idx (q.2.1 k).1 (q.2.1 k).2.1 (q.2.1 k).2.2.1) = true) := by
  simp only [ev_lkp, hq, Bool.or_eq_true, Bool.and_eq_true, Bool.not_eq_true', decide_eq_true_eq] at hl
  rcases hl with hl | ⟨⟨h1, h2⟩, h3⟩
  · exact Or.inl hl
  · by_cases hf : (q.2.1 k).2.2.2 = true
    · exact Or.inr ⟨hf, h1, h2, h3⟩
    · exact Or.inl (by simpa using hf)
def ev_lkn (own : String) (idx ci : Nat) : Bool := match ev_cl[ci]? with
  | none => false
  | some q => decide (q.2.2 = ev_sz ci) && ev_has (.classLink own idx q.1) && ev_has (.instantiable q.1 q.2.2) && ev_has (.initialized q.1)
def ev_lkm (own : String) (idx : Nat) (M' : ev_M) : Bool := ev_has (.methodLink own idx M'.1) || ev_has (.methodLinkNest own idx M'.1 ev_host)
/-- a throw of one's own, its five instructions -/
def ev_thr1 (M : ev_M) (pc ik ce : Nat) : Bool := match ev_cl[ce]?, ev_ins M (pc + 3), ev_ins M (pc + 4), ev_ins M (pc + 6), ev_ins M (pc + 9) with
  | some q, some (.dup, _, _), some (.ldc is, _, _), some (.invokespecial ic, _, _), some (.athrow, _, _) => decide (q.2.2 = 0) && decide (ev_sz ce = 6) && ev_thw M.1.cls ik is ic q.1 (ev_tx is) && M.2.2.2.2.1.all (fun z => !(decide (z.1 ≤ pc + 9) && decide (pc + 9 < z.2.1)))
  | _, _, _, _, _ => false
def ev_thr2 (M : ev_M) (pc ik ce : Nat) : Bool := match ev_cl[ce]?, ev_ins M (pc + 3), ev_ins M (pc + 4), ev_ins M (pc + 7), ev_ins M (pc + 10) with
  | some q, some (.dup, _, _), some (.ldc_w is, _, _), some (.invokespecial ic, _, _), some (.athrow, _, _) => decide (q.2.2 = 0) && decide (ev_sz ce = 6) && ev_thw M.1.cls ik is ic q.1 (ev_tx is) && M.2.2.2.2.1.all (fun z => !(decide (z.1 ≤ pc + 10) && decide (pc + 10 < z.2.1)))
  | _, _, _, _, _ => false
def ev_thr (M : ev_M) (pc ik ce : Nat) : Bool := ev_thr1 M pc ik ce || ev_thr2 M pc ik ce
def ev_lnk (M : ev_M) (q : Nat × Instr × Nat × Nat) : Bool := match q.2.1 with
  | .getfield idx => ev_lkf M.1.cls idx q.2.2.1 q.2.2.2
  | .putfield idx => ev_lkf M.1.cls idx q.2.2.1 q.2.2.2 && ev_lkp M idx q.2.2.1 q.2.2.2
  | .ldc idx => if q.2.2.2 = 1 then ev_has (.constant M.1.cls idx (Int32.ofNat q.2.2.1)) else true
  | .new idx => if q.2.2.1 < ev_nc then ev_lkn M.1.cls idx q.2.2.1 else ev_thr M q.1 idx q.2.2.1
  | .newarray .int => ev_has (.arrayClass .int)
  | .newarray .char => ev_has (.arrayClass .char)
  | .newarray .long => ev_has (.arrayClass .long)
  | .anewarray idx => ev_has (.classLink M.1.cls idx ev_Let) && ev_has (.arrayOver (.object ev_Let))
  | .invokestatic idx => (match ev_prog[q.2.2.1]? with
    | none => false
    | some M' => ev_lkm M.1.cls idx M' && ev_has (.static M'.1) && ev_npar M'.1 q.2.2.2 && decide (q.2.2.2 ≤ M'.2.2.1))
  | .invokevirtual idx => (match ev_prog[q.2.2.1]?, ev_cl[(ev_mcs[q.2.2.1]?).getD 99]? with
    | some M', some z => ev_lkm M.1.cls idx M' && ev_has (.instanceMethod M'.1) && ev_has (.selects M'.1.cls M'.1 M'.1) && ev_npar M'.1 q.2.2.2 && decide (q.2.2.2 + 1 ≤ M'.2.2.1) && decide (z.1 = M'.1.cls)
    | _, _ => false)
  | .invokespecial idx => if q.2.2.1 = 998 then true else if q.2.2.1 = 999 then ev_has (.methodLink M.1.cls idx Lib.objectInit) && ev_has (.instanceMethod Lib.objectInit) && ev_has (.code Lib.objectInit ⟨#[0xb1]⟩ 1 none) else (match ev_prog[q.2.2.1]? with
    | none => false
    | some M' => ev_lkm M.1.cls idx M' && ev_has (.instanceMethod M'.1) && ev_npar M'.1 q.2.2.2 && decide (q.2.2.2 + 1 ≤ M'.2.2.1) && decide (M'.1.name = "<init>") && decide (M'.2.2.2.2.1 = []) && decide (M'.2.2.2.1 = none))
  | _ => true
def ev_lnks (M : ev_M) : Bool := M.2.2.2.2.2.all (ev_lnk M)
theorem ev_lnk_at (hl : ev_lnks M = true) (hi : ev_ins M pc = some (i, a, b)) : ev_lnk M (pc, i, a, b) = true := List.all_eq_true.mp hl _ (ev_ins_mem hi)
end EvLinks
end
section
theorem ev_prog_ok : ∀ M ∈ ev_prog, ev_mw M = true ∧ ev_lnks M = true := sorry
theorem ev_klawd : ev_dec ev_mlaw = true := sorry
theorem ev_klawl : ev_lnks ev_mlaw = true := sorry
end
section
/-! a program that runs the listings: what it comes to, the machine comes to -/
section EvRun
/-- the caps: cells, slots -/
abbrev ev_P : Type := Nat × Nat
abbrev ev_F : Type := Nat × List (Option Value) × List Value × ev_H
def ev_tgt (pc : Nat) (off : Int) : Option Nat := if ((pc : Int) + off) = (((pc : Int) + off).toNat : Int) then some (((pc : Int) + off).toNat) else none
theorem ev_tgt_of {pc t : Nat} {off : Int} (h : ev_tgt pc off = some t) : (pc : Int) + off = (t : Int) := by
  unfold ev_tgt at h
  split at h
  · rename_i hc
    cases h
    exact hc
  · cases h
def ev_s1 (i : Instr) (pc : Nat) (L : List (Option Value)) (st : List Value) (h : ev_H) : Option ev_F := match i with
  | .iconst n => some (pc + 1, L, .int (Int32.ofInt n) :: st, h)
  | .bipush n => some (pc + 2, L, .int (Int8.ofInt n).toInt32 :: st, h)
  | .sipush n => some (pc + 3, L, .int (Int16.ofInt n).toInt32 :: st, h)
  | _ => none
def ev_s2 (i : Instr) (pc : Nat) (L : List (Option Value)) (st : List Value) (h : ev_H) : Option ev_F := match i with
  | .iload_n k => (match L[(k : Nat)]? with | some (some (.int x)) => some (pc + 1, L, .int x :: st, h) | _ => none)
  | .iload k => (match L[k]? with | some (some (.int x)) => some (pc + 2, L, .int x :: st, h) | _ => none)
  | .aload_n k => (match L[(k : Nat)]? with | some (some (.ref x)) => some (pc + 1, L, .ref x :: st, h) | some (some (.retAddr x)) => some (pc + 1, L, .retAddr x :: st, h) | _ => none)
  | .aload k => (match L[k]? with | some (some (.ref x)) => some (pc + 2, L, .ref x :: st, h) | some (some (.retAddr x)) => some (pc + 2, L, .retAddr x :: st, h) | _ => none)
  | _ => none
def ev_s3 (nL : Nat) (i : Instr) (pc : Nat) (L : List (Option Value)) (st : List Value) (h : ev_H) : Option ev_F := match i with
  | .istore_n k => (match st with | .int x :: st => if (k : Nat) < nL then some (pc + 1, L.set (k : Nat) (some (.int x)), st, h) else none | _ => none)
  | .istore k => (match st with | .int x :: st => if k < nL then some (pc + 2, L.set k (some (.int x)), st, h) else none | _ => none)
  | .astore_n k => (match st with | .ref x :: st => if (k : Nat) < nL then some (pc + 1, L.set (k : Nat) (some (.ref x)), st, h) else none | _ => none)
  | .astore k => (match st with | .ref x :: st => if k < nL then some (pc + 2, L.set k (some (.ref x)), st, h) else none | _ => none)
  | .iinc k n => (match L[k]? with | some (some (.int x)) => if k < nL then some (pc + 3, L.set k (some (.int (x + Int32.ofInt n))), st, h) else none | _ => none)
  | _ => none
def ev_s4 (i : Instr) (pc : Nat) (L : List (Option Value)) (st : List Value) (h : ev_H) : Option ev_F := match st with
  | .int y :: .int x :: st => (match i with
    | .iadd => some (pc + 1, L, .int (x + y) :: st, h)
    | .isub => some (pc + 1, L, .int (x - y) :: st, h)
    | .imul => some (pc + 1, L, .int (x * y) :: st, h)
    | .iand => some (pc + 1, L, .int (x &&& y) :: st, h)
    | .ior => some (pc + 1, L, .int (x ||| y) :: st, h)
    | .ishl => some (pc + 1, L, .int (x <<< (y &&& 31)) :: st, h)
    | .ishr => some (pc + 1, L, .int (x >>> (y &&& 31)) :: st, h)
    | .idiv => if y = 0 then none else some (pc + 1, L, .int (x / y) :: st, h)
    | .irem => if y = 0 then none else some (pc + 1, L, .int (x - x / y * y) :: st, h)
    | _ => none)
  | .long y :: .long x :: st => (match i with
    | .lcmp => some (pc + 1, L, .int (lg_cmp x y) :: st, h)
    | _ => none)
  | _ => none
def ev_s5 (i : Instr) (pc : Nat) (L : List (Option Value)) (st : List Value) (h : ev_H) : Option ev_F := match i with
  | .ineg => (match st with | .int x :: st => some (pc + 1, L, .int (-x) :: st, h) | _ => none)
  | .i2c => (match st with | .int x :: st => some (pc + 1, L, .int (x.toUInt32 % 65536).toInt32 :: st, h) | _ => none)
  | .i2l => (match st with | .int x :: st => some (pc + 1, L, .long x.toInt64 :: st, h) | _ => none)
  | .dup => (match st with | v :: st => if v.category = 1 then some (pc + 1, L, v :: v :: st, h) else none | _ => none)
  | .pop => (match st with | v :: st => if v.category = 1 then some (pc + 1, L, st, h) else none | _ => none)
  | .dup_x1 => (match st with | v :: u :: st => if v.category = 1 ∧ u.category = 1 then some (pc + 1, L, v :: u :: v :: st, h) else none | _ => none)
  | .dup2 => (match st with | v :: u :: st => if v.category = 1 ∧ u.category = 1 then some (pc + 1, L, v :: u :: v :: u :: st, h) else none | _ => none)
  | _ => none
def ev_s6 (i : Instr) (pc : Nat) (L : List (Option Value)) (st : List Value) (h : ev_H) : Option ev_F := match i with
  | .goto off => (ev_tgt pc off).map (fun t => (t, L, st, h))
  | .ifCond cd off => (match st with | .int x :: st => (if ev_c0 cd x = true then (ev_tgt pc off).map (fun t => (t, L, st, h)) else (ev_tgt pc off).map (fun _ => (pc + 3, L, st, h))) | _ => none)
  | .if_icmp cd off => (match st with | .int y :: .int x :: st => (if ev_c2 cd x y = true then (ev_tgt pc off).map (fun t => (t, L, st, h)) else (ev_tgt pc off).map (fun _ => (pc + 3, L, st, h))) | _ => none)
  | .tableswitch dflt lo hi offs => (match st with
    | .int x :: st => if x.toInt < lo ∨ hi < x.toInt then (ev_tgt pc dflt).map (fun t => (t, L, st, h)) else (match offs[(x.toInt - lo).toNat]? with | some off => (ev_tgt pc off).map (fun t => (t, L, st, h)) | none => none)
    | _ => none)
  | _ => none
def ev_s7 (i : Instr) (a b pc : Nat) (L : List (Option Value)) (st : List Value) (h : ev_H) : Option ev_F := match i with
  | .getfield _ => (match st with
    | .ref x :: st => (match h[x]? with | some (.inr (ci, fs)) => if ci = a then (match fs[b]? with | some v => some (pc + 3, L, v :: st, h) | none => none) else none | _ => none)
    | _ => none)
  | .putfield _ => (match st with
    | v :: .ref x :: st => (match h[x]? with | some (.inr (ci, fs)) => if ci = a ∧ b < fs.length ∧ ev_fitv (ev_fty ((ev_cl[a]?).getD ("", fun _ => ("", "", "", false), 0)) b) v = true then some (pc + 3, L, st, h.set x (.inr (ci, fs.set b v))) else none | _ => none)
    | _ => none)
  | _ => none
def ev_inb (i : Int32) (n : Nat) : Bool := !(decide (i < 0) || decide (n ≤ i.toNatClampNeg))
theorem ev_inb_of {i : Int32} {n : Nat} (hi : ev_inb i n = true) : vp_in i n := by
  simp only [ev_inb, Bool.not_eq_true', Bool.or_eq_false_iff, decide_eq_false_iff_not] at hi
  rintro (q | q)
  · exact hi.1 q
  · exact hi.2 q
def ev_s8 (i : Instr) (pc : Nat) (L : List (Option Value)) (st : List Value) (h : ev_H) : Option ev_F := match i with
  | .iaload => (match st with | .int j :: .ref x :: st => (match h[x]? with | some (.inl (0, n, .inl f)) => if ev_inb j n = true then some (pc + 1, L, .int (f j.toNatClampNeg) :: st, h) else none | _ => none) | _ => none)
  | .caload => (match st with | .int j :: .ref x :: st => (match h[x]? with | some (.inl (1, n, .inl f)) => if ev_inb j n = true then some (pc + 1, L, .int (f j.toNatClampNeg) :: st, h) else none | _ => none) | _ => none)
  | .laload => (match st with | .int j :: .ref x :: st => (match h[x]? with | some (.inl (2, n, .inr (.inl f))) => if ev_inb j n = true then some (pc + 1, L, .long (f j.toNatClampNeg) :: st, h) else none | _ => none) | _ => none)
  | .aaload => (match st with | .int j :: .ref x :: st => (match h[x]? with | some (.inl (3, n, .inr (.inr (.inr (.inr f))))) => if ev_inb j n = true then some (pc + 1, L, va_rf (f j.toNatClampNeg) :: st, h) else none | _ => none) | _ => none)
  | .iastore => (match st with | .int v :: .int j :: .ref x :: st => (match h[x]? with | some (.inl (0, n, .inl f)) => if ev_inb j n = true then some (pc + 1, L, st, h.set x (.inl (0, n, .inl (upd f j.toNatClampNeg v)))) else none | _ => none) | _ => none)
  | .castore => (match st with | .int v :: .int j :: .ref x :: st => (match h[x]? with | some (.inl (1, n, .inl f)) => if ev_inb j n = true then some (pc + 1, L, st, h.set x (.inl (1, n, .inl (upd f j.toNatClampNeg (vp_nar .char v))))) else none | _ => none) | _ => none)
  | .lastore => (match st with | .long v :: .int j :: .ref x :: st => (match h[x]? with | some (.inl (2, n, .inr (.inl f))) => if ev_inb j n = true then some (pc + 1, L, st, h.set x (.inl (2, n, .inr (.inl (vp_updL f j.toNatClampNeg v))))) else none | _ => none) | _ => none)
  | .aastore => (match st with | .ref y :: .int j :: .ref x :: st => (match h[x]?, h[y]? with | some (.inl (3, n, .inr (.inr (.inr (.inr f))))), some (.inr (ci, _)) => if ev_inb j n = true ∧ ci = ev_ciL then some (pc + 1, L, st, h.set x (.inl (3, n, .inr (.inr (.inr (.inr (va_up f j.toNatClampNeg (some y)))))))) else none | _, _ => none) | _ => none)
  | .arraylength => (match st with | .ref x :: st => (match h[x]? with | some (.inl (t, z)) => if t < 4 then some (pc + 1, L, .int (Int32.ofNat z.1) :: st, h) else none | _ => none) | _ => none)
  | _ => none
def ev_s9 (cp : ev_P) (i : Instr) (a pc : Nat) (L : List (Option Value)) (st : List Value) (h : ev_H) : Option ev_F := match i with
  | .new _ => (match ev_cl[a]? with | some q => if a < ev_nc ∧ h.length + 1 ≤ cp.1 ∧ ev_cost h + q.2.2 ≤ cp.2 then some (pc + 3, L, .ref h.length :: st, h ++ [.inr (a, ev_dft q)]) else none | none => none)
  | .newarray .int => (match st with | .int n :: st => if ¬ n < 0 ∧ n.toNatClampNeg ≤ 10000 ∧ h.length + 1 ≤ cp.1 ∧ ev_cost h + n.toNatClampNeg ≤ cp.2 then some (pc + 2, L, .ref h.length :: st, h ++ [.inl (0, n.toNatClampNeg, .inl (fun _ => 0))]) else none | _ => none)
  | .newarray .char => (match st with | .int n :: st => if ¬ n < 0 ∧ n.toNatClampNeg ≤ 10000 ∧ h.length + 1 ≤ cp.1 ∧ ev_cost h + n.toNatClampNeg ≤ cp.2 then some (pc + 2, L, .ref h.length :: st, h ++ [.inl (1, n.toNatClampNeg, .inl (fun _ => 0))]) else none | _ => none)
  | .newarray .long => (match st with | .int n :: st => if ¬ n < 0 ∧ n.toNatClampNeg ≤ 10000 ∧ h.length + 1 ≤ cp.1 ∧ ev_cost h + n.toNatClampNeg ≤ cp.2 then some (pc + 2, L, .ref h.length :: st, h ++ [.inl (2, n.toNatClampNeg, .inr (.inl (fun _ => 0)))]) else none | _ => none)
  | .anewarray _ => (match st with | .int n :: st => if ¬ n < 0 ∧ n.toNatClampNeg ≤ 10000 ∧ h.length + 1 ≤ cp.1 ∧ ev_cost h + n.toNatClampNeg ≤ cp.2 then some (pc + 3, L, .ref h.length :: st, h ++ [.inl (3, n.toNatClampNeg, .inr (.inr (.inr (.inr (fun _ => none)))))]) else none | _ => none)
  | _ => none
end EvRun
end
section
/-! the running program is right: what it comes to, the judgement comes to -/
section EvSound
variable {w : ev_W} {M : ev_M} {d : Nat × Nat} {h0 : ev_H} {Q : ev_R → ev_H → Prop} {pc : Nat} {L : List (Option Value)} {st : List Value} {h : ev_H} {a b : Nat} {i : Instr}
theorem ev_ldc (ok : ev_ok w) (hM : ev_dec M = true) {idx : Nat} (hi : ev_ins M pc = some (.ldc idx, a, b)) (hl : ev_has (.constant M.1.cls idx (Int32.ofNat a)) = true) (k : ev_G w M d h0 Q (pc + 2) L (.int (Int32.ofNat a) :: st) h) : ev_G w M d h0 Q pc L st h := by
  intro p e R s m args below meth c H locs ls C
  exact lv_ldc C.1.1 C.1.2.1 C.1.own (ev_word ok C.1.warm hl args) (ev_dec_at hM hi) (k p e R s m args below meth c H locs ls C)
theorem ev_s1_ok (hM : ev_dec M = true) (hi : ev_ins M pc = some (i, a, b)) {F : ev_F} (hs : ev_s1 i pc L st h = some F) (k : ev_G w M d h0 Q F.1 F.2.1 F.2.2.1 F.2.2.2) : ev_G w M d h0 Q pc L st h := by
  unfold ev_s1 at hs
  split at hs
  · cases hs; exact ev_iconst hM hi k
  · cases hs; exact ev_bipush hM hi k
  · cases hs; exact ev_sipush hM hi k
  · cases hs
theorem ev_s2_ok (hM : ev_dec M = true) (hi : ev_ins M pc = some (i, a, b)) {F : ev_F} (hs : ev_s2 i pc L st h = some F) (k : ev_G w M d h0 Q F.1 F.2.1 F.2.2.1 F.2.2.2) : ev_G w M d h0 Q pc L st h := by
  unfold ev_s2 at hs
  split at hs
  · split at hs
    · rename_i hl; cases hs; exact ev_iload_n hM hi hl k
    · cases hs
  · split at hs
    · rename_i hl; cases hs; exact ev_iload hM hi hl k
    · cases hs
  · split at hs
    · rename_i hl; cases hs; exact ev_aload_n hM hi hl k
    · rename_i hl; cases hs; exact ev_aload_nS hM hi hl k
    · cases hs
  · split at hs
    · rename_i hl; cases hs; exact ev_aload hM hi hl k
    · rename_i hl; cases hs; exact ev_aloadS hM hi hl k
    · cases hs
  · cases hs
theorem ev_s3_ok (hM : ev_dec M = true) (hi : ev_ins M pc = some (i, a, b)) {F : ev_F} (hs : ev_s3 M.2.2.1 i pc L st h = some F) (k : ev_G w M d h0 Q F.1 F.2.1 F.2.2.1 F.2.2.2) : ev_G w M d h0 Q pc L st h := by
  unfold ev_s3 at hs
  split at hs
  · split at hs
    · split at hs
      · rename_i hn; cases hs; exact ev_istore_n hM hi hn k
      · cases hs
    · cases hs
  · split at hs
    · split at hs
      · rename_i hn; cases hs; exact ev_istore hM hi hn k
      · cases hs
    · cases hs
  · split at hs
    · split at hs
      · rename_i hn; cases hs; exact ev_astore_n hM hi hn k
      · cases hs
    · cases hs
  · split at hs
    · split at hs
      · rename_i hn; cases hs; exact ev_astore hM hi hn k
      · cases hs
    · cases hs
  · split at hs
    · rename_i hl
      split at hs
      · rename_i hn; cases hs; exact ev_iinc hM hi hl hn k
      · cases hs
    · cases hs
  · cases hs
theorem ev_s4_ok (hM : ev_dec M = true) (hi : ev_ins M pc = some (i, a, b)) {F : ev_F} (hs : ev_s4 i pc L st h = some F) (k : ev_G w M d h0 Q F.1 F.2.1 F.2.2.1 F.2.2.2) : ev_G w M d h0 Q pc L st h := by
  unfold ev_s4 at hs
  split at hs
  · split at hs
    · cases hs; exact ev_iadd hM hi k
    · cases hs; exact ev_isub hM hi k
    · cases hs; exact ev_imul hM hi k
    · cases hs; exact ev_iand hM hi k
    · cases hs; exact ev_ior hM hi k
    · cases hs; exact ev_ishl hM hi k
    · cases hs; exact ev_ishr hM hi k
    · split at hs
      · cases hs
      · rename_i hn; cases hs; exact ev_idiv hM hi hn k
    · split at hs
      · cases hs
      · rename_i hn; cases hs; exact ev_irem hM hi hn k
    · cases hs
  · split at hs
    · cases hs; exact ev_lcmp hM hi k
    · cases hs
  · cases hs
theorem ev_s5_ok (hM : ev_dec M = true) (hi : ev_ins M pc = some (i, a, b)) {F : ev_F} (hs : ev_s5 i pc L st h = some F) (k : ev_G w M d h0 Q F.1 F.2.1 F.2.2.1 F.2.2.2) : ev_G w M d h0 Q pc L st h := by
  unfold ev_s5 at hs
  split at hs
  · split at hs
    · cases hs; exact ev_ineg hM hi k
    · cases hs
  · split at hs
    · cases hs; exact ev_i2c hM hi k
    · cases hs
  · split at hs
    · cases hs; exact ev_i2l hM hi k
    · cases hs
  · split at hs
    · split at hs
      · rename_i hv; cases hs; exact ev_dup hM hi hv k
      · cases hs
    · cases hs
  · split at hs
    · split at hs
      · rename_i hv; cases hs; exact ev_pop hM hi hv k
      · cases hs
    · cases hs
  · split at hs
    · split at hs
      · rename_i hv; cases hs; exact ev_dup_x1 hM hi hv.1 hv.2 k
      · cases hs
    · cases hs
  · split at hs
    · split at hs
      · rename_i hv; cases hs; exact ev_dup2 hM hi hv.1 hv.2 k
      · cases hs
    · cases hs
  · cases hs
theorem ev_map_some {α β : Type} {o : Option α} {f : α → β} {y : β} (hm : o.map f = some y) : ∃ x, o = some x ∧ f x = y := by
  cases o with
  | none => cases hm
  | some x => exact ⟨x, rfl, Option.some.inj hm⟩
theorem ev_s6_ok (hM : ev_dec M = true) (hi : ev_ins M pc = some (i, a, b)) {F : ev_F} (hs : ev_s6 i pc L st h = some F) (k : ev_G w M d h0 Q F.1 F.2.1 F.2.2.1 F.2.2.2) : ev_G w M d h0 Q pc L st h := by
  unfold ev_s6 at hs
  split at hs
  · obtain ⟨t, ht, rfl⟩ := ev_map_some hs
    exact ev_goto hM hi (ev_tgt_of ht) k
  · split at hs
    · split at hs
      · rename_i hc
        obtain ⟨t, ht, rfl⟩ := ev_map_some hs
        exact ev_if hM hi (ev_tgt_of ht) (fun _ => k) (fun q => by rw [hc] at q; cases q)
      · rename_i hc
        obtain ⟨t, ht, rfl⟩ := ev_map_some hs
        exact ev_if hM hi (ev_tgt_of ht) (fun q => absurd q hc) (fun _ => k)
    · cases hs
  · split at hs
    · split at hs
      · rename_i hc
        obtain ⟨t, ht, rfl⟩ := ev_map_some hs
        exact ev_icmp hM hi (ev_tgt_of ht) (fun _ => k) (fun q => by rw [hc] at q; cases q)
      · rename_i hc
        obtain ⟨t, ht, rfl⟩ := ev_map_some hs
        exact ev_icmp hM hi (ev_tgt_of ht) (fun q => absurd q hc) (fun _ => k)
    · cases hs
  · split at hs
    · split at hs
      · rename_i hc
        obtain ⟨t, ht, rfl⟩ := ev_map_some hs
        exact ev_tableOut hM hi hc (ev_tgt_of ht) k
      · rename_i hc
        split at hs
        · rename_i ho
          obtain ⟨t, ht, rfl⟩ := ev_map_some hs
          exact ev_tableIn hM hi (fun q => hc (Or.inl q)) (fun q => hc (Or.inr q)) ho (ev_tgt_of ht) k
        · cases hs
    · cases hs
  · cases hs
theorem ev_s8_ok (ok : ev_ok w) (hM : ev_dec M = true) (hi : ev_ins M pc = some (i, a, b)) {F : ev_F} (hs : ev_s8 i pc L st h = some F) (k : ev_G w M d h0 Q F.1 F.2.1 F.2.2.1 F.2.2.2) : ev_G w M d h0 Q pc L st h := by
  unfold ev_s8 at hs
  split at hs
  · split at hs
    · split at hs
      · rename_i hx
        split at hs
        · rename_i hj; cases hs; exact ev_iald ok hM hi hx (ev_inb_of hj) k
        · cases hs
      · cases hs
    · cases hs
  · split at hs
    · split at hs
      · rename_i hx
        split at hs
        · rename_i hj; cases hs; exact ev_cald ok hM hi hx (ev_inb_of hj) k
        · cases hs
      · cases hs
    · cases hs
  · split at hs
    · split at hs
      · rename_i hx
        split at hs
        · rename_i hj; cases hs; exact ev_lald ok hM hi hx (ev_inb_of hj) k
        · cases hs
      · cases hs
    · cases hs
  · split at hs
    · split at hs
      · rename_i hx
        split at hs
        · rename_i hj; cases hs; exact ev_aald ok hM hi hx (ev_inb_of hj) k
        · cases hs
      · cases hs
    · cases hs
  · split at hs
    · split at hs
      · rename_i hx
        split at hs
        · rename_i hj; cases hs; exact ev_iast ok hM hi hx (ev_inb_of hj) k
        · cases hs
      · cases hs
    · cases hs
  · split at hs
    · split at hs
      · rename_i hx
        split at hs
        · rename_i hj; cases hs; exact ev_cast ok hM hi hx (ev_inb_of hj) k
        · cases hs
      · cases hs
    · cases hs
  · split at hs
    · split at hs
      · rename_i hx
        split at hs
        · rename_i hj; cases hs; exact ev_last ok hM hi hx (ev_inb_of hj) k
        · cases hs
      · cases hs
    · cases hs
  · split at hs
    · split at hs
      · rename_i hx hy
        split at hs
        · rename_i hj
          cases hs
          obtain ⟨hj, rfl⟩ := hj
          exact ev_aast ok hM hi hx hy ev_clL rfl (ev_inb_of hj) k
        · cases hs
      · cases hs
    · cases hs
  · split at hs
    · split at hs
      · rename_i hx
        split at hs
        · rename_i ht; cases hs; exact ev_alen ok hM ht hi hx k
        · cases hs
      · cases hs
    · cases hs
  · cases hs
theorem ev_s7_ok (ok : ev_ok w) (hM : ev_dec M = true) (hk : ev_lnks M = true) (hi : ev_ins M pc = some (i, a, b)) {F : ev_F} (hs : ev_s7 i a b pc L st h = some F) (k : ev_G w M d h0 Q F.1 F.2.1 F.2.2.1 F.2.2.2) : ev_G w M d h0 Q pc L st h := by
  have hl := ev_lnk_at hk hi
  unfold ev_s7 at hs
  split at hs
  · split at hs
    · split at hs
      · rename_i hx
        split at hs
        · rename_i hc
          subst hc
          split at hs
          · rename_i hv; cases hs; exact ev_getf ok hM hi hl hx hv k
          · cases hs
        · cases hs
      · cases hs
    · cases hs
  · have hl2 : _ ∧ _ := Bool.and_eq_true_iff.mp hl
    split at hs
    · split at hs
      · rename_i hx
        split at hs
        · rename_i hc
          obtain ⟨hc1, hc2, hc3⟩ := hc
          subst hc1
          cases hs
          obtain ⟨q, hq, -, -⟩ := ev_lkf_of hl2.1
          rw [hq] at hc3
          exact ev_putf ok hM hi hl2.1 hq (ev_lkp_of hq hl2.2) hc3 hx hc2 k
        · cases hs
      · cases hs
    · cases hs
  · cases hs
theorem ev_s9_ok (ok : ev_ok w) (hM : ev_dec M = true) (hk : ev_lnks M = true) (hi : ev_ins M pc = some (i, a, b)) {F : ev_F} (hs : ev_s9 (w.2.2.2.2.2.2.1, w.2.2.2.2.2.2.2.1) i a pc L st h = some F) (k : ev_G w M d h0 Q F.1 F.2.1 F.2.2.1 F.2.2.2) : ev_G w M d h0 Q pc L st h := by
  have hl := ev_lnk_at hk hi
  unfold ev_s9 at hs
  split at hs
  · split at hs
    · rename_i q hq
      split at hs
      · rename_i hc
        cases hs
        have hl' : (if a < ev_nc then ev_lkn M.1.cls _ a else ev_thr M pc _ a) = true := hl
        rw [if_pos hc.1] at hl'
        simp only [ev_lkn, hq, Bool.and_eq_true, decide_eq_true_eq] at hl'
        exact ev_new ok hM hi hq hl'.1.1.1 hl'.1.1.2 hl'.1.2 hl'.2 hc.2.1 hc.2.2 k
      · cases hs
    · cases hs
  · split at hs
    · split at hs
      · rename_i hc; cases hs; exact ev_newI ok hM hi hl hc.1 hc.2.1 hc.2.2.1 hc.2.2.2 k
      · cases hs
    · cases hs
  · split at hs
    · split at hs
      · rename_i hc; cases hs; exact ev_newC ok hM hi hl hc.1 hc.2.1 hc.2.2.1 hc.2.2.2 k
      · cases hs
    · cases hs
  · split at hs
    · split at hs
      · rename_i hc; cases hs; exact ev_newL ok hM hi hl hc.1 hc.2.1 hc.2.2.1 hc.2.2.2 k
      · cases hs
    · cases hs
  · have hl2 : _ ∧ _ := Bool.and_eq_true_iff.mp hl
    split at hs
    · split at hs
      · rename_i hc; cases hs; exact ev_newR ok hM hi hl2.1 hl2.2 hc.1 hc.2.1 hc.2.2.1 hc.2.2.2 k
      · cases hs
    · cases hs
  · cases hs
end EvSound
end
section
/-! the loop of a method, and its calls -/
section EvLoop
def ev_or (x y : Option ev_F) : Option ev_F := match x with
  | some F => some F
  | none => y
theorem ev_or_of {x y : Option ev_F} {F : ev_F} (hs : ev_or x y = some F) : x = some F ∨ y = some F := by
  cases x with
  | none => exact Or.inr hs
  | some z => exact Or.inl hs
def ev_csum (st : List Value) : Nat := (st.map fun v => v.category).sum
def ev_s0 (nd : Nat × Nat) (i : Instr) (a b pc : Nat) (L : List (Option Value)) (st : List Value) (h : ev_H) : Option ev_F := match i with
  | .invokespecial _ => (match st with | .ref x :: st => if a = 999 ∧ 1 ≤ nd.1 ∧ ev_csum st + 12 ≤ nd.2 then some (pc + 3, L, st, h) else none | _ => none)
  | .ldc _ => if b = 1 then some (pc + 2, L, .int (Int32.ofNat a) :: st, h) else none
  | _ => none
def ev_sim (cp : ev_P) (nd : Nat × Nat) (M : ev_M) (i : Instr) (a b pc : Nat) (L : List (Option Value)) (st : List Value) (h : ev_H) : Option ev_F :=
  ev_or (ev_s2 i pc L st h) (ev_or (ev_s1 i pc L st h) (ev_or (ev_s6 i pc L st h) (ev_or (ev_s4 i pc L st h) (ev_or (ev_s7 i a b pc L st h) (ev_or (ev_s8 i pc L st h) (ev_or (ev_s3 M.2.2.1 i pc L st h) (ev_or (ev_s5 i pc L st h) (ev_or (ev_s9 cp i a pc L st h) (ev_s0 nd i a b pc L st h)))))))))
def ev_fin (cp : ev_P) (nd : Nat × Nat) (M : ev_M) (i : Instr) (a : Nat) (st : List Value) (h : ev_H) : Option (ev_R × ev_H) := match i with
  | .ireturn => (match st with | [.int v] => (match M.2.2.2.1 with | some ty => if narrow ty (.int v) = .int v then some (.inl (some (.int v)), h) else none | none => none) | _ => none)
  | .return_ => (match st with | [] => (match M.2.2.2.1 with | none => some (.inl none, h) | some _ => none) | _ => none)
  | .areturn => (match st with | [.ref x] => (match M.2.2.2.1 with | some (.object _) => some (.inl (some (.ref x)), h) | some (.array _) => some (.inl (some (.ref x)), h) | _ => none) | _ => none)
  | .new _ => if ¬ a < ev_nc ∧ h.length + 1 ≤ cp.1 ∧ ev_cost h + 6 ≤ cp.2 ∧ 6 ≤ nd.1 ∧ ev_csum st + 82 ≤ nd.2 then some (.inr h.length, h ++ [.inr (a, [])]) else none
  | _ => none
def ev_cats (vs : List Value) : Bool := vs.all (fun v => decide (v.category = 1))
def ev_inv (i : Instr) (a b : Nat) (st : List Value) (h : ev_H) : Option (List Value × List Value) := match i with
  | .invokestatic _ => if b ≤ st.length ∧ ev_cats (st.take b) = true then some ((st.take b).reverse, st.drop b) else none
  | .invokevirtual _ => (match st.drop b with
    | .ref x :: rest => (match h[x]? with
      | some (.inr (ci, _)) => if ev_mcs[a]? = some ci ∧ b ≤ st.length ∧ ev_cats (st.take b) = true then some (.ref x :: (st.take b).reverse, rest) else none
      | _ => none)
    | _ => none)
  | .invokespecial _ => (match st.drop b with
    | .ref x :: rest => if a < 900 ∧ b ≤ st.length ∧ ev_cats (st.take b) = true then some (.ref x :: (st.take b).reverse, rest) else none
    | _ => none)
  | _ => none
def ev_loop (cp : ev_P) (nd : Nat × Nat) (call : Nat → List Value → ev_H → Option (ev_R × ev_H)) (M : ev_M) : Nat → Nat → List (Option Value) → List Value → ev_H → Option (ev_R × ev_H)
  | 0, _, _, _, _ => none
  | n + 1, pc, L, st, h => match ev_ins M pc with
    | none => none
    | some (i, a, b) => match ev_sim cp nd M i a b pc L st h with
      | some F => ev_loop cp nd call M n F.1 F.2.1 F.2.2.1 F.2.2.2
      | none => match ev_fin cp nd M i a st h with
        | some r => some r
        | none => match ev_inv i a b st h with
          | none => none
          | some (vs, rest) => match ev_prog[a]? with
           | none => none
           | some M' => if (ev_nd a).1 + 1 ≤ nd.1 ∧ ev_csum rest + (M'.2.2.1 + 11) + (ev_nd a).2 ≤ nd.2 then (match call a vs h with
            | none => none
            | some (.inl v, h') => ev_loop cp nd call M n (pc + 3) L (v.toList ++ rest) h'
            | some (.inr x, h') => (match M.2.2.2.2.1 with | [] => (match h'[x]? with | some (.inr (_, [])) => some (.inr x, h') | _ => none) | _ => none)) else none
def ev_call (cp : ev_P) (N : Nat) : Nat → Nat → List Value → ev_H → Option (ev_R × ev_H)
  | 0, _, _, _ => none
  | d + 1, k, vs, h => match ev_prog[k]? with
    | none => none
    | some M => ev_loop cp (ev_nd k) (ev_call cp N d) M N 0 (ev_L0 M.2.2.1 vs) [] h
variable {w : ev_W} {M : ev_M} {d : Nat × Nat} {h0 : ev_H} {Q : ev_R → ev_H → Prop} {pc : Nat} {L : List (Option Value)} {st : List Value} {h : ev_H} {a b : Nat} {i : Instr}
theorem ev_s0_ok (ok : ev_ok w) (hM : ev_dec M = true) (hk : ev_lnks M = true) (hi : ev_ins M pc = some (i, a, b)) {F : ev_F} (hs : ev_s0 d i a b pc L st h = some F) (k : ev_G w M d h0 Q F.1 F.2.1 F.2.2.1 F.2.2.2) : ev_G w M d h0 Q pc L st h := by
  have hl := ev_lnk_at hk hi
  unfold ev_s0 at hs
  split at hs
  · split at hs
    · split at hs
      · rename_i hc
        obtain ⟨hc1, hc2, hc3⟩ := hc
        subst hc1
        cases hs
        rename_i idx _ _ _
        have hl3 : (ev_has (.methodLink M.1.cls idx Lib.objectInit) && ev_has (.instanceMethod Lib.objectInit) && ev_has (.code Lib.objectInit ⟨#[0xb1]⟩ 1 none)) = true := hl
        simp only [Bool.and_eq_true] at hl3
        exact ev_objInit ok hM hi hl3.1.1 hl3.1.2 hl3.2 hc2 hc3 k
      · cases hs
    · cases hs
  · split at hs
    · rename_i hc
      subst hc
      cases hs
      simp only [ev_lnk] at hl
      exact ev_ldc ok hM hi hl k
    · cases hs
  · cases hs
def ev_cpw (w : ev_W) : ev_P := (w.2.2.2.2.2.2.1, w.2.2.2.2.2.2.2.1)
theorem ev_sim_ok (ok : ev_ok w) (hM : ev_dec M = true) (hk : ev_lnks M = true) (hi : ev_ins M pc = some (i, a, b)) {F : ev_F} (hs : ev_sim (ev_cpw w) d M i a b pc L st h = some F) (k : ev_G w M d h0 Q F.1 F.2.1 F.2.2.1 F.2.2.2) : ev_G w M d h0 Q pc L st h := by
  unfold ev_sim at hs
  rcases ev_or_of hs with hs | hs
  · exact ev_s2_ok hM hi hs k
  rcases ev_or_of hs with hs | hs
  · exact ev_s1_ok hM hi hs k
  rcases ev_or_of hs with hs | hs
  · exact ev_s6_ok hM hi hs k
  rcases ev_or_of hs with hs | hs
  · exact ev_s4_ok hM hi hs k
  rcases ev_or_of hs with hs | hs
  · exact ev_s7_ok ok hM hk hi hs k
  rcases ev_or_of hs with hs | hs
  · exact ev_s8_ok ok hM hi hs k
  rcases ev_or_of hs with hs | hs
  · exact ev_s3_ok hM hi hs k
  rcases ev_or_of hs with hs | hs
  · exact ev_s5_ok hM hi hs k
  rcases ev_or_of hs with hs | hs
  · exact ev_s9_ok ok hM hk hi hs k
  · exact ev_s0_ok ok hM hk hi hs k
theorem ev_fin_ok (ok : ev_ok w) (hsp : ∀ x ∈ ev_sp, x.before w.2.2.1 w.2.1 = true) (hM : ev_dec M = true) (hk : ev_lnks M = true) (hi : ev_ins M pc = some (i, a, b)) {r : ev_R} {h' : ev_H} (hs : ev_fin (ev_cpw w) d M i a st h = some (r, h')) (hQ : Q r h') : ev_G w M d h0 Q pc L st h := by
  have hl := ev_lnk_at hk hi
  unfold ev_fin at hs
  split at hs
  · split at hs
    · split at hs
      · rename_i hr
        split at hs
        · rename_i hn
          cases hs
          exact ev_ireturn hM hi hr hn hQ
        · cases hs
      · cases hs
    · cases hs
  · split at hs
    · split at hs
      · rename_i hr
        cases hs
        exact ev_return hM hi hr hQ
      · cases hs
    · cases hs
  · split at hs
    · split at hs
      · rename_i hr
        cases hs
        exact ev_areturn hM hi hr (Or.inl ⟨_, rfl⟩) hQ
      · rename_i hr
        cases hs
        exact ev_areturn hM hi hr (Or.inr ⟨_, rfl⟩) hQ
      · cases hs
    · cases hs
  · split at hs
    · rename_i hc
      cases hs
      have hl' : (if a < ev_nc then ev_lkn M.1.cls _ a else ev_thr M pc _ a) = true := hl
      rw [if_neg hc.1] at hl'
      simp only [ev_thr, Bool.or_eq_true] at hl'
      rcases hl' with hl' | hl'
      · unfold ev_thr1 at hl'
        split at hl'
        · rename_i hq i3 i4 i6 i9
          simp only [Bool.and_eq_true, decide_eq_true_eq] at hl'
          obtain ⟨⟨⟨q1, q2⟩, q3⟩, q4⟩ := hl'
          exact ev_throw ok hsp hM hq q1 q2 hi i3 i4 i6 i9 q3 (fun z hz => by simpa only [Bool.not_eq_true'] using List.all_eq_true.mp q4 z hz) hc.2.2.2.1 hc.2.2.2.2 hc.2.1 hc.2.2.1 hQ
        · cases hl'
      · unfold ev_thr2 at hl'
        split at hl'
        · rename_i hq i3 i4 i6 i9
          simp only [Bool.and_eq_true, decide_eq_true_eq] at hl'
          obtain ⟨⟨⟨q1, q2⟩, q3⟩, q4⟩ := hl'
          exact ev_throwW ok hsp hM hq q1 q2 hi i3 i4 i6 i9 q3 (fun z hz => by simpa only [Bool.not_eq_true'] using List.all_eq_true.mp q4 z hz) hc.2.2.2.1 hc.2.2.2.2 hc.2.1 hc.2.2.1 hQ
        · cases hl'
    · cases hs
  · cases hs
theorem ev_cats_of {vs : List Value} (hc : ev_cats vs = true) : ∀ v ∈ vs, v.category = 1 := fun v hv => of_decide_eq_true (List.all_eq_true.mp hc v hv)
theorem ev_lkm_of {own : String} {idx : Nat} {M' : ev_M} (hl : ev_lkm own idx M' = true) : ev_has (.methodLink own idx M'.1) = true ∨ ev_has (.methodLinkNest own idx M'.1 ev_host) = true := by
  simpa only [ev_lkm, Bool.or_eq_true] using hl
theorem ev_inv_ok {d' : Nat × Nat} (ok : ev_ok w) (hM : ev_dec M = true) (hk : ev_lnks M = true) (hi : ev_ins M pc = some (i, a, b)) {vs rest : List Value} (hs : ev_inv i a b st h = some (vs, rest)) {M' : ev_M} (hp : ev_prog[a]? = some M') (hm : ev_mw M' = true) {Q' : ev_R → ev_H → Prop}
    (hdf : d'.1 + 1 ≤ d.1) (hgs : ev_csum rest + (M'.2.2.1 + 11) + d'.2 ≤ d.2) (K : ev_G w M' d' h Q' 0 (ev_L0 M'.2.2.1 vs) [] h) (kk : ∀ (v : Option Value) (h' : ev_H), Q' (.inl v) h' → ev_G w M d h0 Q (pc + 3) L (v.toList ++ rest) h')
    (kx : ∀ (k ce : Nat) (h' : ev_H), Q' (.inr k) h' → h'[k]? = some (.inr (ce, [])) → ev_X w M d h0 Q pc L rest h' k) : ev_G w M d h0 Q pc L st h := by
  have hl := ev_lnk_at hk hi
  unfold ev_inv at hs
  split at hs
  · split at hs
    · rename_i hc
      obtain ⟨c1, c2⟩ := hc
      cases hs
      simp only [ev_lnk, hp, Bool.and_eq_true, decide_eq_true_eq] at hl
      obtain ⟨⟨⟨l1, l2⟩, l3⟩, l4⟩ := hl
      have hlen : (st.take b).reverse.length = b := by rw [List.length_reverse, List.length_take]; omega
      have h1 := ev_callS (vs := (st.take b).reverse) (st := st.drop b) ok hM hi hm (ev_lkm_of l1) l2 (by rw [hlen]; exact l3) (by rw [hlen]; exact l4) (fun v hv => ev_cats_of c2 v (List.mem_reverse.mp hv)) hdf hgs K kk kx
      rw [List.reverse_reverse, List.take_append_drop] at h1
      exact h1
    · cases hs
  · split at hs
    · rename_i x rest' hst
      split at hs
      · rename_i ci fs hx
        split at hs
        · rename_i hc
          obtain ⟨c0, c1, c2⟩ := hc
          cases hs
          simp only [ev_lnk, hp, c0, Option.getD_some] at hl
          cases hq : ev_cl[ci]? with
          | none => rw [hq] at hl; cases hl
          | some q =>
            rw [hq] at hl
            simp only [Bool.and_eq_true, decide_eq_true_eq] at hl
            obtain ⟨⟨⟨⟨⟨l1, l2⟩, l3⟩, l4⟩, l5⟩, l6⟩ := hl
            have hlen : (st.take b).reverse.length = b := by rw [List.length_reverse, List.length_take]; omega
            have h1 := ev_callV (vs := (st.take b).reverse) (st := rest) ok hM hi hm (ev_lkm_of l1) l2 l3 hx hq l6 (by rw [hlen]; exact l4) (by rw [hlen]; exact l5) (fun v hv => ev_cats_of c2 v (List.mem_reverse.mp hv)) hdf hgs K kk kx
            rw [List.reverse_reverse, ← hst, List.take_append_drop] at h1
            exact h1
        · cases hs
      · cases hs
    · cases hs
  · split at hs
    · rename_i x rest' hst
      split at hs
      · rename_i hc
        obtain ⟨c0, c1, c2⟩ := hc
        cases hs
        have n1 : ¬ a = 998 := by omega
        have n2 : ¬ a = 999 := by omega
        simp only [ev_lnk, hp, if_neg n1, if_neg n2, Bool.and_eq_true, decide_eq_true_eq] at hl
        obtain ⟨⟨⟨⟨⟨⟨l1, l2⟩, l3⟩, l4⟩, l5⟩, l6⟩, l7⟩ := hl
        have hlen : (st.take b).reverse.length = b := by rw [List.length_reverse, List.length_take]; omega
        have h1 := ev_callI (vs := (st.take b).reverse) (st := rest) ok hM hi hm l6 l7 (ev_lkm_of l1) l2 l5 (by rw [hlen]; exact l3) (by rw [hlen]; exact l4) (fun v hv => ev_cats_of c2 v (List.mem_reverse.mp hv)) hdf hgs K kk kx
        rw [List.reverse_reverse, ← hst, List.take_append_drop] at h1
        exact h1
      · cases hs
    · cases hs
  · cases hs
theorem ev_loop_ok (ok : ev_ok w) (hsp : ∀ x ∈ ev_sp, x.before w.2.2.1 w.2.1 = true) (hM : ev_dec M = true) (hk : ev_lnks M = true) {call : Nat → List Value → ev_H → Option (ev_R × ev_H)}
    (hcall : ∀ (k : Nat) (vs : List Value) (h1 : ev_H) (r : ev_R) (h2 : ev_H), call k vs h1 = some (r, h2) → ∃ M', ev_prog[k]? = some M' ∧ ev_mw M' = true ∧ ev_G w M' (ev_nd k) h1 (fun r' h' => r' = r ∧ h' = h2) 0 (ev_L0 M'.2.2.1 vs) [] h1) {r : ev_R} {h2 : ev_H} :
    ∀ (n pc : Nat) (L : List (Option Value)) (st : List Value) (h : ev_H), ev_loop (ev_cpw w) d call M n pc L st h = some (r, h2) → ev_G w M d h0 (fun r' h' => r' = r ∧ h' = h2) pc L st h := by
  intro n
  induction n with
  | zero => intro pc L st h hs; cases hs
  | succ n ih =>
    intro pc L st h hs
    rw [ev_loop] at hs
    split at hs
    · cases hs
    · rename_i i a b hi
      split at hs
      · rename_i F hF
        exact ev_sim_ok ok hM hk hi hF (ih _ _ _ _ hs)
      · split at hs
        · rename_i r1 hr
          cases hs
          exact ev_fin_ok ok hsp hM hk hi hr ⟨rfl, rfl⟩
        · split at hs
          · cases hs
          · rename_i vs rest hv
            split at hs
            · cases hs
            rename_i M1 hM1
            split at hs
            rotate_left
            · cases hs
            rename_i hroom
            split at hs
            · cases hs
            · rename_i v h' hc
              obtain ⟨M', q1, q2, q3⟩ := hcall _ _ _ _ _ hc
              cases hM1.symm.trans q1
              refine ev_inv_ok ok hM hk hi hv q1 q2 hroom.1 hroom.2 q3 (fun v1 h1 hq => ?_) (fun k ce h1 hq _ => ?_)
              · obtain ⟨e1, rfl⟩ := hq
                cases e1
                exact ih _ _ _ _ hs
              · cases hq.1
            · rename_i x h' hc
              obtain ⟨M', q1, q2, q3⟩ := hcall _ _ _ _ _ hc
              cases hM1.symm.trans q1
              split at hs
              · rename_i hh
                split at hs
                · rename_i ce hx
                  cases hs
                  refine ev_inv_ok ok hM hk hi hv q1 q2 hroom.1 hroom.2 q3 (fun v1 h1 hq => ?_) (fun k ce' h1 hq hce => ?_)
                  · cases hq.1
                  · obtain ⟨e1, rfl⟩ := hq
                    cases e1
                    exact ev_leaves hce (by rw [hh]; intro q hq; cases hq) ⟨rfl, rfl⟩
                · cases hs
              · cases hs
theorem ev_call_ok (ok : ev_ok w) (hsp : ∀ x ∈ ev_sp, x.before w.2.2.1 w.2.1 = true) (hpr : ∀ M ∈ ev_prog, ev_mw M = true ∧ ev_lnks M = true) {N : Nat} : ∀ (d k : Nat) (vs : List Value) (h1 : ev_H) (r : ev_R) (h2 : ev_H), ev_call (ev_cpw w) N d k vs h1 = some (r, h2) →
    ∃ M', ev_prog[k]? = some M' ∧ ev_mw M' = true ∧ ev_G w M' (ev_nd k) h1 (fun r' h' => r' = r ∧ h' = h2) 0 (ev_L0 M'.2.2.1 vs) [] h1 := by
  intro d
  induction d with
  | zero => intro k vs h1 r h2 hs; cases hs
  | succ d ih =>
    intro k vs h1 r h2 hs
    rw [ev_call] at hs
    split at hs
    · cases hs
    · rename_i M' hp
      obtain ⟨m1, m2⟩ := hpr M' (List.mem_of_getElem? hp)
      have m3 : ev_dec M' = true := by
        simp only [ev_mw, Bool.and_eq_true] at m1
        exact m1.2
      exact ⟨M', hp, m1, ev_loop_ok ok hsp m3 m2 ih N 0 _ [] h1 hs⟩
end EvLoop
end
section
/-! from the law's entry to the small machine -/
section EvStart
theorem ev_cl_inst : ((List.range 15).all (fun c => match ev_cl[c]? with | some q => ev_has (.instantiable q.1 (ev_sz c)) | none => true)) = true := by decide +kernel
theorem ev_arrs : (ev_has (.arrayClass .int) && ev_has (.arrayClass .char) && ev_has (.arrayClass .long) && ev_has (.arrayOver (.object ev_Let))) = true := by decide +kernel
theorem ev_arr_of {args : Array Value} {s : State} {ty : FieldType} (h : (Cond.arrayClass ty).before args s = true) : ∃ cA, ArrOfT s cA ty ∧ s.vm.findClass ("[" ++ ty.toString) = some cA := by
  obtain ⟨c, k, comp, h1, h2, h3⟩ := Cond.arrayClass_spec h
  exact ⟨c, fun n z => ⟨(fun k h => by cases h), k, h2, comp, h3⟩, h1⟩
/-- the world of a run -/
def ev_w0 (l : Launch) (s : State) (b L : Nat) (xs : Nat → Int32) (D : va_G) (tA : Nat → ClassId) : ev_W := (l, s, #[.ref b], D, tA, b, 601024, 7293034, L, xs)
theorem ev_world {l : Launch} {s : State} {b L : Nat} {xs : Nat → Int32} (hl : l.stackTraces = false) (hts : ∀ w ∈ lw_tbl, w.before #[Value.ref b] s = true) (hX : va_X b L xs s s.heap) (hb : b < s.heap.size) :
    ∃ (D : va_G) (tA : Nat → ClassId), ev_ok (ev_w0 l s b L xs D tA) := by
  have key : ∀ c : Nat, ∃ (cC : ClassId) (iS : Nat → Nat), ∀ q : vw_C, ev_cl[c]? = some q → u_Kn s q.1 q.2.1 q.2.2 cC iS := by
    intro c
    cases hc : ev_cl[c]? with
    | none => exact ⟨0, fun _ => 0, fun q hq => by cases hq⟩
    | some q =>
      have hlt : c < 15 := (List.getElem?_eq_some_iff.mp hc).1
      have h1 := List.all_eq_true.mp ev_cl_inst c (List.mem_range.mpr hlt)
      rw [hc] at h1
      have hg : ∀ x ∈ ev_Tg, x.before #[Value.ref b] s = true := fun x hx => hts x (List.mem_filter.mp hx).1
      obtain ⟨cC, iS, hK⟩ := u_known hg (ev_clq_in (ev_cl_q hc)) (hts _ (ev_has_in h1).1)
      exact ⟨cC, iS, fun q' hq' => by cases hq'; exact hK⟩
  have ha := ev_arrs
  simp only [Bool.and_eq_true] at ha
  obtain ⟨c0, a0, b0⟩ := ev_arr_of (hts _ (ev_has_in ha.1.1.1).1)
  obtain ⟨c1, a1, b1⟩ := ev_arr_of (hts _ (ev_has_in ha.1.1.2).1)
  obtain ⟨c2, a2, b2⟩ := ev_arr_of (hts _ (ev_has_in ha.1.2).1)
  obtain ⟨comp, c3, k3, g1, g2, g3, g4, g5⟩ := Cond.arrayOver_spec (hts _ (ev_has_in ha.2).1)
  refine ⟨(fun c => Classical.choose (key c), fun c => Classical.choose (Classical.choose_spec (key c))), fun k => if k = 0 then c0 else if k = 1 then c1 else if k = 2 then c2 else c3, hts, ⟨fun c q hq => Classical.choose_spec (Classical.choose_spec (key c)) q hq, ?_⟩, hl, hX, hb⟩
  intro k q hq
  match k, hq with
  | 0, hq => cases hq; exact ⟨a0, b0⟩
  | 1, hq => cases hq; exact ⟨a1, b1⟩
  | 2, hq => cases hq; exact ⟨a2, b2⟩
  | 3, hq => cases hq; exact ⟨fun n z => ⟨(fun k h => by cases h), k3, g3, comp, g4⟩, k3, comp, g3, g4, g1, g5⟩
  | n + 4, hq => cases hq
/-- what the law's end owes: 1 -/
def ev_one (r : ev_R) (_ : ev_H) : Prop := r = .inl (some (.int 1))
theorem ev_law_end {l : Launch} {s : State} {b L : Nat} {xs : Nat → Int32} {D : va_G} {tA : Nat → ClassId} {below : List Frame} {t : State} (hq : ev_PQ (ev_w0 l s b L xs D tA) [] ev_one below s t) :
    ∃ o, t.status = .running ∧ Ended t below o ∧ o = .returned (some (.int 1)) ∧ Framed s o t [] 601024 7293034 := by
  obtain ⟨o, h1, h2, r, h', hQ, hout, -, -, -, g3, g4, hW, Lc, hsame, hLc⟩ := hq
  cases hQ
  have ho : o = .returned (some (.int 1)) := hout
  refine ⟨o, h1, h2, ho, ⟨_, ho⟩, hW, hsame.weaken (fun x hx hlt => ?_) ?_ ?_⟩
  · have h3 : s.heap.size ≤ x.base := hLc x hx
    exact absurd hlt (Nat.not_lt.mpr h3)
  · have h3 : h'.length ≤ 601024 := g3
    omega
  · have h3 : ev_cost h' ≤ 7293034 := g4
    omega
theorem ev_law_start {p : Program} {l : Launch} {e : Env} {s : State} {m : MethodId} {below : List Frame} {meth : Method} {c : Code} {b L : Nat} {xs : Nat → Int32} {D : va_G} {tA : Nat → ClassId}
    (hx : p.tables.exec = Jvm.exec) (hb : c.code = code) (hr : meth.sig.returnType = ret) (hml : c.maxLocals = 7) (hown : s.vm.findClass "WitnessBenchLaw" = some m.cls) (hlocks : meth.locks = false) (hname : meth.name = "law") (hexc : c.exceptionTable = #[])
    (K : ev_G (ev_w0 l s b L xs D tA) ev_mlaw (12, 434) [] ev_one 0 (ev_L0 7 [.retAddr 0]) [] []) :
    ∀ T : State, T.heap = s.heap → Stand p l e room_1 s m #[Value.ref b] below meth c T [] 0 0 → ∃ t, Steps p.tables e below (T.setTop (entryFrame m ([Value.ref b] : List Value).toArray 7)) t ∧ ev_PQ (ev_w0 l s b L xs D tA) [] ev_one below s t := by
  have hls := ev_entry (ev_w0 l s b L xs D tA) [.retAddr 0] 7 (by simp [Value.category]) (by decide)
  have h1 := K p e room_1 s m #[Value.ref b] below meth c s.heap [] _ ⟨⟨hx, hb, hml, hr, hlocks, hown, hname, by rw [hexc]; rfl, State.WarmedH.refl s⟩,
    ⟨fun k q hq => by simp [ev_ws] at hq, rfl, fun q hq => rfl⟩, ⟨Nat.le_refl _, Nat.le_refl _, by show 601024 ≤ 0 + 601024; omega, by show 7293034 ≤ 0 + 7293034; omega⟩, fun k q hq => by simp [ev_ws] at hq, va_S.rf, hls, Nat.le_refl _, Nat.le_refl _, Nat.zero_le _, Nat.zero_le _⟩
  rw [lg_entry_eq]
  exact h1
end EvStart
end
section
/-! the shapes of the cells that the two constructors make: arrays of numbers (kind, length), arrays of references (length, first, step), objects (class, fields: a fixed reference or a number) -/
section EvShape
abbrev ev_Sh : Type := (Nat × Nat) ⊕ (Nat × Nat × Nat) ⊕ (Nat × List (Option Nat))
def ev_sh0 : List ev_Sh := [.inr (.inr (9, [some 1, some 3, some 5, some 40, some 209, some 213, some 217, some 219, some 270, none, some 271, some 273])), .inr (.inr (0, [some 2, none])), .inl (1, 8), .inr (.inr (0, [some 4, none])), .inl (1, 16), .inr (.inr (1, [some 6, some 7, none])), .inr (.inl (8, 8, 4)), .inr (.inl (8, 10, 4)), .inr (.inr (0, [some 9, none])), .inl (1, 3), .inr (.inr (0, [some 11, none])), .inl (1, 2), .inr (.inr (0, [some 13, none])), .inl (1, 3), .inr (.inr (0, [some 15, none])), .inl (1, 2), .inr (.inr (0, [some 17, none])), .inl (1, 3), .inr (.inr (0, [some 19, none])), .inl (1, 2), .inr (.inr (0, [some 21, none])), .inl (1, 3), .inr (.inr (0, [some 23, none])), .inl (1, 2), .inr (.inr (0, [some 25, none])), .inl (1, 3), .inr (.inr (0, [some 27, none])), .inl (1, 2), .inr (.inr (0, [some 29, none])), .inl (1, 3), .inr (.inr (0, [some 31, none])), .inl (1, 2), .inr (.inr (0, [some 33, none])), .inl (1, 3), .inr (.inr (0, [some 35, none])), .inl (1, 2), .inr (.inr (0, [some 37, none])), .inl (1, 3), .inr (.inr (0, [some 39, none])), .inl (1, 2), .inr (.inr (2, [some 41, some 42, some 203, some 204, some 205, some 206, some 207, none, some 208])), .inr (.inl (40, 43, 4)), .inr (.inl (40, 45, 4)), .inr (.inr (0, [some 44, none])), .inl (1, 6), .inr (.inr (0, [some 46, none])), .inl (1, 12), .inr (.inr (0, [some 48, none])), .inl (1, 6), .inr (.inr (0, [some 50, none]))]
def ev_sh1 : List ev_Sh := [.inl (1, 12), .inr (.inr (0, [some 52, none])), .inl (1, 6), .inr (.inr (0, [some 54, none])), .inl (1, 12), .inr (.inr (0, [some 56, none])), .inl (1, 6), .inr (.inr (0, [some 58, none])), .inl (1, 12), .inr (.inr (0, [some 60, none])), .inl (1, 6), .inr (.inr (0, [some 62, none])), .inl (1, 12), .inr (.inr (0, [some 64, none])), .inl (1, 6), .inr (.inr (0, [some 66, none])), .inl (1, 12), .inr (.inr (0, [some 68, none])), .inl (1, 6), .inr (.inr (0, [some 70, none])), .inl (1, 12), .inr (.inr (0, [some 72, none])), .inl (1, 6), .inr (.inr (0, [some 74, none])), .inl (1, 12), .inr (.inr (0, [some 76, none])), .inl (1, 6), .inr (.inr (0, [some 78, none])), .inl (1, 12), .inr (.inr (0, [some 80, none])), .inl (1, 6), .inr (.inr (0, [some 82, none])), .inl (1, 12), .inr (.inr (0, [some 84, none])), .inl (1, 6), .inr (.inr (0, [some 86, none])), .inl (1, 12), .inr (.inr (0, [some 88, none])), .inl (1, 6), .inr (.inr (0, [some 90, none])), .inl (1, 12), .inr (.inr (0, [some 92, none])), .inl (1, 6), .inr (.inr (0, [some 94, none])), .inl (1, 12), .inr (.inr (0, [some 96, none])), .inl (1, 6), .inr (.inr (0, [some 98, none])), .inl (1, 12), .inr (.inr (0, [some 100, none]))]
def ev_sh2 : List ev_Sh := [.inl (1, 6), .inr (.inr (0, [some 102, none])), .inl (1, 12), .inr (.inr (0, [some 104, none])), .inl (1, 6), .inr (.inr (0, [some 106, none])), .inl (1, 12), .inr (.inr (0, [some 108, none])), .inl (1, 6), .inr (.inr (0, [some 110, none])), .inl (1, 12), .inr (.inr (0, [some 112, none])), .inl (1, 6), .inr (.inr (0, [some 114, none])), .inl (1, 12), .inr (.inr (0, [some 116, none])), .inl (1, 6), .inr (.inr (0, [some 118, none])), .inl (1, 12), .inr (.inr (0, [some 120, none])), .inl (1, 6), .inr (.inr (0, [some 122, none])), .inl (1, 12), .inr (.inr (0, [some 124, none])), .inl (1, 6), .inr (.inr (0, [some 126, none])), .inl (1, 12), .inr (.inr (0, [some 128, none])), .inl (1, 6), .inr (.inr (0, [some 130, none])), .inl (1, 12), .inr (.inr (0, [some 132, none])), .inl (1, 6), .inr (.inr (0, [some 134, none])), .inl (1, 12), .inr (.inr (0, [some 136, none])), .inl (1, 6), .inr (.inr (0, [some 138, none])), .inl (1, 12), .inr (.inr (0, [some 140, none])), .inl (1, 6), .inr (.inr (0, [some 142, none])), .inl (1, 12), .inr (.inr (0, [some 144, none])), .inl (1, 6), .inr (.inr (0, [some 146, none])), .inl (1, 12), .inr (.inr (0, [some 148, none])), .inl (1, 6), .inr (.inr (0, [some 150, none]))]
def ev_sh3 : List ev_Sh := [.inl (1, 12), .inr (.inr (0, [some 152, none])), .inl (1, 6), .inr (.inr (0, [some 154, none])), .inl (1, 12), .inr (.inr (0, [some 156, none])), .inl (1, 6), .inr (.inr (0, [some 158, none])), .inl (1, 12), .inr (.inr (0, [some 160, none])), .inl (1, 6), .inr (.inr (0, [some 162, none])), .inl (1, 12), .inr (.inr (0, [some 164, none])), .inl (1, 6), .inr (.inr (0, [some 166, none])), .inl (1, 12), .inr (.inr (0, [some 168, none])), .inl (1, 6), .inr (.inr (0, [some 170, none])), .inl (1, 12), .inr (.inr (0, [some 172, none])), .inl (1, 6), .inr (.inr (0, [some 174, none])), .inl (1, 12), .inr (.inr (0, [some 176, none])), .inl (1, 6), .inr (.inr (0, [some 178, none])), .inl (1, 12), .inr (.inr (0, [some 180, none])), .inl (1, 6), .inr (.inr (0, [some 182, none])), .inl (1, 12), .inr (.inr (0, [some 184, none])), .inl (1, 6), .inr (.inr (0, [some 186, none])), .inl (1, 12), .inr (.inr (0, [some 188, none])), .inl (1, 6), .inr (.inr (0, [some 190, none])), .inl (1, 12), .inr (.inr (0, [some 192, none])), .inl (1, 6), .inr (.inr (0, [some 194, none])), .inl (1, 12), .inr (.inr (0, [some 196, none])), .inl (1, 6), .inr (.inr (0, [some 198, none])), .inl (1, 12), .inr (.inr (0, [some 200, none]))]
def ev_sh4 : List ev_Sh := [.inl (1, 6), .inr (.inr (0, [some 202, none])), .inl (1, 12), .inl (0, 4), .inl (0, 40), .inl (0, 40), .inl (0, 6), .inl (0, 6), .inl (0, 13), .inr (.inr (3, [some 210, some 211, none, some 212, none, none])), .inl (0, 96), .inl (0, 24), .inl (0, 4), .inr (.inr (4, [some 214, some 215, some 216, none, none, none])), .inl (0, 275), .inl (0, 275), .inl (0, 34), .inr (.inr (5, [some 218, none])), .inl (1, 1920), .inr (.inr (6, [some 220, none, some 269, none, none, none, none])), .inr (.inl (24, 221, 2)), .inr (.inr (0, [some 222, none])), .inl (1, 12), .inr (.inr (0, [some 224, none])), .inl (1, 12), .inr (.inr (0, [some 226, none])), .inl (1, 12), .inr (.inr (0, [some 228, none])), .inl (1, 12), .inr (.inr (0, [some 230, none])), .inl (1, 12), .inr (.inr (0, [some 232, none])), .inl (1, 12), .inr (.inr (0, [some 234, none])), .inl (1, 12), .inr (.inr (0, [some 236, none])), .inl (1, 12), .inr (.inr (0, [some 238, none])), .inl (1, 12), .inr (.inr (0, [some 240, none])), .inl (1, 12), .inr (.inr (0, [some 242, none])), .inl (1, 12), .inr (.inr (0, [some 244, none])), .inl (1, 12), .inr (.inr (0, [some 246, none])), .inl (1, 12), .inr (.inr (0, [some 248, none])), .inl (1, 12), .inr (.inr (0, [some 250, none]))]
def ev_sh5 : List ev_Sh := [.inl (1, 12), .inr (.inr (0, [some 252, none])), .inl (1, 12), .inr (.inr (0, [some 254, none])), .inl (1, 12), .inr (.inr (0, [some 256, none])), .inl (1, 12), .inr (.inr (0, [some 258, none])), .inl (1, 12), .inr (.inr (0, [some 260, none])), .inl (1, 12), .inr (.inr (0, [some 262, none])), .inl (1, 12), .inr (.inr (0, [some 264, none])), .inl (1, 12), .inr (.inr (0, [some 266, none])), .inl (1, 12), .inr (.inr (0, [some 268, none])), .inl (1, 12), .inl (0, 24), .inl (0, 40), .inr (.inr (7, [some 272, none])), .inl (0, 150), .inr (.inr (8, [some 274, some 275, some 276])), .inl (0, 4), .inl (0, 4), .inl (0, 16), .inr (.inr (10, [none, some 278, none, some 279, some 280, some 281, some 282, some 283, some 284, none, some 285, some 286, some 287, some 288, none, some 289, some 290, some 291, none, none, some 292, none, none, some 293, some 294, some 295, some 296, some 297, none, some 298, none, none, none, none, none, some 299, some 300, none, some 301, some 302, none, some 303, none, some 304, some 305, some 306, none])), .inl (0, 8), .inl (0, 4), .inl (0, 240), .inl (0, 40), .inl (0, 480), .inl (0, 40), .inl (0, 40), .inl (0, 24), .inl (0, 8), .inl (0, 16), .inl (0, 8), .inl (0, 6), .inl (0, 6), .inl (0, 16), .inl (0, 4), .inl (0, 96), .inl (0, 24), .inl (0, 4), .inl (0, 275), .inl (0, 169), .inl (0, 2400), .inl (0, 24)]
def ev_sh6 : List ev_Sh := [.inl (0, 288), .inl (0, 24), .inl (0, 288), .inl (0, 40), .inl (0, 180), .inl (0, 4), .inl (0, 4)]
def ev_shs : List ev_Sh := ev_sh0 ++ ev_sh1 ++ ev_sh2 ++ ev_sh3 ++ ev_sh4 ++ ev_sh5 ++ ev_sh6
/-- the first numbers -/
def ev_M0 : Nat → Nat → Int32 := fun k j => if (k, j) ∈ ([(209, 5), (274, 0), (274, 1), (274, 2), (274, 3), (277, 21), (295, 0), (295, 1), (295, 2), (295, 3)] : List (Nat × Nat)) then -1 else 0
def ev_fld (M : Nat → Nat → Int32) (k j : Nat) (r : Option Nat) : Value := match r with
  | some x => .ref x
  | none => .int (M k j)
def ev_cell (M : Nat → Nat → Int32) (k : Nat) (s : ev_Sh) : ev_E := match s with
  | .inl (t, n) => .inl (t, n, .inl (M k))
  | .inr (.inl (n, a, d)) => .inl (3, n, .inr (.inr (.inr (.inr (fun j => some (a + d * j))))))
  | .inr (.inr (c, fs)) => .inr (c, fs.mapIdx (fun j r => ev_fld M k j r))
/-- the heap of the two objects, with the numbers M -/
def ev_st (M : Nat → Nat → Int32) : ev_H := ev_shs.mapIdx (fun k s => ev_cell M k s)
def ev_st1 (M : Nat → Nat → Int32) : ev_H := (ev_shs.take 277).mapIdx (fun k s => ev_cell M k s)
end EvShape
end
section
/-! heaps that are alike within their arrays' bounds; the constructors, run -/
section EvCtor
def ev_sameb (x y : ev_E) : Bool := match x, y with
  | .inl (t, n, .inl f), .inl (t', n', .inl f') => decide (t = t') && decide (n = n') && (List.range n).all (fun j => decide (f j = f' j))
  | .inl (t, n, .inr (.inl f)), .inl (t', n', .inr (.inl f')) => decide (t = t') && decide (n = n') && (List.range n).all (fun j => decide (f j = f' j))
  | .inl (t, n, .inr (.inr (.inr (.inr f)))), .inl (t', n', .inr (.inr (.inr (.inr f')))) => decide (t = t') && decide (n = n') && (List.range n).all (fun j => decide (f j = f' j))
  | .inr (c, fs), .inr (c', fs') => decide (c = c') && decide (fs = fs')
  | _, _ => false
theorem ev_arrV_ext (cA : ClassId) (n : Nat) {f g : Nat → Value} (h : ∀ j, j < n → f j = g j) : arrV cA n f = arrV cA n g := by
  unfold arrV
  have e : (Array.ofFn (n := n) fun j => f j.val) = (Array.ofFn (n := n) fun j => g j.val) := by
    apply Array.ext
    · simp
    · intro j h1 h2
      simp only [Array.getElem_ofFn]
      exact h j (by simpa using h1)
  rw [e]
theorem ev_sameb_of {x y : ev_E} (h : ev_sameb x y = true) (w : ev_W) (D : va_G) (k : Nat) (H : Heap) : va_at D ev_cl (k, ev_e w y) H → va_at D ev_cl (k, ev_e w x) H := by
  unfold ev_sameb at h
  split at h
  · simp only [Bool.and_eq_true, decide_eq_true_eq, List.all_eq_true, List.mem_range] at h
    obtain ⟨⟨rfl, rfl⟩, h3⟩ := h
    intro hv
    exact hv.trans (congrArg some (ev_arrV_ext _ _ (fun j hj => congrArg Value.int (h3 j hj))).symm)
  · simp only [Bool.and_eq_true, decide_eq_true_eq, List.all_eq_true, List.mem_range] at h
    obtain ⟨⟨rfl, rfl⟩, h3⟩ := h
    intro hv
    exact hv.trans (congrArg some (ev_arrV_ext _ _ (fun j hj => congrArg Value.long (h3 j hj))).symm)
  · simp only [Bool.and_eq_true, decide_eq_true_eq, List.all_eq_true, List.mem_range] at h
    obtain ⟨⟨rfl, rfl⟩, h3⟩ := h
    intro hv
    exact hv.trans (congrArg some (ev_arrV_ext _ _ (fun j hj => congrArg (fun r => va_rf (Option.map (fun k => ev_base w + k) r)) (h3 j hj))).symm)
  · simp only [Bool.and_eq_true, decide_eq_true_eq] at h
    obtain ⟨rfl, rfl⟩ := h
    exact fun hv => hv
  · cases h
def ev_sameh : ev_H → ev_H → Bool
  | [], [] => true
  | x :: xs, y :: ys => ev_sameb x y && ev_sameh xs ys
  | _, _ => false
theorem ev_sameb_c1 {x y : ev_E} (h : ev_sameb x y = true) : ev_c1 x = ev_c1 y := by
  unfold ev_sameb at h
  split at h
  · simp only [Bool.and_eq_true, decide_eq_true_eq] at h
    obtain ⟨⟨rfl, rfl⟩, -⟩ := h
    rfl
  · simp only [Bool.and_eq_true, decide_eq_true_eq] at h
    obtain ⟨⟨rfl, rfl⟩, -⟩ := h
    rfl
  · simp only [Bool.and_eq_true, decide_eq_true_eq] at h
    obtain ⟨⟨rfl, rfl⟩, -⟩ := h
    rfl
  · simp only [Bool.and_eq_true, decide_eq_true_eq] at h
    obtain ⟨rfl, rfl⟩ := h
    rfl
  · cases h
theorem ev_sameh_of : ∀ {h h' : ev_H}, ev_sameh h h' = true → h.length = h'.length ∧ ev_cost h = ev_cost h' ∧ ∀ (k : Nat) (x y : ev_E), h[k]? = some x → h'[k]? = some y → ev_sameb x y = true
  | [], [], _ => ⟨rfl, rfl, fun k x y hx _ => by simp at hx⟩
  | [], _ :: _, hs => by cases hs
  | _ :: _, [], hs => by cases hs
  | x :: xs, y :: ys, hs => by
    simp only [ev_sameh, Bool.and_eq_true] at hs
    obtain ⟨e1, e2, e3⟩ := ev_sameh_of hs.2
    refine ⟨by simp [e1], ?_, fun k a b ha hb => ?_⟩
    · have h1 : ev_c1 x = ev_c1 y := ev_sameb_c1 hs.1
      have h2 : (xs.map ev_c1).sum = (ys.map ev_c1).sum := e2
      simp only [ev_cost, List.map_cons, List.sum_cons, h1, h2]
    · cases k with
      | zero =>
        simp only [List.getElem?_cons_zero, Option.some.injEq] at ha hb
        rw [← ha, ← hb]; exact hs.1
      | succ k => exact e3 k a b (by simpa using ha) (by simpa using hb)
/-- the machine sees no difference -/
theorem ev_G_like {w : ev_W} {M : ev_M} {d : Nat × Nat} {h0 h h' : ev_H} {Q : ev_R → ev_H → Prop} {pc : Nat} {L : List (Option Value)} {st : List Value} (hs : ev_sameh h' h = true) (k : ev_G w M d h0 Q pc L st h') : ev_G w M d h0 Q pc L st h := by
  obtain ⟨e1, e2, e3⟩ := ev_sameh_of hs
  intro p e R s m args below meth c H locs ls C
  obtain ⟨c1, c2, c3, c4, c5, c6, c7, c8, c9, c10⟩ := C
  have h1 := k p e R s m args below meth c H locs ls ⟨c1, c2, c3, fun i q hq => ?_, c5, c6, by rw [e1]; exact c7, by rw [e2]; exact c8, by rw [e1]; exact c9, by rw [e2]; exact c10⟩
  · rw [e1, e2] at h1
    exact h1
  · obtain ⟨x, hx, rfl⟩ := ev_ws_at hq
    have hlt : i < h.length := by rw [← e1]; exact (List.getElem?_eq_some_iff.mp hx).1
    exact ev_sameb_of (e3 i x _ hx (List.getElem?_eq_getElem hlt)) w _ _ H (c4 i _ (ev_ws_get (List.getElem?_eq_getElem hlt)))
/-- the bench's constructor, run -/
def ev_run1 : Bool := match ev_call (601024, 7293034) 5000 6 103 [.ref 0] [.inr (9, ev_dft ev_q9)] with
  | some (.inl none, h) => ev_sameh (ev_st1 ev_M0) h
  | _ => false
theorem ev_run1_ok : ev_run1 = true := by decide +kernel
/-- the reference's constructor, run behind it -/
def ev_run2 : Bool := match ev_call (601024, 7293034) 5000 6 135 [.ref 277] (ev_st1 ev_M0 ++ [.inr (10, ev_dft ev_q10)]) with
  | some (.inl none, h) => ev_sameh (ev_st ev_M0) h
  | _ => false
theorem ev_run2_ok : ev_run2 = true := by decide +kernel
end EvCtor
end
section
/-! what a method's listing asks, worked out over the numbers of the two objects -/
section EvWp
abbrev ev_Mem : Type := Nat → Nat → Int32
abbrev ev_QT : Type := ev_R → ev_Mem → ev_H → Prop
abbrev ev_SP : Type := List Value → ev_Mem → ev_H → ev_QT → Prop
def ev_hp (m : ev_Mem) (t : ev_H) : ev_H := ev_st m ++ t
def ev_up (m : ev_Mem) (x j : Nat) (v : Int32) : ev_Mem := fun k i => if k = x ∧ i = j then v else m k i
theorem ev_shs_len : ev_shs.length = 307 := by decide +kernel
theorem ev_st_len (m : ev_Mem) : (ev_st m).length = 307 := by simp [ev_st, ev_shs_len]
theorem ev_hp_len (m : ev_Mem) (t : ev_H) : (ev_hp m t).length = 307 + t.length := by simp [ev_hp, ev_st_len]
theorem ev_hp_get (m : ev_Mem) (t : ev_H) {x : Nat} {s : ev_Sh} (hs : ev_shs[x]? = some s) : (ev_hp m t)[x]? = some (ev_cell m x s) := by
  have hlt : x < (ev_st m).length := by rw [ev_st_len, ← ev_shs_len]; exact (List.getElem?_eq_some_iff.mp hs).1
  rw [ev_hp, List.getElem?_append_left hlt, ev_st, List.getElem?_mapIdx, hs]
  rfl
theorem ev_cell_ne (m : ev_Mem) {x k : Nat} (hk : k ≠ x) (j : Nat) (v : Int32) (s : ev_Sh) : ev_cell (ev_up m x j v) k s = ev_cell m k s := by
  have e1 : ∀ i, ev_up m x j v k i = m k i := fun i => if_neg (fun h => hk h.1)
  have e2 : ev_up m x j v k = m k := funext e1
  unfold ev_cell
  split
  · rw [e2]
  · rfl
  · have e3 : (fun (j' : Nat) (r : Option Nat) => ev_fld (ev_up m x j v) k j' r) = fun j' r => ev_fld m k j' r := by
      funext j' r
      unfold ev_fld
      rw [e2]
    rw [e3]
theorem ev_hp_set (m : ev_Mem) (t : ev_H) {x j : Nat} {v : Int32} {s : ev_Sh} (hs : ev_shs[x]? = some s) {y : ev_E} (hy : y = ev_cell (ev_up m x j v) x s) : (ev_hp m t).set x y = ev_hp (ev_up m x j v) t := by
  have hlt : x < (ev_st m).length := by rw [ev_st_len, ← ev_shs_len]; exact (List.getElem?_eq_some_iff.mp hs).1
  unfold ev_hp
  rw [List.set_append_left _ _ hlt]
  refine congrArg (fun z => z ++ t) ?_
  apply List.ext_getElem?
  intro i
  rw [List.getElem?_set]
  by_cases hi : x = i
  · subst hi
    rw [if_pos rfl, if_pos hlt, ev_st, List.getElem?_mapIdx, hs, hy]
    rfl
  · rw [if_neg hi, ev_st, ev_st, List.getElem?_mapIdx, List.getElem?_mapIdx]
    cases ev_shs[i]? with
    | none => rfl
    | some s' => simp only [Option.map_some]; rw [ev_cell_ne m (fun h => hi h.symm)]
theorem ev_up_arr (m : ev_Mem) (x j : Nat) (v : Int32) : upd (m x) j v = ev_up m x j v x := by
  funext i
  simp only [upd, ev_up, true_and]
theorem ev_cost_hp (m : ev_Mem) (t : ev_H) : ev_cost (ev_hp m t) = ev_cost (ev_st ev_M0) + ev_cost t := by
  have key : ∀ (l : List ev_Sh) (m1 m2 : ev_Mem) (f : Nat → Nat), ((l.mapIdx (fun k s => ev_cell m1 (f k) s)).map ev_c1).sum = ((l.mapIdx (fun k s => ev_cell m2 (f k) s)).map ev_c1).sum := by
    intro l
    induction l with
    | nil => intros; rfl
    | cons s l ih =>
      intro m1 m2 f
      simp only [List.mapIdx_cons, List.map_cons, List.sum_cons]
      have h1 := ih m1 m2 (fun k => f (k + 1))
      have h2 : ev_c1 (ev_cell m1 (f 0) s) = ev_c1 (ev_cell m2 (f 0) s) := by
        rcases s with ⟨_, _⟩ | ⟨_, _, _⟩ | ⟨_, _⟩ <;> rfl
      rw [h2]
      exact congrArg _ h1
  unfold ev_hp ev_st ev_cost
  rw [List.map_append, List.sum_append, key ev_shs m ev_M0 (fun k => k)]
def ev_lift (Q : ev_QT) (r : ev_R) (h : ev_H) : Prop := ∃ m t, h = ev_hp m t ∧ Q r m t
def ev_J (w : ev_W) (M : ev_M) (d : Nat × Nat) (Q : ev_QT) (pc : Nat) (L : List (Option Value)) (st : List Value) (m : ev_Mem) (t : ev_H) : Prop := ∀ h0, ev_G w M d h0 (ev_lift Q) pc L st (ev_hp m t)
/-- the methods that are called without an object -/
def ev_sta (k : Nat) : Bool := [0, 1, 2, 53, 61, 67, 89, 90, 106, 112, 140].contains k || Nat.ble 210 k
def ev_shc (x : Nat) : Option Nat := match ev_shs[x]? with
  | some (.inr (.inr (c, _))) => some c
  | _ => none
def ev_rv (k : Nat) (vs : List Value) : Prop := ev_sta k = true ∨ ∃ x us, vs = .ref x :: us ∧ ev_shc x = ev_mcs[k]?
def ev_K (w : ev_W) (k : Nat) : ev_SP := fun vs m t Q => ev_rv k vs ∧ ∃ M, ev_prog[k]? = some M ∧ ev_J w M (ev_nd k) Q 0 (ev_L0 M.2.2.1 vs) [] m t
/-- conditions, of whole numbers -/
def ev_p0 (c : Jvm.ClassFile.Cond) (x : Int32) : Prop := match c with
  | .eq => x.toInt = 0 | .ne => ¬ x.toInt = 0 | .lt => x.toInt < 0 | .ge => 0 ≤ x.toInt | .gt => 0 < x.toInt | .le => x.toInt ≤ 0
def ev_n0 (c : Jvm.ClassFile.Cond) (x : Int32) : Prop := match c with
  | .eq => ¬ x.toInt = 0 | .ne => x.toInt = 0 | .lt => 0 ≤ x.toInt | .ge => x.toInt < 0 | .gt => x.toInt ≤ 0 | .le => 0 < x.toInt
def ev_p2 (c : Jvm.ClassFile.Cond) (x y : Int32) : Prop := match c with
  | .eq => x.toInt = y.toInt | .ne => ¬ x.toInt = y.toInt | .lt => x.toInt < y.toInt | .ge => y.toInt ≤ x.toInt | .gt => y.toInt < x.toInt | .le => x.toInt ≤ y.toInt
def ev_n2 (c : Jvm.ClassFile.Cond) (x y : Int32) : Prop := match c with
  | .eq => ¬ x.toInt = y.toInt | .ne => x.toInt = y.toInt | .lt => y.toInt ≤ x.toInt | .ge => x.toInt < y.toInt | .gt => x.toInt ≤ y.toInt | .le => y.toInt < x.toInt
theorem ev_p2_of {c : Jvm.ClassFile.Cond} {x y : Int32} (h : ev_c2 c x y = true) : ev_p2 c x y := by
  cases c <;> simp only [ev_c2, decide_eq_true_eq] at h <;> simp only [ev_p2]
  · rw [h]
  · exact fun e => h (Int32.toInt_inj.mp e)
  · exact Int32.lt_iff_toInt_lt.mp h
  · exact Int32.le_iff_toInt_le.mp h
  · exact Int32.lt_iff_toInt_lt.mp h
  · exact Int32.le_iff_toInt_le.mp h
theorem ev_n2_of {c : Jvm.ClassFile.Cond} {x y : Int32} (h : ev_c2 c x y = false) : ev_n2 c x y := by
  cases c <;> simp only [ev_c2, decide_eq_false_iff_not, Decidable.not_not, Int32.lt_iff_toInt_lt, Int32.le_iff_toInt_le] at h <;> simp only [ev_n2]
  · exact fun e => h (Int32.toInt_inj.mp e)
  · rw [h]
  all_goals omega
theorem ev_c02 (c : Jvm.ClassFile.Cond) (x : Int32) : ev_c0 c x = ev_c2 c x 0 := by cases c <;> rfl
theorem ev_p0_of {c : Jvm.ClassFile.Cond} {x : Int32} (h : ev_c0 c x = true) : ev_p0 c x := by
  rw [ev_c02] at h
  have h1 := ev_p2_of h
  cases c <;> exact h1
theorem ev_n0_of {c : Jvm.ClassFile.Cond} {x : Int32} (h : ev_c0 c x = false) : ev_n0 c x := by
  rw [ev_c02] at h
  have h1 := ev_n2_of h
  cases c <;> exact h1
def ev_in (i : Int32) (n : Nat) : Prop := 0 ≤ i.toInt ∧ i.toInt < (n : Int)
theorem ev_in_of {i : Int32} {n : Nat} (h : ev_in i n) : ev_inb i n = true := by
  obtain ⟨h1, h2⟩ := h
  have e1 : i.toNatClampNeg = i.toInt.toNat := rfl
  have n1 : ¬ i < 0 := by
    rw [Int32.lt_iff_toInt_lt]
    have e2 : (0 : Int32).toInt = 0 := by decide
    omega
  have n2 : ¬ n ≤ i.toNatClampNeg := by omega
  simp [ev_inb, n1, n2]
abbrev ev_cd : Type := List (Nat × Instr × Nat × Nat)
/-- the listing from a place on -/
def ev_seek (M : ev_M) (pc : Nat) : ev_cd := M.2.2.2.2.2.dropWhile (fun q => !(q.1 == pc))
/-- on with what lies at p: there the listing goes on -/
def ev_nx (w : ev_W) (cut : List Nat) (M : ev_M) (d : Nat × Nat) (Q : ev_QT) (go : ev_cd → List (Option Value) → List Value → ev_Mem → ev_H → Prop) (p : Nat) (tl : ev_cd) (L : List (Option Value)) (st : List Value) (m : ev_Mem) (t : ev_H) : Prop := match tl with
  | [] => False
  | q :: tl' => match Nat.beq q.1 p, cut.contains q.1 with
    | true, true => ev_J w M d Q q.1 L st m t
    | true, false => go (q :: tl') L st m t
    | _, _ => False
def ev_room (a : Nat) (rest : List Value) (d : Nat × Nat) : Bool := match ev_prog[a]? with
  | some M' => decide ((ev_nd a).1 + 1 ≤ d.1) && decide (ev_csum rest + (M'.2.2.1 + 11) + (ev_nd a).2 ≤ d.2)
  | none => false
def ev_rm (w : ev_W) (t : ev_H) : Prop := 307 + t.length + 1 ≤ w.2.2.2.2.2.2.1 ∧ ev_cost (ev_st ev_M0) + ev_cost t + 6 ≤ w.2.2.2.2.2.2.2.1
def ev_jstep (w : ev_W) (sp : Nat → ev_SP) (cut : List Nat) (M : ev_M) (d : Nat × Nat) (Q : ev_QT) (go : ev_cd → List (Option Value) → List Value → ev_Mem → ev_H → Prop) (cd : ev_cd) (L : List (Option Value)) (st : List Value) (m : ev_Mem) (t : ev_H) : Prop := match cd with
  | [] => False
  | (pc, i, a, b) :: tl => match i with
    | .iconst n => ev_nx w cut M d Q go (pc + 1) tl L (.int (Int32.ofInt n) :: st) m t
    | .bipush n => ev_nx w cut M d Q go (pc + 2) tl L (.int (Int8.ofInt n).toInt32 :: st) m t
    | .sipush n => ev_nx w cut M d Q go (pc + 3) tl L (.int (Int16.ofInt n).toInt32 :: st) m t
    | .iload_n k => (match L[(k : Nat)]? with
      | some (some (.int x)) => ev_nx w cut M d Q go (pc + 1) tl L (.int x :: st) m t
      | _ => False)
    | .iload k => (match L[k]? with
      | some (some (.int x)) => ev_nx w cut M d Q go (pc + 2) tl L (.int x :: st) m t
      | _ => False)
    | .aload_n k => (match L[(k : Nat)]? with
      | some (some (.ref x)) => ev_nx w cut M d Q go (pc + 1) tl L (.ref x :: st) m t
      | _ => False)
    | .aload k => (match L[k]? with
      | some (some (.ref x)) => ev_nx w cut M d Q go (pc + 2) tl L (.ref x :: st) m t
      | _ => False)
    | .istore_n k => (match st with
      | .int x :: st => (match Nat.blt (k : Nat) M.2.2.1 with | true => ev_nx w cut M d Q go (pc + 1) tl (L.set (k : Nat) (some (.int x))) st m t | false => False)
      | _ => False)
    | .istore k => (match st with
      | .int x :: st => (match Nat.blt k M.2.2.1 with | true => ev_nx w cut M d Q go (pc + 2) tl (L.set k (some (.int x))) st m t | false => False)
      | _ => False)
    | .astore_n k => (match st with
      | .ref x :: st => (match Nat.blt (k : Nat) M.2.2.1 with | true => ev_nx w cut M d Q go (pc + 1) tl (L.set (k : Nat) (some (.ref x))) st m t | false => False)
      | _ => False)
    | .astore k => (match st with
      | .ref x :: st => (match Nat.blt k M.2.2.1 with | true => ev_nx w cut M d Q go (pc + 2) tl (L.set k (some (.ref x))) st m t | false => False)
      | _ => False)
    | .iinc k n => (match L[k]?, Nat.blt k M.2.2.1 with
      | some (some (.int x)), true => ev_nx w cut M d Q go (pc + 3) tl (L.set k (some (.int (x + Int32.ofInt n)))) st m t
      | _, _ => False)
    | .iadd => (match st with
      | .int y :: .int x :: st => ev_nx w cut M d Q go (pc + 1) tl L (.int (x + y) :: st) m t
      | _ => False)
    | .isub => (match st with
      | .int y :: .int x :: st => ev_nx w cut M d Q go (pc + 1) tl L (.int (x - y) :: st) m t
      | _ => False)
    | .imul => (match st with
      | .int y :: .int x :: st => ev_nx w cut M d Q go (pc + 1) tl L (.int (x * y) :: st) m t
      | _ => False)
    | .iand => (match st with
      | .int y :: .int x :: st => ev_nx w cut M d Q go (pc + 1) tl L (.int (x &&& y) :: st) m t
      | _ => False)
    | .ior => (match st with
      | .int y :: .int x :: st => ev_nx w cut M d Q go (pc + 1) tl L (.int (x ||| y) :: st) m t
      | _ => False)
    | .ishl => (match st with
      | .int y :: .int x :: st => ev_nx w cut M d Q go (pc + 1) tl L (.int (x <<< (y &&& 31)) :: st) m t
      | _ => False)
    | .ishr => (match st with
      | .int y :: .int x :: st => ev_nx w cut M d Q go (pc + 1) tl L (.int (x >>> (y &&& 31)) :: st) m t
      | _ => False)
    | .idiv => (match st with
      | .int y :: .int x :: st => ¬ y = 0 ∧ ev_nx w cut M d Q go (pc + 1) tl L (.int (x / y) :: st) m t
      | _ => False)
    | .irem => (match st with
      | .int y :: .int x :: st => ¬ y = 0 ∧ ev_nx w cut M d Q go (pc + 1) tl L (.int (x - x / y * y) :: st) m t
      | _ => False)
    | .ineg => (match st with
      | .int x :: st => ev_nx w cut M d Q go (pc + 1) tl L (.int (-x) :: st) m t
      | _ => False)
    | .i2c => (match st with
      | .int x :: st => ev_nx w cut M d Q go (pc + 1) tl L (.int (x.toUInt32 % 65536).toInt32 :: st) m t
      | _ => False)
    | .dup => (match st with
      | v :: st => (match Nat.beq v.category 1 with | true => ev_nx w cut M d Q go (pc + 1) tl L (v :: v :: st) m t | false => False)
      | _ => False)
    | .pop => (match st with
      | v :: st => (match Nat.beq v.category 1 with | true => ev_nx w cut M d Q go (pc + 1) tl L st m t | false => False)
      | _ => False)
    | .dup_x1 => (match st with
      | v :: u :: st => (match Nat.beq v.category 1 && Nat.beq u.category 1 with | true => ev_nx w cut M d Q go (pc + 1) tl L (v :: u :: v :: st) m t | false => False)
      | _ => False)
    | .dup2 => (match st with
      | v :: u :: st => (match Nat.beq v.category 1 && Nat.beq u.category 1 with | true => ev_nx w cut M d Q go (pc + 1) tl L (v :: u :: v :: u :: st) m t | false => False)
      | _ => False)
    | .goto off => (match ev_tgt pc off with
      | some p => ev_nx w cut M d Q go p (ev_seek M p) L st m t
      | none => False)
    | .ifCond cd off => (match st with
      | .int x :: st => (match ev_tgt pc off with
        | some p => (ev_p0 cd x → ev_nx w cut M d Q go p (ev_seek M p) L st m t) ∧ (ev_n0 cd x → ev_nx w cut M d Q go (pc + 3) tl L st m t)
        | none => False)
      | _ => False)
    | .if_icmp cd off => (match st with
      | .int y :: .int x :: st => (match ev_tgt pc off with
        | some p => (ev_p2 cd x y → ev_nx w cut M d Q go p (ev_seek M p) L st m t) ∧ (ev_n2 cd x y → ev_nx w cut M d Q go (pc + 3) tl L st m t)
        | none => False)
      | _ => False)
    | .ldc _ => (match Nat.beq b 1 with
      | true => ev_nx w cut M d Q go (pc + 2) tl L (.int (Int32.ofNat a) :: st) m t
      | false => False)
    | .getfield _ => (match st with
      | .ref x :: st => (match ev_shs[x]? with
        | some (.inr (.inr (c, fs))) => (match decide (c = a), fs[b]? with
          | true, some (some y) => ev_nx w cut M d Q go (pc + 3) tl L (.ref y :: st) m t
          | true, some none => ev_nx w cut M d Q go (pc + 3) tl L (.int (m x b) :: st) m t
          | _, _ => False)
        | _ => False)
      | _ => False)
    | .putfield _ => (match st with
      | .int v :: .ref x :: st => (match ev_shs[x]? with
        | some (.inr (.inr (c, fs))) => (match decide (c = a), fs[b]? with
          | true, some none => (match ev_fty ((ev_cl[a]?).getD ("", fun _ => ("", "", "", false), 0)) b with
            | .int => ev_nx w cut M d Q go (pc + 3) tl L st (ev_up m x b v) t
            | .boolean => (v = 0 ∨ v = 1) ∧ ev_nx w cut M d Q go (pc + 3) tl L st (ev_up m x b v) t
            | _ => False)
          | _, _ => False)
        | _ => False)
      | _ => False)
    | .iaload => (match st with
      | .int j :: .ref x :: st => (match ev_shs[x]? with
        | some (.inl (0, l)) => ev_in j l ∧ ev_nx w cut M d Q go (pc + 1) tl L (.int (m x j.toNatClampNeg) :: st) m t
        | _ => False)
      | _ => False)
    | .caload => (match st with
      | .int j :: .ref x :: st => (match ev_shs[x]? with
        | some (.inl (1, l)) => ev_in j l ∧ ev_nx w cut M d Q go (pc + 1) tl L (.int (m x j.toNatClampNeg) :: st) m t
        | _ => False)
      | _ => False)
    | .aaload => (match st with
      | .int j :: .ref x :: st => (match ev_shs[x]? with
        | some (.inr (.inl (l, f, g))) => ev_in j l ∧ ev_nx w cut M d Q go (pc + 1) tl L (.ref (f + g * j.toNatClampNeg) :: st) m t
        | _ => False)
      | _ => False)
    | .iastore => (match st with
      | .int v :: .int j :: .ref x :: st => (match ev_shs[x]? with
        | some (.inl (0, l)) => ev_in j l ∧ ev_nx w cut M d Q go (pc + 1) tl L st (ev_up m x j.toNatClampNeg v) t
        | _ => False)
      | _ => False)
    | .castore => (match st with
      | .int v :: .int j :: .ref x :: st => (match ev_shs[x]? with
        | some (.inl (1, l)) => ev_in j l ∧ ev_nx w cut M d Q go (pc + 1) tl L st (ev_up m x j.toNatClampNeg (vp_nar .char v)) t
        | _ => False)
      | _ => False)
    | .arraylength => (match st with
      | .ref x :: st => (match ev_shs[x]? with
        | some (.inl (ty, l)) => (match decide (ty < 4) with | true => ev_nx w cut M d Q go (pc + 1) tl L (.int (Int32.ofNat l) :: st) m t | false => False)
        | some (.inr (.inl (l, _))) => ev_nx w cut M d Q go (pc + 1) tl L (.int (Int32.ofNat l) :: st) m t
        | _ => False)
      | _ => False)
    | .ireturn => (match st with
      | [.int v] => (match M.2.2.2.1 with
        | some .int => Q (.inl (some (.int v))) m t
        | some ty => narrow ty (.int v) = .int v ∧ Q (.inl (some (.int v))) m t
        | none => False)
      | _ => False)
    | .return_ => (match st with
      | [] => (match M.2.2.2.1 with
        | none => Q (.inl none) m t
        | some _ => False)
      | _ => False)
    | .areturn => (match st with
      | [.ref x] => (match M.2.2.2.1 with
        | some (.object _) => Q (.inl (some (.ref x))) m t
        | some (.array _) => Q (.inl (some (.ref x))) m t
        | _ => False)
      | _ => False)
    | .new _ => (match !(decide (a < ev_nc)) && decide (6 ≤ d.1) && decide (ev_csum st + 82 ≤ d.2) with
      | true => ev_rm w t ∧ Q (.inr (307 + t.length)) m (t ++ [.inr (a, [])])
      | false => False)
    | .invokestatic _ => (match decide (b ≤ st.length) && ev_cats (st.take b) && ev_room a (st.drop b) d, M.2.2.2.2.1 with
      | true, [] => sp a (st.take b).reverse m t (fun r m' t' => match r with
        | .inl v => ev_nx w cut M d Q go (pc + 3) tl L (v.toList ++ st.drop b) m' t'
        | .inr k => Q (.inr k) m' t')
      | _, _ => False)
    | .invokevirtual _ => (match st.drop b, M.2.2.2.2.1 with
      | .ref x :: rest, [] => (match decide (b ≤ st.length) && ev_cats (st.take b) && ev_room a rest d && !(ev_sta a) with
        | true => sp a (.ref x :: (st.take b).reverse) m t (fun r m' t' => match r with
          | .inl v => ev_nx w cut M d Q go (pc + 3) tl L (v.toList ++ rest) m' t'
          | .inr k => Q (.inr k) m' t')
        | false => False)
      | _, _ => False)
    | _ => False
def ev_jw (w : ev_W) (sp : Nat → ev_SP) (cut : List Nat) (M : ev_M) (d : Nat × Nat) (Q : ev_QT) : Nat → ev_cd → List (Option Value) → List Value → ev_Mem → ev_H → Prop
  | 0 => fun cd L st m t => match cd with
    | [] => False
    | q :: _ => ev_J w M d Q q.1 L st m t
  | n + 1 => ev_jstep w sp cut M d Q (ev_jw w sp cut M d Q n)
def ev_jv (w : ev_W) (sp : Nat → ev_SP) (cut : List Nat) (M : ev_M) (d : Nat × Nat) (Q : ev_QT) (n pc : Nat) (L : List (Option Value)) (st : List Value) (m : ev_Mem) (t : ev_H) : Prop := ev_jw w sp cut M d Q n (ev_seek M pc) L st m t
end EvWp
end
section
/-! .. and that it suffices -/
section EvWpOk
def ev_inc : ev_cd → Bool
  | a :: b :: l => Nat.blt a.1 b.1 && ev_inc (b :: l)
  | _ => true
theorem ev_inc_lt : ∀ (l : ev_cd) (a : Nat × Instr × Nat × Nat), ev_inc (a :: l) = true → ∀ z ∈ l, a.1 < z.1
  | [], _, _, z, hz => by cases hz
  | b :: l, a, h, z, hz => by
    simp only [ev_inc, Bool.and_eq_true, Nat.blt_eq] at h
    rcases List.mem_cons.mp hz with e | hz
    · rw [e]; exact h.1
    · exact Nat.lt_trans h.1 (ev_inc_lt l b h.2 z hz)
theorem ev_inc_find : ∀ (pre tl : ev_cd) (q : Nat × Instr × Nat × Nat), ev_inc (pre ++ q :: tl) = true → (pre ++ q :: tl).find? (fun z => z.1 == q.1) = some q
  | [], tl, q, _ => by simp
  | a :: pre, tl, q, h => by
    have h1 : a.1 < q.1 := ev_inc_lt _ a h q (by simp)
    have h2 : ev_inc (pre ++ q :: tl) = true := by
      cases hl : pre ++ q :: tl with
      | nil => rfl
      | cons b l =>
        rw [List.cons_append, hl] at h
        simp only [ev_inc, Bool.and_eq_true] at h
        exact h.2
    have h3 : (a.1 == q.1) = false := by simp; omega
    rw [List.cons_append, List.find?_cons, h3]
    exact ev_inc_find pre tl q h2
def ev_srt (M : ev_M) : Bool := ev_inc M.2.2.2.2.2
def ev_suf (M : ev_M) (cd : ev_cd) : Prop := ∃ pre, M.2.2.2.2.2 = pre ++ cd
theorem ev_seek_suf (M : ev_M) (pc : Nat) : ev_suf M (ev_seek M pc) := ⟨_, (List.takeWhile_append_dropWhile).symm⟩
theorem ev_suf_tl {M : ev_M} {q : Nat × Instr × Nat × Nat} {tl : ev_cd} (h : ev_suf M (q :: tl)) : ev_suf M tl := by
  obtain ⟨pre, hp⟩ := h
  exact ⟨pre ++ [q], by rw [hp, List.append_assoc]; rfl⟩
theorem ev_suf_ins {M : ev_M} (hM : ev_srt M = true) {q : Nat × Instr × Nat × Nat} {tl : ev_cd} (h : ev_suf M (q :: tl)) : ev_ins M q.1 = some q.2 := by
  obtain ⟨pre, hp⟩ := h
  unfold ev_srt at hM
  rw [hp] at hM
  unfold ev_ins
  rw [hp, ev_inc_find pre tl q hM]
  rfl
theorem ev_srt_all : ev_prog.all ev_srt = true := by decide +kernel
variable {w : ev_W} {M : ev_M} {d : Nat × Nat} {h0 : ev_H} {pc : Nat} {L : List (Option Value)} {st : List Value} {h : ev_H} {a b : Nat} {i : Instr}
theorem ev_room_of {rest : List Value} (h : ev_room a rest d = true) : ∃ M', ev_prog[a]? = some M' ∧ (ev_nd a).1 + 1 ≤ d.1 ∧ ev_csum rest + (M'.2.2.1 + 11) + (ev_nd a).2 ≤ d.2 := by
  unfold ev_room at h
  split at h
  · rename_i M' hM'
    simp only [Bool.and_eq_true, decide_eq_true_eq] at h
    exact ⟨M', hM', h.1, h.2⟩
  · cases h
theorem ev_shc_of {x c : Nat} (h : ev_shc x = some c) : ∃ fs, ev_shs[x]? = some (.inr (.inr (c, fs))) := by
  unfold ev_shc at h
  split at h
  · rename_i c' fs hx
    cases h
    exact ⟨fs, hx⟩
  · cases h
theorem ev_fld_get (m : ev_Mem) (x : Nat) (fs : List (Option Nat)) {k : Nat} {r : Option Nat} (hr : fs[k]? = some r) : (fs.mapIdx (fun j r => ev_fld m x j r))[k]? = some (ev_fld m x k r) := by
  rw [List.getElem?_mapIdx, hr]; rfl
theorem ev_fld_set (m : ev_Mem) (x : Nat) (fs : List (Option Nat)) {k : Nat} (v : Int32) (hr : fs[k]? = some none) : (fs.mapIdx (fun j r => ev_fld m x j r)).set k (.int v) = fs.mapIdx (fun j r => ev_fld (ev_up m x k v) x j r) := by
  apply List.ext_getElem?
  intro j
  rw [List.getElem?_set, List.getElem?_mapIdx, List.getElem?_mapIdx]
  by_cases hj : k = j
  · subst hj
    have hlt : k < (fs.mapIdx (fun j r => ev_fld m x j r)).length := by rw [List.length_mapIdx]; exact (List.getElem?_eq_some_iff.mp hr).1
    rw [if_pos rfl, if_pos hlt, hr]
    simp [ev_fld, ev_up]
  · rw [if_neg hj]
    cases fs[j]? with
    | none => rfl
    | some r =>
      cases r with
      | none =>
        have e1 : ev_up m x k v x j = m x j := if_neg (fun q => hj q.2.symm)
        simp only [Option.map_some, ev_fld, e1]
      | some y => rfl
/-- a call, with what is known of the callee -/
theorem ev_jcall {Q : ev_QT} (ok : ev_ok w) (hM : ev_dec M = true) (hk : ev_lnks M = true) (hi : ev_ins M pc = some (i, a, b)) {m : ev_Mem} {t : ev_H} {vs rest : List Value} (hs : ev_inv i a b st (ev_hp m t) = some (vs, rest)) (hroom : ev_room a rest d = true) (hh : M.2.2.2.2.1 = []) {Q' : ev_QT}
    (K : ∃ M', ev_prog[a]? = some M' ∧ ev_J w M' (ev_nd a) Q' 0 (ev_L0 M'.2.2.1 vs) [] m t) (k1 : ∀ v m' t', Q' (.inl v) m' t' → ev_J w M d Q (pc + 3) L (v.toList ++ rest) m' t') (k2 : ∀ k m' t', Q' (.inr k) m' t' → Q (.inr k) m' t') : ev_G w M d h0 (ev_lift Q) pc L st (ev_hp m t) := by
  obtain ⟨M', hp, r1, r2⟩ := ev_room_of hroom
  obtain ⟨M2, hp2, hJ⟩ := K
  cases hp.symm.trans hp2
  refine ev_inv_ok ok hM hk hi hs hp (ev_prog_ok M' (List.mem_of_getElem? hp)).1 r1 r2 (hJ _) (fun v h' hq => ?_) (fun k ce h' hq hce => ?_)
  · obtain ⟨m', t', e, hq⟩ := hq
    rw [e]
    exact k1 v m' t' hq _
  · obtain ⟨m', t', e, hq⟩ := hq
    rw [e] at hce ⊢
    exact ev_leaves hce (by rw [hh]; intro q hq; cases hq) ⟨m', t', rfl, k2 k m' t' hq⟩
theorem ev_jw_ok {Q : ev_QT} {sp : Nat → ev_SP} {cut : List Nat} (ok : ev_ok w) (hsp : ∀ x ∈ ev_sp, x.before w.2.2.1 w.2.1 = true) (hs : ∀ k vs m t Q, sp k vs m t Q → ev_K w k vs m t Q) (hM : ev_dec M = true) (hk : ev_lnks M = true) (hr : ev_srt M = true) :
    ∀ (n : Nat) (q : Nat × Instr × Nat × Nat) (tl : ev_cd) (L : List (Option Value)) (st : List Value) (m : ev_Mem) (t : ev_H), ev_suf M (q :: tl) → ev_jw w sp cut M d Q n (q :: tl) L st m t → ev_J w M d Q q.1 L st m t := by
  intro n
  induction n with
  | zero => exact fun _ _ _ _ _ _ _ h => h
  | succ n ih =>
    have nx : ∀ p tl L st m t, ev_suf M tl → ev_nx w cut M d Q (ev_jw w sp cut M d Q n) p tl L st m t → ev_J w M d Q p L st m t := by
      intro p tl L st m t hsf hz
      unfold ev_nx at hz
      split at hz
      · exact hz.elim
      · split at hz
        · rename_i hb _
          rw [← Nat.eq_of_beq_eq_true hb]
          exact hz
        · rename_i hb _
          rw [← Nat.eq_of_beq_eq_true hb]
          exact ih _ _ _ _ _ _ hsf hz
        · exact hz.elim
    intro q tl L st m t hsf hz h0
    obtain ⟨pc, i, a, b⟩ := q
    have hi : ev_ins M pc = some (i, a, b) := ev_suf_ins hr hsf
    have hs0 := ev_suf_tl hsf
    unfold ev_jw ev_jstep at hz
    dsimp only at hz
    cases i
    case iconst n => exact ev_iconst hM hi (nx _ _ _ _ _ _ hs0 hz h0)
    case bipush n => exact ev_bipush hM hi (nx _ _ _ _ _ _ hs0 hz h0)
    case sipush n => exact ev_sipush hM hi (nx _ _ _ _ _ _ hs0 hz h0)
    case iload_n k =>
      dsimp only at hz
      split at hz
      · rename_i x hx
        exact ev_iload_n hM hi hx (nx _ _ _ _ _ _ hs0 hz h0)
      · exact hz.elim
    case iload k =>
      dsimp only at hz
      split at hz
      · rename_i x hx
        exact ev_iload hM hi hx (nx _ _ _ _ _ _ hs0 hz h0)
      · exact hz.elim
    case aload_n k =>
      dsimp only at hz
      split at hz
      · rename_i x hx
        exact ev_aload_n hM hi hx (nx _ _ _ _ _ _ hs0 hz h0)
      · exact hz.elim
    case aload k =>
      dsimp only at hz
      split at hz
      · rename_i x hx
        exact ev_aload hM hi hx (nx _ _ _ _ _ _ hs0 hz h0)
      · exact hz.elim
    case istore_n k =>
      dsimp only at hz
      split at hz
      · split at hz
        · rename_i hb
          exact ev_istore_n hM hi (by simpa using hb) (nx _ _ _ _ _ _ hs0 hz h0)
        · exact hz.elim
      · exact hz.elim
    case istore k =>
      dsimp only at hz
      split at hz
      · split at hz
        · rename_i hb
          exact ev_istore hM hi (by simpa using hb) (nx _ _ _ _ _ _ hs0 hz h0)
        · exact hz.elim
      · exact hz.elim
    case astore_n k =>
      dsimp only at hz
      split at hz
      · split at hz
        · rename_i hb
          exact ev_astore_n hM hi (by simpa using hb) (nx _ _ _ _ _ _ hs0 hz h0)
        · exact hz.elim
      · exact hz.elim
    case astore k =>
      dsimp only at hz
      split at hz
      · split at hz
        · rename_i hb
          exact ev_astore hM hi (by simpa using hb) (nx _ _ _ _ _ _ hs0 hz h0)
        · exact hz.elim
      · exact hz.elim
    case iinc k n =>
      dsimp only at hz
      split at hz
      · rename_i x hx hb
        exact ev_iinc hM hi hx (by simpa using hb) (nx _ _ _ _ _ _ hs0 hz h0)
      · exact hz.elim
    case iadd =>
      dsimp only at hz
      split at hz
      · exact ev_iadd hM hi (nx _ _ _ _ _ _ hs0 hz h0)
      · exact hz.elim
    case isub =>
      dsimp only at hz
      split at hz
      · exact ev_isub hM hi (nx _ _ _ _ _ _ hs0 hz h0)
      · exact hz.elim
    case imul =>
      dsimp only at hz
      split at hz
      · exact ev_imul hM hi (nx _ _ _ _ _ _ hs0 hz h0)
      · exact hz.elim
    case iand =>
      dsimp only at hz
      split at hz
      · exact ev_iand hM hi (nx _ _ _ _ _ _ hs0 hz h0)
      · exact hz.elim
    case ior =>
      dsimp only at hz
      split at hz
      · exact ev_ior hM hi (nx _ _ _ _ _ _ hs0 hz h0)
      · exact hz.elim
    case ishl =>
      dsimp only at hz
      split at hz
      · exact ev_ishl hM hi (nx _ _ _ _ _ _ hs0 hz h0)
      · exact hz.elim
    case ishr =>
      dsimp only at hz
      split at hz
      · exact ev_ishr hM hi (nx _ _ _ _ _ _ hs0 hz h0)
      · exact hz.elim
    case ineg =>
      dsimp only at hz
      split at hz
      · exact ev_ineg hM hi (nx _ _ _ _ _ _ hs0 hz h0)
      · exact hz.elim
    case i2c =>
      dsimp only at hz
      split at hz
      · exact ev_i2c hM hi (nx _ _ _ _ _ _ hs0 hz h0)
      · exact hz.elim
    case dup =>
      dsimp only at hz
      split at hz
      · split at hz
        · rename_i hb
          exact ev_dup hM hi (Nat.eq_of_beq_eq_true hb) (nx _ _ _ _ _ _ hs0 hz h0)
        · exact hz.elim
      · exact hz.elim
    case pop =>
      dsimp only at hz
      split at hz
      · split at hz
        · rename_i hb
          exact ev_pop hM hi (Nat.eq_of_beq_eq_true hb) (nx _ _ _ _ _ _ hs0 hz h0)
        · exact hz.elim
      · exact hz.elim
    case dup_x1 =>
      dsimp only at hz
      split at hz
      · split at hz
        · rename_i hb
          simp only [Bool.and_eq_true] at hb
          exact ev_dup_x1 hM hi (Nat.eq_of_beq_eq_true hb.1) (Nat.eq_of_beq_eq_true hb.2) (nx _ _ _ _ _ _ hs0 hz h0)
        · exact hz.elim
      · exact hz.elim
    case dup2 =>
      dsimp only at hz
      split at hz
      · split at hz
        · rename_i hb
          simp only [Bool.and_eq_true] at hb
          exact ev_dup2 hM hi (Nat.eq_of_beq_eq_true hb.1) (Nat.eq_of_beq_eq_true hb.2) (nx _ _ _ _ _ _ hs0 hz h0)
        · exact hz.elim
      · exact hz.elim
    case goto off =>
      dsimp only at hz
      split at hz
      · rename_i p hp
        exact ev_goto hM hi (ev_tgt_of hp) (nx _ _ _ _ _ _ (ev_seek_suf M _) hz h0)
      all_goals exact False.elim hz
    case ifCond cd off =>
      dsimp only at hz
      split at hz
      · split at hz
        · rename_i p hp
          exact ev_if hM hi (ev_tgt_of hp) (fun q => nx _ _ _ _ _ _ (ev_seek_suf M _) (hz.1 (ev_p0_of q)) h0) (fun q => nx _ _ _ _ _ _ hs0 (hz.2 (ev_n0_of q)) h0)
        all_goals exact False.elim hz
      all_goals exact False.elim hz
    case if_icmp cd off =>
      dsimp only at hz
      split at hz
      · split at hz
        · rename_i p hp
          exact ev_icmp hM hi (ev_tgt_of hp) (fun q => nx _ _ _ _ _ _ (ev_seek_suf M _) (hz.1 (ev_p2_of q)) h0) (fun q => nx _ _ _ _ _ _ hs0 (hz.2 (ev_n2_of q)) h0)
        all_goals exact False.elim hz
      all_goals exact False.elim hz
    case idiv =>
      dsimp only at hz
      split at hz
      · exact ev_idiv hM hi hz.1 (nx _ _ _ _ _ _ hs0 hz.2 h0)
      all_goals exact False.elim hz
    case irem =>
      dsimp only at hz
      split at hz
      · exact ev_irem hM hi hz.1 (nx _ _ _ _ _ _ hs0 hz.2 h0)
      all_goals exact False.elim hz
    case ldc idx =>
      dsimp only at hz
      split at hz
      · rename_i hb
        have hb' := Nat.eq_of_beq_eq_true hb
        subst hb'
        have hl := ev_lnk_at hk hi
        simp only [ev_lnk] at hl
        exact ev_ldc ok hM hi hl (nx _ _ _ _ _ _ hs0 hz h0)
      · exact hz.elim
    case getfield idx =>
      dsimp only at hz
      split at hz
      · split at hz
        · rename_i x st' _ c fs hx
          split at hz
          · rename_i y hd hr
            have hc : c = a := of_decide_eq_true hd
            subst hc
            refine ev_s7_ok ok hM hk hi (F := (pc + 3, L, .ref y :: st', ev_hp m t)) ?_ (nx _ _ _ _ _ _ hs0 hz h0)
            simp only [ev_s7, ev_hp_get m t hx, ev_cell, ev_fld_get m x fs hr, if_true]
            rfl
          · rename_i hd hr
            have hc : c = a := of_decide_eq_true hd
            subst hc
            refine ev_s7_ok ok hM hk hi (F := (pc + 3, L, .int (m x b) :: st', ev_hp m t)) ?_ (nx _ _ _ _ _ _ hs0 hz h0)
            simp only [ev_s7, ev_hp_get m t hx, ev_cell, ev_fld_get m x fs hr, if_true]
            rfl
          all_goals exact False.elim hz
        all_goals exact False.elim hz
      all_goals exact False.elim hz
    case putfield idx =>
      dsimp only at hz
      split at hz
      · split at hz
        · rename_i v x st' _ c fs hx
          split at hz
          · rename_i hd hr
            have hc : c = a := of_decide_eq_true hd
            subst hc
            have hb : b < (fs.mapIdx (fun j r => ev_fld m x j r)).length := by rw [List.length_mapIdx]; exact (List.getElem?_eq_some_iff.mp hr).1
            have key : ∀ (hf : ev_fitv (ev_fty ((ev_cl[c]?).getD ("", fun _ => ("", "", "", false), 0)) b) (.int v) = true) (k : ev_nx w cut M d Q (ev_jw w sp cut M d Q n) (pc + 3) tl L st' (ev_up m x b v) t), ev_G w M d h0 (ev_lift Q) pc L (.int v :: .ref x :: st') (ev_hp m t) := by
              intro hf k
              refine ev_s7_ok ok hM hk hi (F := (pc + 3, L, st', ev_hp (ev_up m x b v) t)) ?_ (nx _ _ _ _ _ _ hs0 k h0)
              simp only [ev_s7, ev_hp_get m t hx, ev_cell, hf, hb, and_self, if_true, ev_fld_set m x fs v hr]
              rw [ev_hp_set m t (j := b) (v := v) hx (y := .inr (c, fs.mapIdx (fun j r => ev_fld (ev_up m x b v) x j r))) rfl]
            split at hz
            · rename_i hty
              exact key (by rw [hty]; rfl) hz
            · rename_i hty
              exact key (by rw [hty]; rcases hz.1 with q | q <;> subst q <;> rfl) hz.2
            all_goals exact False.elim hz
          all_goals exact False.elim hz
        all_goals exact False.elim hz
      all_goals exact False.elim hz
    case iaload =>
      dsimp only at hz
      split at hz
      · split at hz
        · rename_i j x st' _ l hx
          refine ev_s8_ok ok hM hi (F := (pc + 1, L, .int (m x j.toNatClampNeg) :: st', ev_hp m t)) ?_ (nx _ _ _ _ _ _ hs0 hz.2 h0)
          simp only [ev_s8, ev_hp_get m t hx, ev_cell, ev_in_of hz.1, if_true]
        all_goals exact False.elim hz
      all_goals exact False.elim hz
    case caload =>
      dsimp only at hz
      split at hz
      · split at hz
        · rename_i j x st' _ l hx
          refine ev_s8_ok ok hM hi (F := (pc + 1, L, .int (m x j.toNatClampNeg) :: st', ev_hp m t)) ?_ (nx _ _ _ _ _ _ hs0 hz.2 h0)
          simp only [ev_s8, ev_hp_get m t hx, ev_cell, ev_in_of hz.1, if_true]
        all_goals exact False.elim hz
      all_goals exact False.elim hz
    case aaload =>
      dsimp only at hz
      split at hz
      · split at hz
        · rename_i j x st' _ l f g hx
          refine ev_s8_ok ok hM hi (F := (pc + 1, L, .ref (f + g * j.toNatClampNeg) :: st', ev_hp m t)) ?_ (nx _ _ _ _ _ _ hs0 hz.2 h0)
          simp only [ev_s8, ev_hp_get m t hx, ev_cell, ev_in_of hz.1, if_true]
          rfl
        all_goals exact False.elim hz
      all_goals exact False.elim hz
    case iastore =>
      dsimp only at hz
      split at hz
      · split at hz
        · rename_i v j x st' _ l hx
          refine ev_s8_ok ok hM hi (F := (pc + 1, L, st', ev_hp (ev_up m x j.toNatClampNeg v) t)) ?_ (nx _ _ _ _ _ _ hs0 hz.2 h0)
          simp only [ev_s8, ev_hp_get m t hx, ev_cell, ev_in_of hz.1, if_true, ev_up_arr]
          rw [ev_hp_set m t (j := j.toNatClampNeg) (v := v) hx (y := .inl (0, l, .inl (ev_up m x j.toNatClampNeg v x))) rfl]
        all_goals exact False.elim hz
      all_goals exact False.elim hz
    case castore =>
      dsimp only at hz
      split at hz
      · split at hz
        · rename_i v j x st' _ l hx
          refine ev_s8_ok ok hM hi (F := (pc + 1, L, st', ev_hp (ev_up m x j.toNatClampNeg (vp_nar .char v)) t)) ?_ (nx _ _ _ _ _ _ hs0 hz.2 h0)
          simp only [ev_s8, ev_hp_get m t hx, ev_cell, ev_in_of hz.1, if_true, ev_up_arr]
          rw [ev_hp_set m t (j := j.toNatClampNeg) (v := vp_nar .char v) hx (y := .inl (1, l, .inl (ev_up m x j.toNatClampNeg (vp_nar .char v) x))) rfl]
        all_goals exact False.elim hz
      all_goals exact False.elim hz
    case arraylength =>
      dsimp only at hz
      split at hz
      · split at hz
        · rename_i x st' _ ty l hx
          split at hz
          · rename_i hd
            refine ev_s8_ok ok hM hi (F := (pc + 1, L, .int (Int32.ofNat l) :: st', ev_hp m t)) ?_ (nx _ _ _ _ _ _ hs0 hz h0)
            have hd' : ty < 4 := of_decide_eq_true hd
            simp only [ev_s8, ev_hp_get m t hx, ev_cell, hd', if_true]
          all_goals exact False.elim hz
        · rename_i x st' _ l fg hx
          refine ev_s8_ok ok hM hi (F := (pc + 1, L, .int (Int32.ofNat l) :: st', ev_hp m t)) ?_ (nx _ _ _ _ _ _ hs0 hz h0)
          obtain ⟨f, g⟩ := fg
          simp only [ev_s8, ev_hp_get m t hx, ev_cell]
          rfl
        all_goals exact False.elim hz
      all_goals exact False.elim hz
    case ireturn =>
      dsimp only at hz
      split at hz
      · split at hz
        · rename_i hr
          exact ev_ireturn hM hi hr rfl ⟨m, t, rfl, hz⟩
        · rename_i ty hne hr
          exact ev_ireturn hM hi hr hz.1 ⟨m, t, rfl, hz.2⟩
        all_goals exact False.elim hz
      all_goals exact False.elim hz
    case return_ =>
      dsimp only at hz
      split at hz
      · split at hz
        · rename_i hr
          exact ev_return hM hi hr ⟨m, t, rfl, hz⟩
        all_goals exact False.elim hz
      all_goals exact False.elim hz
    case areturn =>
      dsimp only at hz
      split at hz
      · split at hz
        · rename_i hr
          exact ev_areturn hM hi hr (Or.inl ⟨_, rfl⟩) ⟨m, t, rfl, hz⟩
        · rename_i hr
          exact ev_areturn hM hi hr (Or.inr ⟨_, rfl⟩) ⟨m, t, rfl, hz⟩
        all_goals exact False.elim hz
      all_goals exact False.elim hz
    case new idx =>
      dsimp only at hz
      split at hz
      · rename_i hc
        simp only [Bool.and_eq_true, Bool.not_eq_true', decide_eq_false_iff_not, decide_eq_true_eq] at hc
        obtain ⟨⟨c1, c2⟩, c3⟩ := hc
        obtain ⟨⟨r1, r2⟩, hQ⟩ := hz
        refine ev_fin_ok ok hsp hM hk hi (r := .inr (307 + t.length)) (h' := ev_hp m (t ++ [.inr (a, [])])) ?_ ⟨m, _, rfl, hQ⟩
        have g1 : (ev_hp m t).length + 1 ≤ (ev_cpw w).1 := by rw [ev_hp_len]; exact r1
        have g2 : ev_cost (ev_hp m t) + 6 ≤ (ev_cpw w).2 := by rw [ev_cost_hp]; exact r2
        simp only [ev_fin]
        rw [if_pos ⟨c1, g1, g2, c2, c3⟩, ev_hp_len]
        simp only [ev_hp, List.append_assoc]
      all_goals exact False.elim hz
    case invokestatic idx =>
      dsimp only at hz
      split at hz
      · rename_i hc hh
        simp only [Bool.and_eq_true, decide_eq_true_eq] at hc
        obtain ⟨⟨c1, c2⟩, c3⟩ := hc
        obtain ⟨-, hK⟩ := hs _ _ _ _ _ hz
        exact ev_jcall ok hM hk hi (by simp only [ev_inv]; rw [if_pos ⟨c1, c2⟩]) c3 hh hK (fun v m' t' hq => nx _ _ _ _ _ _ hs0 hq) (fun k m' t' hq => hq)
      all_goals exact False.elim hz
    case invokevirtual idx =>
      dsimp only at hz
      split at hz
      · rename_i x rest hst hh
        split at hz
        · rename_i hc
          simp only [Bool.and_eq_true, Bool.not_eq_true', decide_eq_true_eq] at hc
          obtain ⟨⟨⟨c1, c2⟩, c3⟩, c4⟩ := hc
          obtain ⟨hr, hK⟩ := hs _ _ _ _ _ hz
          rcases hr with hr | ⟨x', us, e1, hr⟩
          · rw [c4] at hr; cases hr
          cases e1
          obtain ⟨M', hM', -, -⟩ := ev_room_of c3
          cases hmc : ev_mcs[a]? with
          | none =>
            have h1 : a < ev_prog.length := (List.getElem?_eq_some_iff.mp hM').1
            have h2 : ev_mcs.length = ev_prog.length := by decide +kernel
            rw [List.getElem?_eq_none_iff] at hmc
            omega
          | some c =>
            rw [hmc] at hr
            obtain ⟨fs, hx⟩ := ev_shc_of hr
            refine ev_jcall ok hM hk hi (vs := .ref x :: (st.take b).reverse) (rest := rest) ?_ c3 hh hK (fun v m' t' hq => nx _ _ _ _ _ _ hs0 hq) (fun k m' t' hq => hq)
            simp only [ev_inv, hst, ev_hp_get m t hx, ev_cell, hmc]
            rw [if_pos ⟨trivial, c1, c2⟩]
        all_goals exact False.elim hz
      all_goals exact False.elim hz
    all_goals exact False.elim hz
theorem ev_jv_ok {Q : ev_QT} {sp : Nat → ev_SP} {cut : List Nat} (ok : ev_ok w) (hsp : ∀ x ∈ ev_sp, x.before w.2.2.1 w.2.1 = true) (hs : ∀ k vs m t Q, sp k vs m t Q → ev_K w k vs m t Q) (hM : ev_dec M = true) (hk : ev_lnks M = true) (hr : ev_srt M = true)
    (n pc : Nat) (L : List (Option Value)) (st : List Value) (m : ev_Mem) (t : ev_H) (hz : ev_jv w sp cut M d Q n pc L st m t) : ev_J w M d Q pc L st m t := by
  unfold ev_jv at hz
  have hsf := ev_seek_suf M pc
  cases hc : ev_seek M pc with
  | nil =>
    rw [hc] at hz
    cases n with
    | zero => exact hz.elim
    | succ n => exact hz.elim
  | cons q tl =>
    rw [hc] at hz hsf
    have h1 : q.1 = pc := by
      have h2 : (ev_seek M pc).head? = some q := by rw [hc]; rfl
      have h3 := List.head?_dropWhile_not (fun q : Nat × Instr × Nat × Nat => !(q.1 == pc)) M.2.2.2.2.2
      unfold ev_seek at h2
      rw [h2] at h3
      simpa using h3
    have h2 := ev_jw_ok ok hsp hs hM hk hr n q tl L st m t hsf hz
    rw [h1] at h2
    exact h2
end EvWpOk
end
section
/-! whole numbers of 32 bits -/
section EvInts
theorem ev_lo (x : Int32) : -2147483648 ≤ x.toInt := Int32.le_toInt x
theorem ev_hi (x : Int32) : x.toInt < 2147483648 := Int32.toInt_lt x
theorem ev_bm {a : Int} (h1 : -2147483648 ≤ a) (h2 : a < 2147483648) : a.bmod 4294967296 = a := by
  rw [Int.bmod_def]
  split <;> omega
theorem ev_add_i {x y : Int32} (h1 : -2147483648 ≤ x.toInt + y.toInt) (h2 : x.toInt + y.toInt < 2147483648) : (x + y).toInt = x.toInt + y.toInt := by
  rw [Int32.toInt_add]; exact ev_bm h1 h2
theorem ev_sub_i {x y : Int32} (h1 : -2147483648 ≤ x.toInt - y.toInt) (h2 : x.toInt - y.toInt < 2147483648) : (x - y).toInt = x.toInt - y.toInt := by
  rw [Int32.toInt_sub]; exact ev_bm h1 h2
theorem ev_mul_i {x y : Int32} (h1 : -2147483648 ≤ x.toInt * y.toInt) (h2 : x.toInt * y.toInt < 2147483648) : (x * y).toInt = x.toInt * y.toInt := by
  rw [Int32.toInt_mul]; exact ev_bm h1 h2
theorem ev_ofNat_i {n : Nat} (h : n < 2147483648) : (Int32.ofNat n).toInt = (n : Int) := by
  rw [Int32.toInt_ofNat']; exact ev_bm (by omega) (by omega)
theorem ev_ofInt_i {a : Int} (h1 : -2147483648 ≤ a) (h2 : a < 2147483648) : (Int32.ofInt a).toInt = a := by
  rw [Int32.toInt_ofInt]; exact ev_bm h1 h2
theorem ev_eq_of {x y : Int32} (h : x.toInt = y.toInt) : x = y := Int32.toInt_inj.mp h
theorem ev_nat (x : Int32) : x.toNatClampNeg = x.toInt.toNat := rfl
theorem ev_div_i {x y : Int32} (hx : 0 ≤ x.toInt) (hy : 0 < y.toInt) : (x / y).toInt = x.toInt / y.toInt := by
  have h1 := ev_hi x
  rw [Int32.toInt_div, Int.tdiv_eq_ediv_of_nonneg hx]
  have h2 : 0 ≤ x.toInt / y.toInt := Int.ediv_nonneg hx (Int.le_of_lt hy)
  have h3 : x.toInt / y.toInt ≤ x.toInt := Int.ediv_le_self _ hx
  exact ev_bm (by omega) (by omega)
theorem ev_rem_i {x y : Int32} (hx : 0 ≤ x.toInt) (hy : 0 < y.toInt) : (x - x / y * y).toInt = x.toInt % y.toInt := by
  have h1 := ev_hi x
  have h2 := ev_div_i hx hy
  have h3 : 0 ≤ x.toInt / y.toInt := Int.ediv_nonneg hx (Int.le_of_lt hy)
  have h4 : x.toInt / y.toInt * y.toInt ≤ x.toInt := Int.ediv_mul_le _ (by omega)
  have h5 : 0 ≤ x.toInt / y.toInt * y.toInt := Int.mul_nonneg h3 (Int.le_of_lt hy)
  have h6 : (x / y * y).toInt = x.toInt / y.toInt * y.toInt := by
    rw [← h2] at h4 h5
    rw [ev_mul_i (by omega) (by omega), h2]
  rw [ev_sub_i (by rw [h6]; omega) (by rw [h6]; omega), h6, Int.emod_def, Int.mul_comm]
theorem ev_succ {k : Nat} (h : k < 2147483647) : Int32.ofNat k + 1 = Int32.ofNat (k + 1) := by
  apply ev_eq_of
  have e1 : (1 : Int32).toInt = 1 := by decide
  have e2 := ev_ofNat_i (n := k) (by omega)
  rw [ev_add_i (by omega) (by omega), e2, e1, ev_ofNat_i (by omega)]
  omega
theorem ev_ofNat_toNat {x : Int32} (h : 0 ≤ x.toInt) : Int32.ofNat x.toInt.toNat = x := by
  have h1 := ev_hi x
  apply ev_eq_of
  rw [ev_ofNat_i (by omega)]
  omega
theorem ev_ne10 : ¬ (1 : Int32).toInt = 0 := by decide
theorem ev_eq00 : (0 : Int32).toInt = 0 := by decide
theorem ev_up_same (m : ev_Mem) (x j : Nat) (v : Int32) : ev_up m x j v x j = v := if_pos ⟨rfl, rfl⟩
theorem ev_up_cell (m : ev_Mem) {x k : Nat} (hk : k ≠ x) (j : Nat) (v : Int32) (i : Nat) : ev_up m x j v k i = m k i := if_neg (fun h => hk h.1)
theorem ev_up_idx (m : ev_Mem) (x : Nat) {j i : Nat} (hi : i ≠ j) (v : Int32) (k : Nat) : ev_up m x j v k i = m k i := if_neg (fun h => hi h.2)
end EvInts
end
section
/-! rows of letters -/
section EvLetters
def ev_all (w : ev_W) : Prop := ev_ok w ∧ (∀ x ∈ ev_sp, x.before w.2.2.1 w.2.1 = true)
variable {w : ev_W} {M : ev_M} {d : Nat × Nat} {Q : ev_QT} {pc : Nat} {L : List (Option Value)} {st : List Value} {m : ev_Mem} {t : ev_H} {a b : Nat}
theorem ev_dec_of {k : Nat} (hp : ev_prog[k]? = some M) : ev_dec M = true := by
  have h1 := (ev_prog_ok M (List.mem_of_getElem? hp)).1
  simp only [ev_mw, Bool.and_eq_true] at h1
  exact h1.2
theorem ev_go {k : Nat} {sp : Nat → ev_SP} {cut : List Nat} (A : ev_all w) (hp : ev_prog[k]? = some M) (hs : ∀ k vs m t Q, sp k vs m t Q → ev_K w k vs m t Q) (n : Nat) (h : ev_jv w sp cut M d Q n pc L st m t) : ev_J w M d Q pc L st m t :=
  ev_jv_ok A.1 A.2 hs (ev_dec_of hp) (ev_prog_ok M (List.mem_of_getElem? hp)).2 (List.all_eq_true.mp ev_srt_all M (List.mem_of_getElem? hp)) n pc L st m t h
def ev_no : Nat → ev_SP := fun _ _ _ _ _ => False
theorem ev_no_ok : ∀ k vs m t Q, ev_no k vs m t Q → ev_K w k vs m t Q := fun _ _ _ _ _ h => h.elim
/-- Math.min -/
theorem ev_S0 (A : ev_all w) {x y : Int32} (hQ : Q (.inl (some (.int (if x.toInt ≤ y.toInt then x else y)))) m t) : ev_K w 0 [.int x, .int y] m t Q := by
  refine ⟨Or.inl rfl, ev_m0, rfl, ev_go A (k := 0) rfl ev_no_ok (cut := []) 20 ?_⟩
  show (y.toInt < x.toInt → Q (.inl (some (.int y))) m t) ∧ (x.toInt ≤ y.toInt → Q (.inl (some (.int x))) m t)
  refine ⟨fun h => ?_, fun h => ?_⟩
  · rw [if_neg (by omega)] at hQ; exact hQ
  · rw [if_pos h] at hQ; exact hQ
/-- Rules.count -/
theorem ev_S17 (A : ev_all w) (hQ : Q (.inl (some (.int (m 5 2)))) m t) : ev_K w 17 [.ref 5] m t Q :=
  ⟨Or.inr ⟨5, [], rfl, rfl⟩, ev_m17, rfl, ev_go A (k := 17) rfl ev_no_ok (cut := []) 20 hQ⟩
/-- a row of letters at x, for so many -/
def ev_isL (x c : Nat) : Prop := ev_shs[x]? = some (.inr (.inr (0, [some (x + 1), none]))) ∧ ev_shs[x + 1]? = some (.inl (1, c))
theorem ev_isL_rv {x c k : Nat} {us : List Value} (hx : ev_isL x c) (hk : ev_mcs[k]? = some 0) : ev_rv k (.ref x :: us) := by
  refine Or.inr ⟨x, us, rfl, ?_⟩
  unfold ev_shc
  rw [hx.1, hk]
theorem ev_jL_len {k x c idx : Nat} (A : ev_all w) (hp : ev_prog[k]? = some M) (hx : ev_isL x c) (hi : ev_ins M pc = some (.getfield idx, 0, 1)) (kk : ev_J w M d Q (pc + 3) L (.int (m x 1) :: st) m t) : ev_J w M d Q pc L (.ref x :: st) m t := by
  intro h0
  refine ev_s7_ok A.1 (ev_dec_of hp) (ev_prog_ok M (List.mem_of_getElem? hp)).2 hi (F := (pc + 3, L, .int (m x 1) :: st, ev_hp m t)) ?_ (kk h0)
  simp only [ev_s7, ev_hp_get m t hx.1, ev_cell, if_true]
  rfl
theorem ev_jL_row {k x c idx : Nat} (A : ev_all w) (hp : ev_prog[k]? = some M) (hx : ev_isL x c) (hi : ev_ins M pc = some (.getfield idx, 0, 0)) (kk : ev_J w M d Q (pc + 3) L (.ref (x + 1) :: st) m t) : ev_J w M d Q pc L (.ref x :: st) m t := by
  intro h0
  refine ev_s7_ok A.1 (ev_dec_of hp) (ev_prog_ok M (List.mem_of_getElem? hp)).2 hi (F := (pc + 3, L, .ref (x + 1) :: st, ev_hp m t)) ?_ (kk h0)
  simp only [ev_s7, ev_hp_get m t hx.1, ev_cell, if_true]
  rfl
theorem ev_jL_put {k x c idx : Nat} {v : Int32} (A : ev_all w) (hp : ev_prog[k]? = some M) (hx : ev_isL x c) (hi : ev_ins M pc = some (.putfield idx, 0, 1)) (kk : ev_J w M d Q (pc + 3) L st (ev_up m x 1 v) t) : ev_J w M d Q pc L (.int v :: .ref x :: st) m t := by
  intro h0
  refine ev_s7_ok A.1 (ev_dec_of hp) (ev_prog_ok M (List.mem_of_getElem? hp)).2 hi (F := (pc + 3, L, st, ev_hp (ev_up m x 1 v) t)) ?_ (kk h0)
  have hf : ev_fitv (ev_fty ((ev_cl[0]?).getD ("", fun _ => ("", "", "", false), 0)) 1) (.int v) = true := rfl
  have hl : 1 < (([some (x + 1), none] : List (Option Nat)).mapIdx (fun j r => ev_fld m x j r)).length := by simp
  simp only [ev_s7, ev_hp_get m t hx.1, ev_cell, hf, hl, and_self, if_true]
  rw [ev_fld_set m x [some (x + 1), none] v (k := 1) rfl, ev_hp_set m t (j := 1) (v := v) hx.1 (y := .inr (0, ([some (x + 1), none] : List (Option Nat)).mapIdx (fun j r => ev_fld (ev_up m x 1 v) x j r))) rfl]
theorem ev_jL_ld {k x c : Nat} {j : Int32} (A : ev_all w) (hp : ev_prog[k]? = some M) (hx : ev_isL x c) (hj : ev_in j c) (hi : ev_ins M pc = some (.caload, a, b)) (kk : ev_J w M d Q (pc + 1) L (.int (m (x + 1) j.toNatClampNeg) :: st) m t) : ev_J w M d Q pc L (.int j :: .ref (x + 1) :: st) m t := by
  intro h0
  refine ev_s8_ok A.1 (ev_dec_of hp) hi (F := (pc + 1, L, .int (m (x + 1) j.toNatClampNeg) :: st, ev_hp m t)) ?_ (kk h0)
  simp only [ev_s8, ev_hp_get m t hx.2, ev_cell, ev_in_of hj, if_true]
theorem ev_jL_st {k x c : Nat} {j v : Int32} (A : ev_all w) (hp : ev_prog[k]? = some M) (hx : ev_isL x c) (hj : ev_in j c) (hi : ev_ins M pc = some (.castore, a, b)) (kk : ev_J w M d Q (pc + 1) L st (ev_up m (x + 1) j.toNatClampNeg (vp_nar .char v)) t) : ev_J w M d Q pc L (.int v :: .int j :: .ref (x + 1) :: st) m t := by
  intro h0
  refine ev_s8_ok A.1 (ev_dec_of hp) hi (F := (pc + 1, L, st, ev_hp (ev_up m (x + 1) j.toNatClampNeg (vp_nar .char v)) t)) ?_ (kk h0)
  simp only [ev_s8, ev_hp_get m t hx.2, ev_cell, ev_in_of hj, if_true, ev_up_arr]
  rw [ev_hp_set m t (j := j.toNatClampNeg) (v := vp_nar .char v) hx.2 (y := .inl (1, c, .inl (ev_up m (x + 1) j.toNatClampNeg (vp_nar .char v) (x + 1)))) rfl]
theorem ev_jL_al {k x c : Nat} (A : ev_all w) (hp : ev_prog[k]? = some M) (hx : ev_isL x c) (hi : ev_ins M pc = some (.arraylength, a, b)) (kk : ev_J w M d Q (pc + 1) L (.int (Int32.ofNat c) :: st) m t) : ev_J w M d Q pc L (.ref (x + 1) :: st) m t := by
  intro h0
  refine ev_s8_ok A.1 (ev_dec_of hp) hi (F := (pc + 1, L, .int (Int32.ofNat c) :: st, ev_hp m t)) ?_ (kk h0)
  simp only [ev_s8, ev_hp_get m t hx.2, ev_cell]
  rfl
/-- isGap -/
theorem ev_S4 {x c : Nat} (A : ev_all w) (hx : ev_isL x c) (hQ : Q (.inl (some (.int (if (m x 1).toInt = -1 then 1 else 0)))) m t) : ev_K w 4 [.ref x] m t Q := by
  refine ⟨ev_isL_rv hx rfl, ev_m4, rfl, ev_go A (k := 4) rfl ev_no_ok (cut := []) 1 ?_⟩
  refine ev_jL_len (idx := 15) A (k := 4) rfl hx rfl (ev_go A (k := 4) rfl ev_no_ok (cut := []) 20 ?_)
  show (¬ (m x 1).toInt = -1 → _ ∧ Q (.inl (some (.int 0))) m t) ∧ ((m x 1).toInt = -1 → _ ∧ Q (.inl (some (.int 1))) m t)
  refine ⟨fun h => ⟨rfl, ?_⟩, fun h => ⟨rfl, ?_⟩⟩
  · rw [if_neg h] at hQ; exact hQ
  · rw [if_pos h] at hQ; exact hQ
/-- size -/
theorem ev_S5 {x c : Nat} (A : ev_all w) (hx : ev_isL x c) (hQ : Q (.inl (some (.int (m x 1)))) m t) : ev_K w 5 [.ref x] m t Q :=
  ⟨ev_isL_rv hx rfl, ev_m5, rfl, ev_go A (k := 5) rfl ev_no_ok (cut := []) 1 (ev_jL_len (idx := 15) A (k := 5) rfl hx rfl (ev_go A (k := 5) rfl ev_no_ok (cut := []) 20 hQ))⟩
/-- letter -/
theorem ev_S6 {x c : Nat} {j : Int32} (A : ev_all w) (hx : ev_isL x c) (hj : ev_in j c) (hc : narrow .char (.int (m (x + 1) j.toNatClampNeg)) = .int (m (x + 1) j.toNatClampNeg)) (hQ : Q (.inl (some (.int (m (x + 1) j.toNatClampNeg)))) m t) : ev_K w 6 [.ref x, .int j] m t Q :=
  ⟨ev_isL_rv hx rfl, ev_m6, rfl, ev_go A (k := 6) rfl ev_no_ok (cut := []) 1 (ev_jL_row (idx := 9) A (k := 6) rfl hx rfl (ev_go A (k := 6) rfl ev_no_ok (cut := []) 1 (ev_jL_ld (a := 0) (b := 0) A (k := 6) rfl hx hj rfl (ev_go A (k := 6) rfl ev_no_ok (cut := []) 20 ⟨hc, hQ⟩))))⟩
/-- keep -/
theorem ev_S7 {x c : Nat} {n : Int32} (A : ev_all w) (hx : ev_isL x c) (hQ : Q (.inl none) (ev_up m x 1 n) t) : ev_K w 7 [.ref x, .int n] m t Q :=
  ⟨ev_isL_rv hx rfl, ev_m7, rfl, ev_go A (k := 7) rfl ev_no_ok (cut := []) 2 (ev_jL_put (idx := 15) A (k := 7) rfl hx rfl (ev_go A (k := 7) rfl ev_no_ok (cut := []) 20 hQ))⟩
/-- becomeGap -/
theorem ev_S11 {x c : Nat} (A : ev_all w) (hx : ev_isL x c) (hQ : Q (.inl none) (ev_up m x 1 (-1)) t) : ev_K w 11 [.ref x] m t Q :=
  ⟨ev_isL_rv hx rfl, ev_m11, rfl, ev_go A (k := 11) rfl ev_no_ok (cut := []) 2 (ev_jL_put (idx := 15) A (k := 11) rfl hx rfl (ev_go A (k := 11) rfl ev_no_ok (cut := []) 20 hQ))⟩
/-- add -/
def ev_addL (m : ev_Mem) (x c : Nat) (v : Int32) : ev_Mem := if 0 ≤ (m x 1).toInt ∧ (m x 1).toInt < (c : Int) then ev_up (ev_up m (x + 1) (m x 1).toNatClampNeg (vp_nar .char v)) x 1 (m x 1 + 1) else m
theorem ev_S9 {x c : Nat} {v : Int32} (A : ev_all w) (hx : ev_isL x c) (hc : c < 10000) (hQ : Q (.inl none) (ev_addL m x c v) t) : ev_K w 9 [.ref x, .int v] m t Q := by
  have hp : ev_prog[9]? = some ev_m9 := rfl
  have ec : (Int32.ofNat c).toInt = (c : Int) := ev_ofNat_i (by omega)
  refine ⟨ev_isL_rv hx rfl, ev_m9, rfl, ev_go A hp ev_no_ok (cut := []) 1 (ev_jL_len (idx := 15) A hp hx rfl (ev_go A hp ev_no_ok (cut := []) 1 ?_))⟩
  refine And.intro (fun h => ?_) (fun h => ?_)
  · have h' : (m x 1).toInt < 0 := h
    refine ev_go A hp ev_no_ok (cut := []) 20 ?_
    rw [ev_addL, if_neg (by omega)] at hQ
    exact hQ
  · have h' : 0 ≤ (m x 1).toInt := h
    refine ev_go A hp ev_no_ok (cut := []) 1 (ev_jL_len (idx := 15) A hp hx rfl (ev_go A hp ev_no_ok (cut := []) 1 (ev_jL_row (idx := 9) A hp hx rfl (ev_jL_al (a := 0) (b := 0) A hp hx rfl (ev_go A hp ev_no_ok (cut := []) 1 ?_)))))
    refine And.intro (fun h => ?_) (fun h => ?_)
    · have h2 : (Int32.ofNat c).toInt ≤ (m x 1).toInt := h
      refine ev_go A hp ev_no_ok (cut := []) 20 ?_
      rw [ev_addL, if_neg (by omega)] at hQ
      exact hQ
    · have h2 : (m x 1).toInt < (Int32.ofNat c).toInt := h
      rw [ev_addL, if_pos (by omega)] at hQ
      refine ev_go A hp ev_no_ok (cut := []) 1 (ev_jL_row (idx := 9) A hp hx rfl (ev_go A hp ev_no_ok (cut := []) 1 (ev_jL_len (idx := 15) A hp hx rfl (ev_go A hp ev_no_ok (cut := []) 1 (ev_jL_st (a := 0) (b := 0) A hp hx ⟨h', by omega⟩ rfl (ev_go A hp ev_no_ok (cut := []) 2 (ev_jL_len (idx := 15) A hp hx rfl (ev_go A hp ev_no_ok (cut := []) 2 (ev_jL_put (idx := 15) A hp hx rfl (ev_go A hp ev_no_ok (cut := []) 20 ?_))))))))))
      rw [ev_up_cell _ (by omega)]
      exact hQ
/-- standsIn -/
def ev_std (m : ev_Mem) (x y : Nat) (f : Int) : Prop := f + (m x 1).toInt ≤ (m y 1).toInt ∧ ∀ k : Nat, (k : Int) < (m x 1).toInt → m (x + 1) k = m (y + 1) (f.toNat + k)
theorem ev_S8 {x y c e : Nat} {f : Int32} (A : ev_all w) (hx : ev_isL x c) (hy : ev_isL y e) (hc : c < 10000) (he : e < 10000) (hf : 0 ≤ f.toInt) (hf2 : f.toInt < 10000) (hlx : -1 ≤ (m x 1).toInt) (hlx2 : (m x 1).toInt ≤ (c : Int)) (hly2 : (m y 1).toInt ≤ (e : Int))
    (ht : ev_std m x y f.toInt → Q (.inl (some (.int 1))) m t) (hn : ¬ ev_std m x y f.toInt → Q (.inl (some (.int 0))) m t) : ev_K w 8 [.ref x, .ref y, .int f] m t Q := by
  have hp : ev_prog[8]? = some ev_m8 := rfl
  have e1 : (f + m x 1).toInt = f.toInt + (m x 1).toInt := ev_add_i (by omega) (by omega)
  refine ⟨ev_isL_rv hx rfl, ev_m8, rfl, ev_go A hp ev_no_ok (cut := []) 2 (ev_jL_len (idx := 15) A hp hx rfl (ev_go A hp ev_no_ok (cut := []) 2 (ev_jL_len (idx := 15) A hp hy rfl (ev_go A hp ev_no_ok (cut := [17]) 4 ?_))))⟩
  refine And.intro (fun h => ?_) (fun h => ?_)
  · have h1 : (f + m x 1).toInt ≤ (m y 1).toInt := h
    have loop : ∀ (n k : Nat), (m x 1).toInt ≤ (k : Int) + n → (k : Int) ≤ (m x 1).toInt ∨ k = 0 → (∀ j, j < k → m (x + 1) j = m (y + 1) (f.toInt.toNat + j)) → ev_J w ev_m8 (ev_nd 8) Q 17 [some (.ref x), some (.ref y), some (.int f), some (.int (Int32.ofNat k))] [] m t := by
      intro n
      induction n with
      | zero =>
        intro k hk hk2 hall
        have ek : (Int32.ofNat k).toInt = (k : Int) := ev_ofNat_i (by omega)
        refine ev_go A hp ev_no_ok (cut := []) 2 (ev_jL_len (idx := 15) A hp hx rfl (ev_go A hp ev_no_ok (cut := []) 10 ?_))
        refine And.intro (fun h => ⟨rfl, ht ⟨by omega, fun j hj => hall j (by omega)⟩⟩) (fun h => ?_)
        have h2 : (Int32.ofNat k).toInt < (m x 1).toInt := h
        omega
      | succ n ih =>
        intro k hk hk2 hall
        have ek : (Int32.ofNat k).toInt = (k : Int) := ev_ofNat_i (by omega)
        refine ev_go A hp ev_no_ok (cut := []) 2 (ev_jL_len (idx := 15) A hp hx rfl (ev_go A hp ev_no_ok (cut := []) 1 ?_))
        refine And.intro (fun h => ?_) (fun h => ?_)
        · have h2 : (m x 1).toInt ≤ (Int32.ofNat k).toInt := h
          exact ev_go A hp ev_no_ok (cut := []) 4 ⟨rfl, ht ⟨by omega, fun j hj => hall j (by omega)⟩⟩
        · have h2 : (Int32.ofNat k).toInt < (m x 1).toInt := h
          have ef : (f + Int32.ofNat k).toInt = f.toInt + (k : Int) := by rw [ev_add_i (by omega) (by omega), ek]
          have n1 : (Int32.ofNat k).toNatClampNeg = k := by rw [ev_nat, ek]; omega
          have n2 : (f + Int32.ofNat k).toNatClampNeg = f.toInt.toNat + k := by rw [ev_nat, ef]; omega
          refine ev_go A hp ev_no_ok (cut := []) 1 (ev_jL_row (idx := 9) A hp hx rfl (ev_go A hp ev_no_ok (cut := []) 1 (ev_jL_ld (a := 0) (b := 0) A hp hx ⟨by omega, by omega⟩ rfl (ev_go A hp ev_no_ok (cut := []) 1 (ev_jL_row (idx := 9) A hp hy rfl (ev_go A hp ev_no_ok (cut := []) 3 (ev_jL_ld (a := 0) (b := 0) A hp hy ⟨by omega, by omega⟩ rfl (ev_go A hp ev_no_ok (cut := [17]) 4 ?_))))))))
          rw [n1, n2]
          refine And.intro (fun h => ?_) (fun h => ?_)
          · have h3 : m (x + 1) k = m (y + 1) (f.toInt.toNat + k) := ev_eq_of h
            show ev_J w ev_m8 (ev_nd 8) Q 17 [some (.ref x), some (.ref y), some (.int f), some (.int (Int32.ofNat k + 1))] [] m t
            rw [ev_succ (by omega)]
            refine ih (k + 1) (by omega) (Or.inl (by omega)) (fun j hj => ?_)
            rcases Nat.lt_or_eq_of_le (Nat.le_of_lt_succ hj) with q | q
            · exact hall j q
            · rw [q]; exact h3
          · have h3 : ¬ (m (x + 1) k).toInt = (m (y + 1) (f.toInt.toNat + k)).toInt := h
            exact ⟨rfl, hn (fun q => h3 (by rw [q.2 k (by omega)]))⟩
    exact loop (m x 1).toInt.toNat 0 (by omega) (Or.inr rfl) (fun j hj => absurd hj (Nat.not_lt_zero _))
  · have h1 : (m y 1).toInt < (f + m x 1).toInt := h
    exact ⟨rfl, hn (fun q => by have q1 := q.1; omega)⟩
theorem ev_gK {k : Nat} (A : ev_all w) (hp : ev_prog[k]? = some M) (cut : List Nat) (n : Nat) (h : ev_jv w (ev_K w) cut M d Q n pc L st m t) : ev_J w M d Q pc L st m t :=
  ev_go A hp (fun _ _ _ _ _ h => h) n h
theorem ev_isL_ne {x y c e : Nat} (hx : ev_isL x c) (hy : ev_isL y e) : y ≠ x + 1 := by
  intro h
  have h1 := hx.2
  rw [← h, hy.1] at h1
  cases h1
/-- a letter that fits its place -/
def ev_ch (v : Int32) : Prop := narrow .char (.int v) = .int v
theorem ev_ch_nar {v : Int32} (h : ev_ch v) : vp_nar .char v = v := by
  unfold vp_nar
  rw [h]
/-- addPart -/
theorem ev_S10 {x y c e : Nat} {f g : Int32} (A : ev_all w) (hx : ev_isL x c) (hy : ev_isL y e) (hxy : y ≠ x) (hc : c < 10000) (he : e < 10000) (hf : 0 ≤ f.toInt) (hfg : f.toInt ≤ g.toInt) (hg : g.toInt ≤ (e : Int)) (hl : 0 ≤ (m x 1).toInt) (hroom : (m x 1).toInt + (g.toInt - f.toInt) ≤ (c : Int))
    (hch : ∀ k : Nat, f.toInt ≤ (k : Int) → (k : Int) < g.toInt → ev_ch (m (y + 1) k))
    (hQ : ∀ m' : ev_Mem, (m' x 1).toInt = (m x 1).toInt + (g.toInt - f.toInt) → (∀ k : Nat, (k : Int) < (m x 1).toInt → m' (x + 1) k = m (x + 1) k) → (∀ i : Nat, (i : Int) < g.toInt - f.toInt → m' (x + 1) ((m x 1).toInt.toNat + i) = m (y + 1) (f.toInt.toNat + i)) → (∀ k j, k ≠ x → k ≠ x + 1 → m' k j = m k j) → Q (.inl none) m' t) :
    ev_K w 10 [.ref x, .ref y, .int f, .int g] m t Q := by
  have hp : ev_prog[10]? = some ev_m10 := rfl
  have d1 := ev_isL_ne hx hy
  have d2 := ev_isL_ne hy hx
  have loop : ∀ (n k : Nat) (mk : ev_Mem), (k : Int) + n = g.toInt → f.toInt ≤ (k : Int) → (mk x 1).toInt = (m x 1).toInt + ((k : Int) - f.toInt) → (∀ j : Nat, (j : Int) < (m x 1).toInt → mk (x + 1) j = m (x + 1) j) → (∀ i : Nat, (i : Int) < (k : Int) - f.toInt → mk (x + 1) ((m x 1).toInt.toNat + i) = m (y + 1) (f.toInt.toNat + i)) → (∀ k j, k ≠ x → k ≠ x + 1 → mk k j = m k j) →
      ev_J w ev_m10 (ev_nd 10) Q 3 [some (.ref x), some (.ref y), some (.int f), some (.int g), some (.int (Int32.ofNat k))] [] mk t := by
    intro n
    induction n with
    | zero =>
      intro k mk hk hfk i1 i2 i3 i4
      have ek : (Int32.ofNat k).toInt = (k : Int) := ev_ofNat_i (by omega)
      refine ev_gK A hp [] 10 ?_
      refine And.intro (fun h => hQ mk (by omega) i2 (fun i hi => i3 i (by omega)) i4) (fun h => ?_)
      have h2 : (Int32.ofNat k).toInt < g.toInt := h
      omega
    | succ n ih =>
      intro k mk hk hfk i1 i2 i3 i4
      have ek : (Int32.ofNat k).toInt = (k : Int) := ev_ofNat_i (by omega)
      have nk : (Int32.ofNat k).toNatClampNeg = k := by rw [ev_nat, ek]; omega
      refine ev_gK A hp [] 3 ?_
      refine And.intro (fun h => ?_) (fun h => ?_)
      · have h2 : g.toInt ≤ (Int32.ofNat k).toInt := h
        omega
      · refine ev_gK A hp [] 2 (ev_jL_row (idx := 9) A hp hy rfl (ev_gK A hp [] 1 (ev_jL_ld (a := 0) (b := 0) A hp hy ⟨by omega, by omega⟩ rfl (ev_gK A hp [3] 10 ?_))))
        rw [nk]
        have hv : mk (y + 1) k = m (y + 1) k := i4 _ _ d2.symm (by omega)
        refine ev_S9 A hx hc ?_
        show ev_J w ev_m10 (ev_nd 10) Q 3 [some (.ref x), some (.ref y), some (.int f), some (.int g), some (.int (Int32.ofNat k + 1))] [] (ev_addL mk x c (mk (y + 1) k)) t
        have e1 : (1 : Int32).toInt = 1 := by decide
        have e2 : (mk x 1 + 1).toInt = (mk x 1).toInt + 1 := by rw [ev_add_i (by omega) (by omega), e1]
        rw [ev_succ (by omega), ev_addL, if_pos (by omega), hv, ev_ch_nar (hch k (by omega) (by omega))]
        refine ih (k + 1) _ (by omega) (by omega) ?_ ?_ ?_ ?_
        · rw [ev_up_same, e2]; omega
        · intro j hj
          rw [ev_up_cell _ (by omega), ev_up_idx _ _ (by rw [ev_nat]; omega)]
          exact i2 j hj
        · intro i hi
          rw [ev_up_cell _ (by omega)]
          by_cases hik : (i : Int) < (k : Int) - f.toInt
          · rw [ev_up_idx _ _ (by rw [ev_nat]; omega)]
            exact i3 i hik
          · have q1 : (m x 1).toInt.toNat + i = (mk x 1).toNatClampNeg := by rw [ev_nat]; omega
            have q2 : f.toInt.toNat + i = k := by omega
            rw [q1, q2, ev_up_same]
        · intro k' j h1 h2
          rw [ev_up_cell _ h1, ev_up_cell _ h2]
          exact i4 k' j h1 h2
  refine ⟨ev_isL_rv hx rfl, ev_m10, rfl, ev_gK A hp [3] 5 ?_⟩
  show ev_J w ev_m10 (ev_nd 10) Q 3 [some (.ref x), some (.ref y), some (.int f), some (.int g), some (.int f)] [] m t
  have h0 := loop (g.toInt.toNat - f.toInt.toNat) f.toInt.toNat m (by omega) (by omega) (by omega) (fun _ _ => rfl) (fun i hi => by omega) (fun _ _ _ _ => rfl)
  rw [ev_ofNat_toNat hf] at h0
  exact h0
theorem ev_S10z {x y c : Nat} {f g : Int32} (A : ev_all w) (hx : ev_isL x c) (hfg : g.toInt ≤ f.toInt) (hQ : Q (.inl none) m t) : ev_K w 10 [.ref x, .ref y, .int f, .int g] m t Q := by
  have hp : ev_prog[10]? = some ev_m10 := rfl
  refine ⟨ev_isL_rv hx rfl, ev_m10, rfl, ev_gK A hp [] 5 ?_⟩
  refine And.intro (fun h => ev_gK A hp [] 5 hQ) (fun h => ?_)
  have h2 : f.toInt < g.toInt := h
  omega
/-- isSame -/
def ev_sm (m : ev_Mem) (x y : Nat) : Prop := (m x 1).toInt = (m y 1).toInt ∧ ∀ k : Nat, (k : Int) < (m x 1).toInt → m (x + 1) k = m (y + 1) k
theorem ev_S12 {x y c e : Nat} (A : ev_all w) (hx : ev_isL x c) (hy : ev_isL y e) (hc : c < 10000) (he : e < 10000) (hlx : -1 ≤ (m x 1).toInt) (hlx2 : (m x 1).toInt ≤ (c : Int)) (hly2 : (m y 1).toInt ≤ (e : Int))
    (ht : ev_sm m x y → Q (.inl (some (.int 1))) m t) (hn : ¬ ev_sm m x y → Q (.inl (some (.int 0))) m t) : ev_K w 12 [.ref x, .ref y] m t Q := by
  have hp : ev_prog[12]? = some ev_m12 := rfl
  refine ⟨ev_isL_rv hx rfl, ev_m12, rfl, ev_gK A hp [] 1 (ev_jL_len (idx := 15) A hp hx rfl (ev_gK A hp [] 1 (ev_jL_len (idx := 15) A hp hy rfl (ev_gK A hp [] 20 ?_))))⟩
  refine And.intro (fun h => ?_) (fun h => ?_)
  · have h1 : ¬ (m x 1).toInt = (m y 1).toInt := h
    exact ⟨rfl, hn (fun q => h1 q.1)⟩
  · have h1 : (m x 1).toInt = (m y 1).toInt := h
    have e0 : ((0 : Int32).toInt) = 0 := by decide
    refine ev_S8 (f := 0) A hx hy hc he (by decide) (by decide) hlx hlx2 hly2 (fun q => ?_) (fun q => ?_)
    · refine And.intro (fun h => (ev_ne10 h).elim) (fun h => ⟨rfl, ht ⟨h1, fun k hk => ?_⟩⟩)
      have h2 := q.2 k hk
      rw [e0] at h2
      rw [h2]
      congr 1
      omega
    · refine And.intro (fun h => ⟨rfl, hn (fun z => q ⟨by rw [e0]; omega, fun k hk => ?_⟩)⟩) (fun h => absurd ev_eq00 h)
      rw [e0, z.2 k hk]
      congr 1
      omega
/-- become -/
theorem ev_S13 {x y c e : Nat} (A : ev_all w) (hx : ev_isL x c) (hy : ev_isL y e) (hxy : y ≠ x) (hc : c < 10000) (he : e < 10000) (hly : -1 ≤ (m y 1).toInt) (hly2 : (m y 1).toInt ≤ (e : Int)) (hroom : (m y 1).toInt ≤ (c : Int)) (hch : ∀ k : Nat, (k : Int) < (m y 1).toInt → ev_ch (m (y + 1) k))
    (hQ : ∀ m' : ev_Mem, (m' x 1).toInt = (m y 1).toInt → (∀ k : Nat, (k : Int) < (m y 1).toInt → m' (x + 1) k = m (y + 1) k) → (∀ k j, k ≠ x → k ≠ x + 1 → m' k j = m k j) → Q (.inl none) m' t) : ev_K w 13 [.ref x, .ref y] m t Q := by
  have hp : ev_prog[13]? = some ev_m13 := rfl
  have d1 := ev_isL_ne hx hy
  have d2 := ev_isL_ne hy hx
  have e0 : ((0 : Int32).toInt) = 0 := by decide
  have em : ((-1 : Int32).toInt) = -1 := by decide
  refine ⟨ev_isL_rv hx rfl, ev_m13, rfl, ev_gK A hp [] 2 (ev_jL_put (idx := 15) A hp hx rfl (ev_gK A hp [] 4 (ev_jL_len (idx := 15) A hp hy rfl (ev_gK A hp [15] 20 ?_))))⟩
  show ev_K w 10 [.ref x, .ref y, .int 0, .int (ev_up m x 1 0 y 1)] (ev_up m x 1 0) t _
  have ey : ∀ j, ev_up m x 1 0 y j = m y j := fun j => ev_up_cell _ hxy _ _ _
  have er : ∀ j, ev_up m x 1 0 (y + 1) j = m (y + 1) j := fun j => ev_up_cell _ d2.symm _ _ _
  have key : ∀ m' : ev_Mem, (m' y 1 = m y 1) → ((m y 1).toInt = -1 → ∀ k j, k ≠ x → k ≠ x + 1 → m' k j = m k j) → (¬ (m y 1).toInt = -1 → Q (.inl none) m' t) →
      ev_J w ev_m13 (ev_nd 13) Q 15 [some (.ref x), some (.ref y)] [] m' t := by
    intro m' k1 k2 k3
    refine ev_gK A hp [] 20 ?_
    refine ev_S4 A hy ?_
    rw [k1]
    by_cases hg : (m y 1).toInt = -1
    · rw [if_pos hg]
      refine And.intro (fun h => (ev_ne10 h).elim) (fun h => ?_)
      refine ev_S11 A hx ?_
      exact hQ _ (by rw [ev_up_same, hg]; decide) (fun k hk => by omega) (fun k j h1 h2 => by rw [ev_up_cell _ h1]; exact k2 hg k j h1 h2)
    · rw [if_neg hg]
      exact And.intro (fun h => k3 hg) (fun h => absurd ev_eq00 h)
  by_cases hg : (m y 1).toInt = -1
  · refine ev_S10z A hx (by rw [ey, hg]; decide) ?_
    exact key _ (ey 1) (fun _ k j h1 h2 => ev_up_cell _ h1 _ _ _) (fun h => absurd hg h)
  · refine ev_S10 (f := 0) A hx hy hxy hc he (by decide) (by rw [ey, e0]; omega) (by rw [ey]; exact hly2) (by rw [ev_up_same]; decide) (by rw [ev_up_same, ey, e0]; omega) (fun k h1 h2 => by rw [er]; rw [ey] at h2; exact hch k h2) (fun m' q1 q2 q3 q4 => ?_)
    refine key m' (by rw [q4 _ _ hxy d1]; exact ey 1) (fun h => absurd h hg) (fun _ => hQ m' ?_ ?_ ?_)
    · rw [q1, ev_up_same, ey, e0]; omega
    · intro k hk
      have h1 := q3 k (by rw [ey, e0]; omega)
      rw [ev_up_same, er, e0] at h1
      simpa using h1
    · intro k j h1 h2
      rw [q4 k j h1 h2, ev_up_cell _ h1]
end EvLetters
end
section
/-! what the numbers mean: rows of letters, rules, forms -/
section AbRules
abbrev ab_Ls : Type := List Int32
def ab_az (l : ab_Ls) : Prop := ∀ v ∈ l, 97 ≤ v.toInt ∧ v.toInt ≤ 122
def ab_row (m : ev_Mem) (c o : Nat) (l : ab_Ls) : Prop := ∀ k, k < l.length → m c (o + k) = l.getD k 0
def ab_L (m : ev_Mem) (x : Nat) (l : ab_Ls) : Prop := (m x 1).toInt = (l.length : Int) ∧ ab_row m (x + 1) 0 l
def ab_F (m : ev_Mem) (x : Nat) (o : Option ab_Ls) : Prop := match o with
  | none => (m x 1).toInt = -1
  | some l => ab_L m x l
theorem ab_ch {l : ab_Ls} (h : ab_az l) {v : Int32} (hv : v ∈ l) : ev_ch v := by
  have h1 := h v hv
  have key : ∀ n : Nat, n < 123 → 97 ≤ n → narrow .char (.int (Int32.ofNat n)) = .int (Int32.ofNat n) := by decide
  have h2 := key v.toInt.toNat (by omega) (by omega)
  rw [ev_ofNat_toNat (by omega)] at h2
  exact h2
theorem ab_getD_mem {l : ab_Ls} {k : Nat} (h : k < l.length) : l.getD k 0 ∈ l := by
  rw [List.getD_eq_getElem?_getD, List.getElem?_eq_getElem h]
  exact List.getElem_mem h
theorem ab_row_ch {m : ev_Mem} {c o : Nat} {l : ab_Ls} (h : ab_row m c o l) (hz : ab_az l) {k : Nat} (hk : k < l.length) : ev_ch (m c (o + k)) := by
  rw [h k hk]
  exact ab_ch hz (ab_getD_mem hk)
/-- the rule whose left stands at f: the longest, of these the first -/
def ab_pk (l : ab_Ls) (f : Nat) : List (ab_Ls × ab_Ls) → Nat → Option Nat × Nat → Option Nat × Nat
  | [], _, s => s
  | q :: rs, r, s => ab_pk l f rs (r + 1) (if s.2 < q.1.length ∧ q.1.isPrefixOf (l.drop f) = true then (some r, q.1.length) else s)
def ab_pick (rs : List (ab_Ls × ab_Ls)) (l : ab_Ls) (f : Nat) : Option Nat := (ab_pk l f rs 0 (none, 0)).1
def ab_oi (o : Option Nat) : Int32 := match o with
  | none => -1
  | some r => Int32.ofNat r
/-- the form -/
def ab_br (rs : List (ab_Ls × ab_Ls)) (l : ab_Ls) : Nat → Nat → ab_Ls
  | 0, _ => []
  | n + 1, f => if f < l.length then (match ab_pick rs l f with
    | none => l.getD f 0 :: ab_br rs l n (f + 1)
    | some r => (rs.getD r ([], [])).2 ++ ab_br rs l n (f + (rs.getD r ([], [])).1.length)) else []
def ab_form (rs : List (ab_Ls × ab_Ls)) (l : ab_Ls) : ab_Ls := ab_br rs l l.length 0
theorem ab_pk_app (l : ab_Ls) (f : Nat) : ∀ (rs : List (ab_Ls × ab_Ls)) (r : Nat) (s : Option Nat × Nat) (q : ab_Ls × ab_Ls), ab_pk l f (rs ++ [q]) r s = (fun z => if z.2 < q.1.length ∧ q.1.isPrefixOf (l.drop f) = true then (some (r + rs.length), q.1.length) else z) (ab_pk l f rs r s)
  | [], r, s, q => rfl
  | p :: rs, r, s, q => by
    have h1 := ab_pk_app l f rs (r + 1) (if s.2 < p.1.length ∧ p.1.isPrefixOf (l.drop f) = true then (some r, p.1.length) else s) q
    have e1 : r + 1 + rs.length = r + (p :: rs).length := by rw [List.length_cons]; omega
    rw [e1] at h1
    exact h1
/-- standing, of rows -/
theorem ab_std {m : ev_Mem} {x y : Nat} {l l2 : ab_Ls} (hx : ab_L m x l) (hy : ab_L m y l2) (f : Nat) : ev_std m x y (f : Int) ↔ (l.length = 0 ∧ f ≤ l2.length) ∨ (0 < l.length ∧ l.isPrefixOf (l2.drop f) = true) := by
  unfold ev_std
  rw [hx.1, hy.1]
  have e1 : ((f : Int)).toNat = f := Int.toNat_natCast f
  rw [e1]
  have key : ∀ k, k < l.length → m (x + 1) k = l.getD k 0 := fun k hk => by have := hx.2 k hk; rwa [Nat.zero_add] at this
  have key2 : ∀ k, k < l2.length → m (y + 1) k = l2.getD k 0 := fun k hk => by have := hy.2 k hk; rwa [Nat.zero_add] at this
  rw [List.isPrefixOf_iff_prefix, List.prefix_iff_getElem?]
  constructor
  · rintro ⟨h1, h2⟩
    rcases Nat.eq_zero_or_pos l.length with hz | hz
    · exact Or.inl ⟨hz, by omega⟩
    · refine Or.inr ⟨hz, fun i hi => ?_⟩
      have h3 := h2 i (by omega)
      rw [key i hi, key2 (f + i) (by omega)] at h3
      rw [List.getElem?_drop, List.getElem?_eq_getElem (by omega)]
      rw [List.getD_eq_getElem?_getD, List.getD_eq_getElem?_getD, List.getElem?_eq_getElem hi, List.getElem?_eq_getElem (by omega : f + i < l2.length)] at h3
      exact congrArg some h3.symm
  · rintro (⟨h1, h2⟩ | ⟨h1, h2⟩)
    · exact ⟨by omega, fun k hk => by omega⟩
    · have hlen : f + l.length ≤ l2.length := by
        have h3 := h2 (l.length - 1) (by omega)
        rw [List.getElem?_drop] at h3
        have h4 := (List.getElem?_eq_some_iff.mp h3).1
        omega
      refine ⟨by omega, fun k hk => ?_⟩
      have hk' : k < l.length := by omega
      have h3 := h2 k hk'
      rw [List.getElem?_drop] at h3
      rw [key k hk', key2 (f + k) (by omega), List.getD_eq_getElem?_getD, List.getD_eq_getElem?_getD, h3, List.getElem?_eq_getElem hk']
end AbRules
end
section
/-! the class's rules -/
section EvRules
variable {w : ev_W} {Q : ev_QT} {m : ev_Mem} {t : ev_H}
def ev_isLb (x c : Nat) : Bool := match ev_shs[x]?, ev_shs[x + 1]? with
  | some (.inr (.inr (0, [some y, none]))), some (.inl (1, c')) => Nat.beq y (x + 1) && Nat.beq c' c
  | _, _ => false
theorem ev_isLb_of {x c : Nat} (h : ev_isLb x c = true) : ev_isL x c := by
  unfold ev_isLb at h
  split at h
  · rename_i y c' h1 h2
    simp only [Bool.and_eq_true] at h
    rw [Nat.eq_of_beq_eq_true h.1] at h1
    rw [Nat.eq_of_beq_eq_true h.2] at h2
    exact ⟨h1, h2⟩
  · cases h
theorem ev_isL_all (f : Nat → Nat) (c n : Nat) (h : (List.range n).all (fun r => ev_isLb (f r) c) = true) {r : Nat} (hr : r < n) : ev_isL (f r) c := ev_isLb_of (List.all_eq_true.mp h r (List.mem_range.mpr hr))
theorem ev_isLl {r : Nat} (h : r < 8) : ev_isL (8 + 4 * r) 3 := ev_isL_all (fun r => 8 + 4 * r) 3 8 (by decide +kernel) h
theorem ev_isLr {r : Nat} (h : r < 8) : ev_isL (10 + 4 * r) 2 := ev_isL_all (fun r => 10 + 4 * r) 2 8 (by decide +kernel) h
theorem ev_isLs {r : Nat} (h : r < 40) : ev_isL (43 + 4 * r) 6 := ev_isL_all (fun r => 43 + 4 * r) 6 40 (by decide +kernel) h
theorem ev_isLf {r : Nat} (h : r < 40) : ev_isL (45 + 4 * r) 12 := ev_isL_all (fun r => 45 + 4 * r) 12 40 (by decide +kernel) h
theorem ev_isLb24 {r : Nat} (h : r < 24) : ev_isL (221 + 2 * r) 12 := ev_isL_all (fun r => 221 + 2 * r) 12 24 (by decide +kernel) h
theorem ev_isLd : ev_isL 1 8 := ev_isLb_of (by decide +kernel)
theorem ev_isLe : ev_isL 3 16 := ev_isLb_of (by decide +kernel)
def ab_RC (m : ev_Mem) (rs : List (ab_Ls × ab_Ls)) : Prop := (m 5 2).toInt = (rs.length : Int) ∧ rs.length ≤ 8 ∧ ∀ r, r < rs.length → ab_L m (8 + 4 * r) (rs.getD r ([], [])).1 ∧ ab_L m (10 + 4 * r) (rs.getD r ([], [])).2
/-- rules as they may be -/
def ab_Rok (rs : List (ab_Ls × ab_Ls)) : Prop := ∀ q ∈ rs, 1 ≤ q.1.length ∧ q.1.length ≤ 3 ∧ q.2.length ≤ 2 ∧ ab_az q.1 ∧ ab_az q.2
theorem ab_Rok_at {rs : List (ab_Ls × ab_Ls)} (h : ab_Rok rs) {r : Nat} (hr : r < rs.length) : 1 ≤ (rs.getD r ([], [])).1.length ∧ (rs.getD r ([], [])).1.length ≤ 3 ∧ (rs.getD r ([], [])).2.length ≤ 2 ∧ ab_az (rs.getD r ([], [])).1 ∧ ab_az (rs.getD r ([], [])).2 := by
  rw [List.getD_eq_getElem?_getD, List.getElem?_eq_getElem hr]
  exact h _ (List.getElem_mem hr)
theorem ab_take_succ {α : Type} {l : List α} {d : α} {k : Nat} (h : k < l.length) : l.take (k + 1) = l.take k ++ [l.getD k d] := by
  rw [List.take_succ, List.getElem?_eq_getElem h, List.getD_eq_getElem?_getD, List.getElem?_eq_getElem h]
  rfl
theorem ab_pk_len (l : ab_Ls) (f : Nat) : ∀ (rs : List (ab_Ls × ab_Ls)) (r : Nat) (s : Option Nat × Nat), (∀ q ∈ rs, q.1.length ≤ 3) → s.2 ≤ 3 → (ab_pk l f rs r s).2 ≤ 3
  | [], _, s, _, hs => hs
  | q :: rs, r, s, hq, hs => ab_pk_len l f rs (r + 1) _ (fun p hp => hq p (List.mem_cons_of_mem _ hp)) (by split; exact hq q List.mem_cons_self; exact hs)
/-- ruleFor -/
theorem ev_S16 {y e : Nat} {f : Int32} {rs : List (ab_Ls × ab_Ls)} {l : ab_Ls} (A : ev_all w) (hR : ab_RC m rs) (hok : ab_Rok rs) (hy : ev_isL y e) (he : e < 10000) (hl : ab_L m y l) (hle : l.length ≤ e) (hf : 0 ≤ f.toInt) (hf2 : f.toInt < 10000)
    (hQ : Q (.inl (some (.int (ab_oi (ab_pick rs l f.toInt.toNat))))) m t) : ev_K w 16 [.ref 5, .ref y, .int f] m t Q := by
  have hp : ev_prog[16]? = some ev_m16 := rfl
  obtain ⟨hR1, hR2, hR3⟩ := hR
  have loop : ∀ (n k : Nat) (s : Option Nat × Nat), k + n = rs.length → s = ab_pk l f.toInt.toNat (rs.take k) 0 (none, 0) → ev_J w ev_m16 (ev_nd 16) Q 8 [some (.ref 5), some (.ref y), some (.int f), some (.int (ab_oi s.1)), some (.int (Int32.ofNat s.2)), some (.int (Int32.ofNat k))] [] m t := by
    intro n
    induction n with
    | zero =>
      intro k s hk hs
      have ek : (Int32.ofNat k).toInt = (k : Int) := ev_ofNat_i (by omega)
      refine ev_gK A hp [] 10 ?_
      refine And.intro (fun h => ?_) (fun h => ?_)
      · rw [List.take_of_length_le (by omega)] at hs
        have e1 : ab_pick rs l f.toInt.toNat = s.1 := by rw [hs]; rfl
        rw [e1] at hQ
        exact hQ
      · have h2 : (Int32.ofNat k).toInt < (m 5 2).toInt := h
        omega
    | succ n ih =>
      intro k s hk hs
      have ek : (Int32.ofNat k).toInt = (k : Int) := ev_ofNat_i (by omega)
      have nk : (Int32.ofNat k).toNatClampNeg = k := by rw [ev_nat, ek]; omega
      have hin : ev_in (Int32.ofNat k) 8 := ⟨by omega, by omega⟩
      obtain ⟨hL, -⟩ := hR3 k (by omega)
      obtain ⟨o1, o2, -, o4, -⟩ := ab_Rok_at hok (r := k) (by omega)
      have hs3 : s.2 ≤ 3 := by
        rw [hs]
        exact ab_pk_len _ _ _ _ _ (fun q hq => (hok q (List.mem_of_mem_take hq)).2.1) (by decide)
      have es : (Int32.ofNat s.2).toInt = (s.2 : Int) := ev_ofNat_i (by omega)
      have hx : ev_isL (8 + 4 * k) 3 := ev_isLl (by omega)
      have hnext : ∀ s' : Option Nat × Nat, s' = (if s.2 < (rs.getD k ([], [])).1.length ∧ (rs.getD k ([], [])).1.isPrefixOf (l.drop f.toInt.toNat) = true then (some k, (rs.getD k ([], [])).1.length) else s) → s' = ab_pk l f.toInt.toNat (rs.take (k + 1)) 0 (none, 0) := by
        intro s' hs'
        rw [ab_take_succ (d := ([], [])) (by omega), ab_pk_app, ← hs, hs', List.length_take]
        rw [Nat.min_eq_left (by omega), Nat.zero_add]
      refine ev_gK A hp [8] 40 ?_
      refine And.intro (fun h => ?_) (fun h => ?_)
      · have h2 : (m 5 2).toInt ≤ (Int32.ofNat k).toInt := h
        omega
      refine And.intro hin ?_
      show ev_K w 5 [.ref (8 + 4 * (Int32.ofNat k).toNatClampNeg)] m t _
      rw [nk]
      refine ev_S5 A hx ?_
      refine And.intro (fun h => ?_) (fun h => ?_)
      · have h2 : (m (8 + 4 * k) 1).toInt ≤ (Int32.ofNat s.2).toInt := h
        show ev_J w ev_m16 (ev_nd 16) Q 8 [some (.ref 5), some (.ref y), some (.int f), some (.int (ab_oi s.1)), some (.int (Int32.ofNat s.2)), some (.int (Int32.ofNat k + 1))] [] m t
        rw [ev_succ (by omega)]
        have hL1 := hL.1
        exact ih (k + 1) s (by omega) (hnext s (by rw [if_neg (by omega)]))
      · have h2 : (Int32.ofNat s.2).toInt < (m (8 + 4 * k) 1).toInt := h
        have hL1 := hL.1
        have hl1 := hl.1
        refine And.intro hin ?_
        show ev_K w 8 [.ref (8 + 4 * (Int32.ofNat k).toNatClampNeg), .ref y, .int f] m t _
        rw [nk]
        have hst := ab_std hL hl f.toInt.toNat
        have ef : ((f.toInt.toNat : Nat) : Int) = f.toInt := by omega
        rw [ef] at hst
        refine ev_S8 A hx hy (by decide) he hf hf2 (by omega) (by omega) (by omega) (fun q => ?_) (fun q => ?_)
        · refine And.intro (fun h => (ev_ne10 h).elim) (fun h => ?_)
          refine And.intro hin ?_
          show ev_K w 5 [.ref (8 + 4 * (Int32.ofNat k).toNatClampNeg)] m t _
          rw [nk]
          refine ev_S5 A hx ?_
          show ev_J w ev_m16 (ev_nd 16) Q 8 [some (.ref 5), some (.ref y), some (.int f), some (.int (Int32.ofNat k)), some (.int (m (8 + 4 * k) 1)), some (.int (Int32.ofNat k + 1))] [] m t
          have e2 : m (8 + 4 * k) 1 = Int32.ofNat (rs.getD k ([], [])).1.length := by
            apply ev_eq_of
            rw [hL1, ev_ofNat_i (by omega)]
          rw [ev_succ (by omega), e2]
          refine ih (k + 1) (some k, (rs.getD k ([], [])).1.length) (by omega) (hnext _ ?_)
          rw [if_pos]
          refine ⟨by omega, ?_⟩
          rcases hst.mp q with z | z
          · omega
          · exact z.2
        · refine And.intro (fun h => ?_) (fun h => absurd ev_eq00 h)
          show ev_J w ev_m16 (ev_nd 16) Q 8 [some (.ref 5), some (.ref y), some (.int f), some (.int (ab_oi s.1)), some (.int (Int32.ofNat s.2)), some (.int (Int32.ofNat k + 1))] [] m t
          rw [ev_succ (by omega)]
          refine ih (k + 1) s (by omega) (hnext s ?_)
          rw [if_neg]
          rintro ⟨z1, z2⟩
          exact q (hst.mpr (Or.inr ⟨by omega, z2⟩))
  refine ⟨Or.inr ⟨5, _, rfl, rfl⟩, ev_m16, rfl, ev_gK A hp [8] 10 ?_⟩
  exact loop rs.length 0 (none, 0) (by omega) rfl
end EvRules
end
section
/-! the class's rules: the form -/
section EvBring
variable {w : ev_W} {Q : ev_QT} {m : ev_Mem} {t : ev_H}
theorem ab_getD_app1 {l r : ab_Ls} {k : Nat} (h : k < l.length) : (l ++ r).getD k 0 = l.getD k 0 := by
  rw [List.getD_eq_getElem?_getD, List.getD_eq_getElem?_getD, List.getElem?_append_left h]
theorem ab_getD_app2 {l r : ab_Ls} (i : Nat) : (l ++ r).getD (l.length + i) 0 = r.getD i 0 := by
  rw [List.getD_eq_getElem?_getD, List.getD_eq_getElem?_getD, List.getElem?_append_right (by omega), Nat.add_sub_cancel_left]
theorem ab_L_app {m m' : ev_Mem} {z : Nat} {acc r : ab_Ls} (h : ab_L m z acc) (h1 : (m' z 1).toInt = (m z 1).toInt + (r.length : Int)) (h2 : ∀ k : Nat, (k : Int) < (m z 1).toInt → m' (z + 1) k = m (z + 1) k) (h3 : ∀ i : Nat, i < r.length → m' (z + 1) ((m z 1).toInt.toNat + i) = r.getD i 0) : ab_L m' z (acc ++ r) := by
  have hl := h.1
  refine ⟨by rw [h1, List.length_append]; omega, fun k hk => ?_⟩
  rw [List.length_append] at hk
  rw [Nat.zero_add]
  by_cases hka : k < acc.length
  · rw [ab_getD_app1 hka, h2 k (by omega)]
    have h4 := h.2 k hka
    rwa [Nat.zero_add] at h4
  · have e1 : k = acc.length + (k - acc.length) := by omega
    have e2 : (m z 1).toInt.toNat = acc.length := by omega
    have h4 := h3 (k - acc.length) (by omega)
    rw [e2, ← e1] at h4
    rw [h4, e1, ab_getD_app2]
    congr 1
    omega
def ab_fr (z : Nat) (m m' : ev_Mem) : Prop := ∀ k j, k ≠ z → k ≠ z + 1 → m' k j = m k j
theorem ab_L_fr {m m' : ev_Mem} {z x : Nat} {l : ab_Ls} (hf : ab_fr z m m') (h1 : x ≠ z) (h2 : x ≠ z + 1) (h3 : x + 1 ≠ z) (h : ab_L m x l) : ab_L m' x l := by
  refine ⟨by rw [hf x 1 h1 h2]; exact h.1, fun k hk => ?_⟩
  rw [hf (x + 1) _ h3 (by omega)]
  exact h.2 k hk
theorem ab_RC_fr {m m' : ev_Mem} {z : Nat} {rs : List (ab_Ls × ab_Ls)} (hf : ab_fr z m m') (hz : z = 3 ∨ 40 ≤ z) (h : ab_RC m rs) : ab_RC m' rs := by
  obtain ⟨h1, h2, h3⟩ := h
  refine ⟨by rw [hf 5 2 (by omega) (by omega)]; exact h1, h2, fun r hr => ?_⟩
  obtain ⟨a, b⟩ := h3 r hr
  exact ⟨ab_L_fr hf (by omega) (by omega) (by omega) a, ab_L_fr hf (by omega) (by omega) (by omega) b⟩
theorem ab_pk_lt (l : ab_Ls) (f : Nat) : ∀ (rs : List (ab_Ls × ab_Ls)) (r : Nat) (s : Option Nat × Nat) (n : Nat), r + rs.length ≤ n → (∀ k, s.1 = some k → k < n) → ∀ k, (ab_pk l f rs r s).1 = some k → k < n
  | [], _, s, n, _, hs => hs
  | q :: rs, r, s, n, hn, hs => by
    rw [List.length_cons] at hn
    refine ab_pk_lt l f rs (r + 1) _ n (by omega) (fun k hk => ?_)
    split at hk
    · cases hk; omega
    · exact hs k hk
theorem ab_pick_lt {rs : List (ab_Ls × ab_Ls)} {l : ab_Ls} {f r : Nat} (h : ab_pick rs l f = some r) : r < rs.length :=
  ab_pk_lt l f rs 0 (none, 0) rs.length (by omega) (fun k hk => by cases hk) r h
theorem ab_br_end {rs : List (ab_Ls × ab_Ls)} {l : ab_Ls} {n f : Nat} (h : n = 0 ∨ l.length ≤ f) : ab_br rs l n f = [] := by
  cases n with
  | zero => rfl
  | succ n => rw [ab_br, if_neg (by omega)]
/-- bring -/
theorem ev_S15 {y z e c : Nat} {rs : List (ab_Ls × ab_Ls)} {l : ab_Ls} (A : ev_all w) (hR : ab_RC m rs) (hok : ab_Rok rs) (hy : ev_isL y e) (hz : ev_isL z c) (hyz : y ≠ z) (hz2 : z = 3 ∨ 40 ≤ z) (he : e < 5000) (hc : c < 5000) (hl : ab_L m y l) (haz : ab_az l) (hle : l.length ≤ e) (hlc : 2 * l.length ≤ c)
    (hQ : ∀ m', ab_F m' z (if l = [] then none else some (ab_form rs l)) → ab_fr z m m' → Q (.inl none) m' t) : ev_K w 15 [.ref 5, .ref y, .ref z] m t Q := by
  have hp : ev_prog[15]? = some ev_m15 := rfl
  have d1 := ev_isL_ne hz hy
  have d2 := ev_isL_ne hy hz
  have hyk : ∀ mk, ab_fr z m mk → ab_L mk y l := fun mk hf => ab_L_fr hf hyz d1 (by omega) hl
  have fin : ∀ (mk : ev_Mem) (o3 o4 o5 : Option Value), ab_fr z m mk → ab_L mk z (ab_form rs l) → ev_J w ev_m15 (ev_nd 15) Q 97 [some (.ref 5), some (.ref y), some (.ref z), o3, o4, o5] [] mk t := by
    intro mk o3 o4 o5 hf hL
    have hy1 := (hyk mk hf).1
    refine ev_gK A hp [] 10 ?_
    refine ev_S5 A hy ?_
    refine And.intro (fun h => ?_) (fun h => ?_)
    · have h2 : ¬ (mk y 1).toInt = 0 := h
      refine hQ mk ?_ hf
      rw [if_neg (fun q => h2 (by rw [hy1, q]; rfl))]
      exact hL
    · have h2 : (mk y 1).toInt = 0 := h
      refine ev_S11 A hz ?_
      refine hQ _ ?_ (fun k j h1 h2 => by rw [ev_up_cell _ h1]; exact hf k j h1 h2)
      have hl0 : l = [] := by
        cases l with
        | nil => rfl
        | cons a l => rw [hy1, List.length_cons] at h2; omega
      rw [if_pos hl0]
      show (ev_up mk z 1 (-1) z 1).toInt = -1
      rw [ev_up_same]; decide
  have loop : ∀ (n k f : Nat) (mk : ev_Mem) (acc : ab_Ls) (o5 : Option Value), k + n = l.length → k ≤ f → f ≤ 3 * k → ab_fr z m mk → ab_L mk z acc → acc.length ≤ 2 * k → acc ++ ab_br rs l n f = ab_form rs l →
      ev_J w ev_m15 (ev_nd 15) Q 10 [some (.ref 5), some (.ref y), some (.ref z), some (.int (Int32.ofNat f)), some (.int (Int32.ofNat k)), o5] [] mk t := by
    intro n
    induction n with
    | zero =>
      intro k f mk acc o5 hk hkf hf3 hf hL hac hacc
      have ek : (Int32.ofNat k).toInt = (k : Int) := ev_ofNat_i (by omega)
      have hy1 := (hyk mk hf).1
      refine ev_gK A hp [97] 10 ?_
      refine ev_S5 A hy ?_
      refine And.intro (fun h => ?_) (fun h => ?_)
      · rw [ab_br_end (Or.inl rfl), List.append_nil] at hacc
        rw [hacc] at hL
        exact fin mk _ _ _ hf hL
      · have h2 : (Int32.ofNat k).toInt < (mk y 1).toInt := h
        omega
    | succ n ih =>
      intro k f mk acc o5 hk hkf hf3 hf hL hac hacc
      have ek : (Int32.ofNat k).toInt = (k : Int) := ev_ofNat_i (by omega)
      have ef : (Int32.ofNat f).toInt = (f : Int) := ev_ofNat_i (by omega)
      have nf : (Int32.ofNat f).toNatClampNeg = f := by rw [ev_nat, ef]; omega
      have hy0 := hyk mk hf
      have hy1 := hy0.1
      have hL1 := hL.1
      refine ev_gK A hp [97, 27] 20 ?_
      refine ev_S5 A hy ?_
      refine And.intro (fun h => ?_) (fun h => ?_)
      · have h2 : (mk y 1).toInt ≤ (Int32.ofNat k).toInt := h
        omega
      refine ev_S5 A hy ?_
      refine And.intro (fun h => ?_) (fun h => ?_)
      · have h2 : (mk y 1).toInt ≤ (Int32.ofNat f).toInt := h
        rw [ab_br_end (Or.inr (by omega)), List.append_nil] at hacc
        rw [hacc] at hL
        exact fin mk _ _ _ hf hL
      · have h2 : (Int32.ofNat f).toInt < (mk y 1).toInt := h
        have hfl : f < l.length := by omega
        rw [ab_br, if_pos hfl] at hacc
        show ev_J w ev_m15 (ev_nd 15) Q 27 [some (.ref 5), some (.ref y), some (.ref z), some (.int (Int32.ofNat f)), some (.int (Int32.ofNat k)), o5] [] mk t
        refine ev_gK A hp [10, 35] 40 ?_
        show ev_K w 16 [.ref 5, .ref y, .int (Int32.ofNat f)] mk t _
        refine ev_S16 A (ab_RC_fr hf hz2 hR) hok hy (by omega) hy0 hle (by omega) (by omega) ?_
        rw [ef, Int.toNat_natCast]
        show ev_J w ev_m15 (ev_nd 15) Q 35 [some (.ref 5), some (.ref y), some (.ref z), some (.int (Int32.ofNat f)), some (.int (Int32.ofNat k)), some (.int (ab_oi (ab_pick rs l f)))] [] mk t
        cases hpk : ab_pick rs l f with
        | none =>
          rw [hpk] at hacc
          dsimp only at hacc
          have em : ((-1 : Int32).toInt) = -1 := by decide
          refine ev_gK A hp [10] 40 ?_
          refine And.intro (fun h => absurd rfl (h : ¬ (-1 : Int32).toInt = (-1 : Int32).toInt)) (fun h => ?_)
          have hv : mk (y + 1) f = l.getD f 0 := by have h5 := hy0.2 f hfl; rwa [Nat.zero_add] at h5
          have hch : ev_ch (l.getD f 0) := ab_ch haz (ab_getD_mem hfl)
          show ev_K w 6 [.ref y, .int (Int32.ofNat f)] mk t _
          refine ev_S6 A hy ⟨by omega, by omega⟩ (by rw [nf, hv]; exact hch) ?_
          rw [nf, hv]
          show ev_K w 9 [.ref z, .int (l.getD f 0)] mk t _
          refine ev_S9 A hz (by omega) ?_
          show ev_J w ev_m15 (ev_nd 15) Q 10 [some (.ref 5), some (.ref y), some (.ref z), some (.int (Int32.ofNat f + 1)), some (.int (Int32.ofNat k + 1)), some (.int (-1))] [] (ev_addL mk z c (l.getD f 0)) t
          rw [ev_succ (by omega), ev_succ (by omega), ev_addL, if_pos (by omega), ev_ch_nar hch]
          have e1 : (1 : Int32).toInt = 1 := by decide
          have e2 : (mk z 1 + 1).toInt = (mk z 1).toInt + 1 := by rw [ev_add_i (by omega) (by omega), e1]
          refine ih (k + 1) (f + 1) _ (acc ++ [l.getD f 0]) _ (by omega) (by omega) (by omega) ?_ ?_ ?_ ?_
          · intro k' j q1 q2
            rw [ev_up_cell _ q1, ev_up_cell _ q2]
            exact hf k' j q1 q2
          · refine ab_L_app hL ?_ ?_ ?_
            · rw [ev_up_same, e2]; rfl
            · intro j hj
              rw [ev_up_cell _ (by omega), ev_up_idx _ _ (by rw [ev_nat]; omega)]
            · intro j hj
              have hj0 : j = 0 := by rw [List.length_singleton] at hj; omega
              subst hj0
              rw [ev_up_cell _ (by omega)]
              exact ev_up_same _ _ _ _
          · rw [List.length_append, List.length_singleton]; omega
          · rw [List.append_assoc]; exact hacc
        | some r =>
          rw [hpk] at hacc
          dsimp only at hacc
          have hr := ab_pick_lt hpk
          have hR8 := hR.2.1
          have er : (Int32.ofNat r).toInt = (r : Int) := ev_ofNat_i (by omega)
          have nr : (Int32.ofNat r).toNatClampNeg = r := by rw [ev_nat, er]; omega
          have hin : ev_in (Int32.ofNat r) 8 := ⟨by omega, by omega⟩
          obtain ⟨rl, rr⟩ := (ab_RC_fr hf hz2 hR).2.2 r hr
          obtain ⟨o1, o2, o3, o4, o5'⟩ := ab_Rok_at hok hr
          have hxr : ev_isL (10 + 4 * r) 2 := ev_isLr (by omega)
          have hxl : ev_isL (8 + 4 * r) 3 := ev_isLl (by omega)
          refine ev_gK A hp [10, 78] 40 ?_
          refine And.intro (fun h => ?_) (fun h => ?_)
          · refine And.intro hin ?_
            refine And.intro hin ?_
            show ev_K w 5 [.ref (10 + 4 * (Int32.ofNat r).toNatClampNeg)] mk t _
            rw [nr]
            refine ev_S5 A hxr ?_
            show ev_K w 10 [.ref z, .ref (10 + 4 * (Int32.ofNat r).toNatClampNeg), .int 0, .int (mk (10 + 4 * r) 1)] mk t _
            rw [nr]
            have rr1 := rr.1
            have e0 : ((0 : Int32).toInt) = 0 := by decide
            refine ev_S10 A hz hxr (by omega) (by omega) (by omega) (by decide) (by rw [e0]; omega) (by omega) (by omega) (by rw [e0]; omega) (fun k' _ hk' => ?_) (fun m' q1 q2 q3 q4 => ?_)
            · have h6 := ab_row_ch rr.2 o5' (k := k') (by omega)
              rwa [Nat.zero_add] at h6
            show ev_J w ev_m15 (ev_nd 15) Q 78 [some (.ref 5), some (.ref y), some (.ref z), some (.int (Int32.ofNat f)), some (.int (Int32.ofNat k)), some (.int (Int32.ofNat r))] [] m' t
            have hf' : ab_fr z m m' := fun k' j z1 z2 => (q4 k' j z1 z2).trans (hf k' j z1 z2)
            obtain ⟨rl', -⟩ := (ab_RC_fr hf' hz2 hR).2.2 r hr
            refine ev_gK A hp [10] 40 ?_
            refine And.intro hin ?_
            show ev_K w 5 [.ref (8 + 4 * (Int32.ofNat r).toNatClampNeg)] m' t _
            rw [nr]
            refine ev_S5 A hxl ?_
            show ev_J w ev_m15 (ev_nd 15) Q 10 [some (.ref 5), some (.ref y), some (.ref z), some (.int (Int32.ofNat f + m' (8 + 4 * r) 1)), some (.int (Int32.ofNat k + 1)), some (.int (Int32.ofNat r))] [] m' t
            have rl1 := rl'.1
            have e2 : Int32.ofNat f + m' (8 + 4 * r) 1 = Int32.ofNat (f + (rs.getD r ([], [])).1.length) := by
              apply ev_eq_of
              rw [ev_add_i (by omega) (by omega), ef, rl1, ev_ofNat_i (by omega)]
              omega
            rw [ev_succ (by omega), e2]
            refine ih (k + 1) _ m' (acc ++ (rs.getD r ([], [])).2) _ (by omega) (by omega) (by omega) hf' ?_ (by rw [List.length_append]; omega) (by rw [List.append_assoc]; exact hacc)
            refine ab_L_app hL (by rw [q1, e0]; omega) q2 (fun i hi => ?_)
            have h7 := q3 i (by rw [e0]; omega)
            rw [e0] at h7
            rw [h7]
            have h8 := rr.2 i hi
            rw [Nat.zero_add] at h8
            simpa using h8
          · have h9 : (Int32.ofNat r).toInt = (-1 : Int32).toInt := h
            have em : ((-1 : Int32).toInt) = -1 := by decide
            omega
  refine ⟨Or.inr ⟨5, _, rfl, rfl⟩, ev_m15, rfl, ev_gK A hp [10] 20 ?_⟩
  show ev_K w 7 [.ref z, .int 0] m t _
  refine ev_S7 A hz ?_
  show ev_J w ev_m15 (ev_nd 15) Q 10 [some (.ref 5), some (.ref y), some (.ref z), some (.int 0), some (.int 0), none] [] (ev_up m z 1 0) t
  refine loop l.length 0 0 _ [] _ (by omega) (by omega) (by omega) (fun k j h1 h2 => ev_up_cell _ h1 _ _ _) ⟨by rw [ev_up_same]; decide, fun k hk => by cases hk⟩ (by simp) ?_
  rfl
end EvBring
end
section
/-! the class's words: what is asked of them -/
section EvWords
variable {w : ev_W} {Q : ev_QT} {m : ev_Mem} {t : ev_H}
def ab_bi (b : Bool) : Int32 := if b then 1 else 0
theorem ab_bi_eq {b : Bool} (h : ev_p0 .eq (ab_bi b)) : b = false := by
  cases b
  · rfl
  · exact (ev_ne10 h).elim
theorem ab_bi_neq {b : Bool} (h : ev_n0 .eq (ab_bi b)) : b = true := by
  cases b
  · exact absurd ev_eq00 h
  · rfl
theorem ab_bi_ne {b : Bool} (h : ev_p0 .ne (ab_bi b)) : b = true := by
  cases b
  · exact absurd ev_eq00 h
  · rfl
theorem ab_bi_nne {b : Bool} (h : ev_n0 .ne (ab_bi b)) : b = false := by
  cases b
  · rfl
  · exact (ev_ne10 h).elim
theorem ev_d10 {x : Nat} (h : x < 1000) : Int32.ofNat x / 10 = Int32.ofNat (x / 10) := by
  apply ev_eq_of
  have e1 := ev_ofNat_i (n := x) (by omega)
  have e2 : (10 : Int32).toInt = 10 := by decide
  rw [ev_div_i (by omega) (by omega), e1, e2, ev_ofNat_i (by omega)]
  omega
theorem ev_r10 {x : Nat} (h : x < 1000) : Int32.ofNat x - Int32.ofNat x / 10 * 10 = Int32.ofNat (x % 10) := by
  apply ev_eq_of
  have e1 := ev_ofNat_i (n := x) (by omega)
  have e2 : (10 : Int32).toInt = 10 := by decide
  rw [ev_rem_i (by omega) (by omega), e1, e2, ev_ofNat_i (by omega)]
  omega
theorem ev_on {k : Nat} (h : k < 2147483648) : (Int32.ofNat k).toNatClampNeg = k := by
  rw [ev_nat, ev_ofNat_i h]
  exact Int.toNat_natCast k
theorem ev_oin {k n : Nat} (h : k < n) (hn : n < 100000) : ev_in (Int32.ofNat k) n := by
  have e1 := ev_ofNat_i (n := k) (by omega)
  exact ⟨by omega, by omega⟩
/-- Words.count -/
theorem ev_S26 {k : Nat} (A : ev_all w) (hk : k < 4) (hQ : Q (.inl (some (.int (m 203 k)))) m t) : ev_K w 26 [.ref 40, .int (Int32.ofNat k)] m t Q := by
  have hp : ev_prog[26]? = some ev_m26 := rfl
  refine ⟨Or.inr ⟨40, _, rfl, rfl⟩, ev_m26, rfl, ev_gK A hp [] 20 ?_⟩
  refine And.intro (ev_oin hk (by decide)) ?_
  show Q (.inl (some (.int (m 203 (Int32.ofNat k).toNatClampNeg)))) m t
  rw [ev_on (by omega)]
  exact hQ
/-- Words.equalities -/
theorem ev_S31 (A : ev_all w) (hQ : Q (.inl (some (.int (m 40 7)))) m t) : ev_K w 31 [.ref 40] m t Q :=
  ⟨Or.inr ⟨40, [], rfl, rfl⟩, ev_m31, rfl, ev_gK A (k := 31) rfl [] 20 hQ⟩
/-- Words.formOf -/
theorem ev_S22 {x : Nat} (A : ev_all w) (hx : x < 40) (hQ : Q (.inl (some (.ref (45 + 4 * x)))) m t) : ev_K w 22 [.ref 40, .int (Int32.ofNat x)] m t Q := by
  have hp : ev_prog[22]? = some ev_m22 := rfl
  refine ⟨Or.inr ⟨40, _, rfl, rfl⟩, ev_m22, rfl, ev_gK A hp [] 20 ?_⟩
  refine And.intro (ev_oin hx (by decide)) ?_
  show Q (.inl (some (.ref (45 + 4 * (Int32.ofNat x).toNatClampNeg)))) m t
  rw [ev_on (by omega)]
  exact hQ
/-- Words.isGap -/
theorem ev_S21 {x : Nat} (A : ev_all w) (hx : x < 40) (hQ : Q (.inl (some (.int (ab_bi (decide ((m (45 + 4 * x) 1).toInt = -1)))))) m t) : ev_K w 21 [.ref 40, .int (Int32.ofNat x)] m t Q := by
  have hp : ev_prog[21]? = some ev_m21 := rfl
  refine ⟨Or.inr ⟨40, _, rfl, rfl⟩, ev_m21, rfl, ev_gK A hp [] 20 ?_⟩
  refine And.intro (ev_oin hx (by decide)) ?_
  show ev_K w 4 [.ref (45 + 4 * (Int32.ofNat x).toNatClampNeg)] m t _
  rw [ev_on (by omega)]
  refine ev_S4 A (ev_isLf hx) ?_
  by_cases h : (m (45 + 4 * x) 1).toInt = -1
  · rw [if_pos h]
    rw [decide_eq_true h] at hQ
    exact ⟨rfl, hQ⟩
  · rw [if_neg h]
    rw [decide_eq_false h] at hQ
    exact ⟨rfl, hQ⟩
/-- Words.isThere -/
def ab_th (m : ev_Mem) (x : Nat) : Bool := decide (((x % 10 : Nat) : Int) < (m 203 (x / 10)).toInt)
theorem ev_S24 {x : Nat} (A : ev_all w) (hx : x < 40) (hQ : Q (.inl (some (.int (ab_bi (ab_th m x))))) m t) : ev_K w 24 [.ref 40, .int (Int32.ofNat x)] m t Q := by
  have hp : ev_prog[24]? = some ev_m24 := rfl
  refine ⟨Or.inr ⟨40, _, rfl, rfl⟩, ev_m24, rfl, ev_gK A hp [] 5 ?_⟩
  refine And.intro (by decide) ?_
  show ev_J w ev_m24 (ev_nd 24) Q 8 [some (.ref 40), some (.int (Int32.ofNat x))] [.ref 203, .int (Int32.ofNat x - Int32.ofNat x / 10 * 10)] m t
  rw [ev_r10 (by omega)]
  refine ev_gK A hp [] 3 ?_
  refine And.intro (by decide) ?_
  show ev_J w ev_m24 (ev_nd 24) Q 12 [some (.ref 40), some (.int (Int32.ofNat x))] [.int (Int32.ofNat x / 10), .ref 203, .int (Int32.ofNat (x % 10))] m t
  rw [ev_d10 (by omega)]
  refine ev_gK A hp [] 20 ?_
  refine And.intro (ev_oin (by omega) (by decide)) ?_
  have e1 := ev_ofNat_i (n := x % 10) (by omega)
  have e2 : (Int32.ofNat (x / 10)).toNatClampNeg = x / 10 := ev_on (by omega)
  refine And.intro (fun h => ?_) (fun h => ?_)
  · have h2 : (m 203 (Int32.ofNat (x / 10)).toNatClampNeg).toInt ≤ (Int32.ofNat (x % 10)).toInt := h
    rw [e2] at h2
    rw [ab_th, decide_eq_false (by omega)] at hQ
    exact ⟨rfl, hQ⟩
  · have h2 : (Int32.ofNat (x % 10)).toInt < (m 203 (Int32.ofNat (x / 10)).toNatClampNeg).toInt := h
    rw [e2] at h2
    rw [ab_th, decide_eq_true (by omega)] at hQ
    exact ⟨rfl, hQ⟩
/-- Words.areAlike, Words.areEqual -/
def ab_eqm (m : ev_Mem) (c : Nat) (a b : Option Nat) : Bool := match a, b with
  | none, none => true
  | some x, some y => decide ((m c x).toInt = (m c y).toInt)
  | _, _ => false
theorem ab_oi_m1 {a : Option Nat} (h : ∀ x, a = some x → x < 100000) : (ab_oi a).toInt = -1 ↔ a = none := by
  cases a with
  | none => exact ⟨fun _ => rfl, fun _ => by decide⟩
  | some x =>
    have h1 := h x rfl
    have e1 : (ab_oi (some x)).toInt = (x : Int) := ev_ofNat_i (by omega)
    exact ⟨fun q => by omega, fun q => by cases q⟩
theorem ab_oi_inj {a b : Option Nat} (ha : ∀ x, a = some x → x < 100000) (hb : ∀ x, b = some x → x < 100000) (h : (ab_oi a).toInt = (ab_oi b).toInt) : a = b := by
  have e0 : (ab_oi none).toInt = -1 := by decide
  have es : ∀ x, x < 100000 → (ab_oi (some x)).toInt = (x : Int) := fun x hx => ev_ofNat_i (by omega)
  cases a with
  | none =>
    cases b with
    | none => rfl
    | some y => have h1 := es y (hb y rfl); omega
  | some x =>
    have h1 := es x (ha x rfl)
    cases b with
    | none => omega
    | some y =>
      have h2 := es y (hb y rfl)
      have h3 : x = y := by omega
      rw [h3]
theorem ev_S20 {a b : Option Nat} (A : ev_all w) (ha : ∀ x, a = some x → x < 40) (hb : ∀ x, b = some x → x < 40) (hQ : Q (.inl (some (.int (ab_bi (ab_eqm m 204 a b))))) m t) : ev_K w 20 [.ref 40, .int (ab_oi a), .int (ab_oi b)] m t Q := by
  have hp : ev_prog[20]? = some ev_m20 := rfl
  have ha' : ∀ x, a = some x → x < 100000 := fun x hx => by have := ha x hx; omega
  have hb' : ∀ x, b = some x → x < 100000 := fun x hx => by have := hb x hx; omega
  have em : (Int32.ofInt (-1)).toInt = -1 := by decide
  refine ⟨Or.inr ⟨40, _, rfl, rfl⟩, ev_m20, rfl, ev_gK A hp [10, 23] 20 ?_⟩
  have h10 : (a = none ∨ b = none) → ev_J w ev_m20 (ev_nd 20) Q 10 [some (.ref 40), some (.int (ab_oi a)), some (.int (ab_oi b))] [] m t := by
    intro hor
    refine ev_gK A hp [] 20 ?_
    refine And.intro (fun h => ?_) (fun h => ?_)
    · have h2 : ¬ (ab_oi a).toInt = (ab_oi b).toInt := h
      have h3 : ab_eqm m 204 a b = false := by
        cases a with
        | none => cases b with
          | none => exact absurd rfl h2
          | some y => rfl
        | some x => cases b with
          | none => rfl
          | some y => rcases hor with q | q <;> cases q
      rw [h3] at hQ
      exact ⟨rfl, hQ⟩
    · have h2 : (ab_oi a).toInt = (ab_oi b).toInt := h
      have h3 : a = b := ab_oi_inj ha' hb' h2
      have h4 : ab_eqm m 204 a b = true := by
        subst h3
        rcases hor with q | q <;> rw [q] <;> rfl
      rw [h4] at hQ
      exact ⟨rfl, hQ⟩
  refine And.intro (fun h => ?_) (fun h => ?_)
  · have h2 : (ab_oi a).toInt = (Int32.ofInt (-1)).toInt := h
    exact h10 (Or.inl ((ab_oi_m1 ha').mp (by omega)))
  · have h2 : ¬ (ab_oi a).toInt = (Int32.ofInt (-1)).toInt := h
    refine And.intro (fun h => ?_) (fun h => ?_)
    · have h3 : ¬ (ab_oi b).toInt = (Int32.ofInt (-1)).toInt := h
      cases a with
      | none => exact absurd rfl h2
      | some x => cases b with
        | none => exact absurd rfl h3
        | some y =>
          show ev_J w ev_m20 (ev_nd 20) Q 23 [some (.ref 40), some (.int (Int32.ofNat x)), some (.int (Int32.ofNat y))] [] m t
          have hx := ha x rfl
          have hy := hb y rfl
          refine ev_gK A hp [] 20 ?_
          refine And.intro (ev_oin hx (by decide)) ?_
          refine And.intro (ev_oin hy (by decide)) ?_
          have ex : (Int32.ofNat x).toNatClampNeg = x := ev_on (by omega)
          have ey : (Int32.ofNat y).toNatClampNeg = y := ev_on (by omega)
          refine And.intro (fun h => ?_) (fun h => ?_)
          · have h4 : ¬ (m 204 (Int32.ofNat x).toNatClampNeg).toInt = (m 204 (Int32.ofNat y).toNatClampNeg).toInt := h
            rw [ex, ey] at h4
            rw [ab_eqm, decide_eq_false h4] at hQ
            exact ⟨rfl, hQ⟩
          · have h4 : (m 204 (Int32.ofNat x).toNatClampNeg).toInt = (m 204 (Int32.ofNat y).toNatClampNeg).toInt := h
            rw [ex, ey] at h4
            rw [ab_eqm, decide_eq_true h4] at hQ
            exact ⟨rfl, hQ⟩
    · have h3 : (ab_oi b).toInt = (Int32.ofInt (-1)).toInt := h
      exact h10 (Or.inr ((ab_oi_m1 hb').mp (by omega)))
theorem ev_S25 {a b : Option Nat} (A : ev_all w) (ha : ∀ x, a = some x → x < 40) (hb : ∀ x, b = some x → x < 40) (hQ : Q (.inl (some (.int (ab_bi (ab_eqm m 205 a b))))) m t) : ev_K w 25 [.ref 40, .int (ab_oi a), .int (ab_oi b)] m t Q := by
  have hp : ev_prog[25]? = some ev_m25 := rfl
  have ha' : ∀ x, a = some x → x < 100000 := fun x hx => by have := ha x hx; omega
  have hb' : ∀ x, b = some x → x < 100000 := fun x hx => by have := hb x hx; omega
  have em : (Int32.ofInt (-1)).toInt = -1 := by decide
  refine ⟨Or.inr ⟨40, _, rfl, rfl⟩, ev_m25, rfl, ev_gK A hp [10, 23] 20 ?_⟩
  have h10 : (a = none ∨ b = none) → ev_J w ev_m25 (ev_nd 25) Q 10 [some (.ref 40), some (.int (ab_oi a)), some (.int (ab_oi b))] [] m t := by
    intro hor
    refine ev_gK A hp [] 20 ?_
    refine And.intro (fun h => ?_) (fun h => ?_)
    · have h2 : ¬ (ab_oi a).toInt = (ab_oi b).toInt := h
      have h3 : ab_eqm m 205 a b = false := by
        cases a with
        | none => cases b with
          | none => exact absurd rfl h2
          | some y => rfl
        | some x => cases b with
          | none => rfl
          | some y => rcases hor with q | q <;> cases q
      rw [h3] at hQ
      exact ⟨rfl, hQ⟩
    · have h2 : (ab_oi a).toInt = (ab_oi b).toInt := h
      have h3 : a = b := ab_oi_inj ha' hb' h2
      have h4 : ab_eqm m 205 a b = true := by
        subst h3
        rcases hor with q | q <;> rw [q] <;> rfl
      rw [h4] at hQ
      exact ⟨rfl, hQ⟩
  refine And.intro (fun h => ?_) (fun h => ?_)
  · have h2 : (ab_oi a).toInt = (Int32.ofInt (-1)).toInt := h
    exact h10 (Or.inl ((ab_oi_m1 ha').mp (by omega)))
  · have h2 : ¬ (ab_oi a).toInt = (Int32.ofInt (-1)).toInt := h
    refine And.intro (fun h => ?_) (fun h => ?_)
    · have h3 : ¬ (ab_oi b).toInt = (Int32.ofInt (-1)).toInt := h
      cases a with
      | none => exact absurd rfl h2
      | some x => cases b with
        | none => exact absurd rfl h3
        | some y =>
          show ev_J w ev_m25 (ev_nd 25) Q 23 [some (.ref 40), some (.int (Int32.ofNat x)), some (.int (Int32.ofNat y))] [] m t
          have hx := ha x rfl
          have hy := hb y rfl
          refine ev_gK A hp [] 20 ?_
          refine And.intro (ev_oin hx (by decide)) ?_
          refine And.intro (ev_oin hy (by decide)) ?_
          have ex : (Int32.ofNat x).toNatClampNeg = x := ev_on (by omega)
          have ey : (Int32.ofNat y).toNatClampNeg = y := ev_on (by omega)
          refine And.intro (fun h => ?_) (fun h => ?_)
          · have h4 : ¬ (m 205 (Int32.ofNat x).toNatClampNeg).toInt = (m 205 (Int32.ofNat y).toNatClampNeg).toInt := h
            rw [ex, ey] at h4
            rw [ab_eqm, decide_eq_false h4] at hQ
            exact ⟨rfl, hQ⟩
          · have h4 : (m 205 (Int32.ofNat x).toNatClampNeg).toInt = (m 205 (Int32.ofNat y).toNatClampNeg).toInt := h
            rw [ex, ey] at h4
            rw [ab_eqm, decide_eq_true h4] at hQ
            exact ⟨rfl, hQ⟩
    · have h3 : (ab_oi b).toInt = (Int32.ofInt (-1)).toInt := h
      exact h10 (Or.inr ((ab_oi_m1 hb').mp (by omega)))
end EvWords
end
section
/-! the class's words: their marks -/
section EvMarks
variable {w : ev_W} {Q : ev_QT} {m : ev_Mem} {t : ev_H}
theorem ab_L_ext {m : ev_Mem} {x y : Nat} {a b : ab_Ls} (ha : ab_L m x a) (hb : ab_L m y b) : ev_sm m x y ↔ a = b := by
  have key : ∀ k, k < a.length → m (x + 1) k = a.getD k 0 := fun k hk => by have h := ha.2 k hk; rwa [Nat.zero_add] at h
  have key2 : ∀ k, k < b.length → m (y + 1) k = b.getD k 0 := fun k hk => by have h := hb.2 k hk; rwa [Nat.zero_add] at h
  have h1 := ha.1
  have h2 := hb.1
  constructor
  · rintro ⟨q1, q2⟩
    have hl : a.length = b.length := by omega
    apply List.ext_getElem hl
    intro k k1 k2
    have h3 := q2 k (by omega)
    rw [key k k1, key2 k k2, List.getD_eq_getElem?_getD, List.getD_eq_getElem?_getD, List.getElem?_eq_getElem k1, List.getElem?_eq_getElem k2] at h3
    exact h3
  · rintro rfl
    exact ⟨by omega, fun k hk => by rw [key k (by omega), key2 k (by omega)]⟩
theorem ab_sm_iff {m : ev_Mem} {x y : Nat} {a b : Option ab_Ls} (ha : ab_F m x a) (hb : ab_F m y b) : ev_sm m x y ↔ a = b := by
  cases a with
  | none =>
    have h1 : (m x 1).toInt = -1 := ha
    cases b with
    | none =>
      have h2 : (m y 1).toInt = -1 := hb
      exact ⟨fun _ => rfl, fun _ => ⟨by omega, fun k hk => by omega⟩⟩
    | some b =>
      have h2 := (show ab_L m y b from hb).1
      exact ⟨fun q => by have := q.1; omega, fun q => by cases q⟩
  | some a =>
    have h1 := (show ab_L m x a from ha).1
    cases b with
    | none =>
      have h2 : (m y 1).toInt = -1 := hb
      exact ⟨fun q => by have := q.1; omega, fun q => by cases q⟩
    | some b =>
      rw [ab_L_ext ha hb]
      exact ⟨fun q => by rw [q], fun q => by cases q; rfl⟩
def ab_ol (o : Option ab_Ls) : Nat := match o with
  | none => 0
  | some l => l.length
theorem ab_F_len {m : ev_Mem} {x : Nat} {o : Option ab_Ls} (h : ab_F m x o) : -1 ≤ (m x 1).toInt ∧ (m x 1).toInt ≤ (ab_ol o : Int) := by
  cases o with
  | none =>
    have h1 : (m x 1).toInt = -1 := h
    exact ⟨by omega, by show _ ≤ ((0 : Nat) : Int); omega⟩
  | some l =>
    have h1 := (show ab_L m x l from h).1
    exact ⟨by omega, by show _ ≤ ((l.length : Nat) : Int); omega⟩
/-- the forms of the words that are there -/
def ab_FO (m : ev_Mem) (fo : Nat → Option ab_Ls) : Prop := ∀ x, x < 40 → ab_th m x = true → ab_F m (45 + 4 * x) (fo x) ∧ ab_ol (fo x) ≤ 12
def ab_fa (m : ev_Mem) (fo : Nat → Option ab_Ls) (o : Option ab_Ls) (x : Nat) : Bool := ab_th m x && decide (fo x = o)
theorem ab_range_drop {k : Nat} (h : k < 40) : (List.range 40).drop k = k :: (List.range 40).drop (k + 1) := by
  rw [List.drop_eq_getElem_cons (by rw [List.length_range]; exact h), List.getElem_range]
/-- Words.firstAlike -/
theorem ev_S23 {z c : Nat} {fo : Nat → Option ab_Ls} {o : Option ab_Ls} (A : ev_all w) (hfo : ab_FO m fo) (hz : ev_isL z c) (hc : c < 5000) (ho : ab_F m z o) (hol : ab_ol o ≤ c)
    (hQ : Q (.inl (some (.int (ab_oi ((List.range 40).find? (ab_fa m fo o)))))) m t) : ev_K w 23 [.ref 40, .ref z] m t Q := by
  have hp : ev_prog[23]? = some ev_m23 := rfl
  have e40 : ((Int8.ofInt 40).toInt32).toInt = 40 := by decide
  have lz := ab_F_len ho
  have loop : ∀ (n k : Nat), k + n = 40 → (List.range 40).find? (ab_fa m fo o) = ((List.range 40).drop k).find? (ab_fa m fo o) → ev_J w ev_m23 (ev_nd 23) Q 2 [some (.ref 40), some (.ref z), some (.int (Int32.ofNat k))] [] m t := by
    intro n
    induction n with
    | zero =>
      intro k hk hall
      have ek := ev_ofNat_i (n := k) (by omega)
      refine ev_gK A hp [] 10 ?_
      refine And.intro (fun h => ?_) (fun h => ?_)
      · have hk40 : k = 40 := by omega
        rw [hk40] at hall
        have e1 : ((List.range 40).drop 40).find? (ab_fa m fo o) = none := rfl
        rw [hall, e1] at hQ
        exact hQ
      · have h2 : (Int32.ofNat k).toInt < ((Int8.ofInt 40).toInt32).toInt := h
        omega
    | succ n ih =>
      intro k hk hall
      have ek := ev_ofNat_i (n := k) (by omega)
      have hk40 : k < 40 := by omega
      rw [ab_range_drop hk40, List.find?_cons] at hall
      refine ev_gK A hp [2] 20 ?_
      refine And.intro (fun h => ?_) (fun h => ?_)
      · have h2 : ((Int8.ofInt 40).toInt32).toInt ≤ (Int32.ofNat k).toInt := h
        omega
      refine ev_S24 A hk40 ?_
      have nextk : ab_fa m fo o k = false → ev_J w ev_m23 (ev_nd 23) Q 2 [some (.ref 40), some (.ref z), some (.int (Int32.ofNat k + 1))] [] m t := by
        intro hf
        rw [ev_succ (by omega)]
        rw [hf] at hall
        exact ih (k + 1) (by omega) hall
      refine And.intro (fun h => ?_) (fun h => ?_)
      · exact nextk (by rw [ab_fa, ab_bi_eq h]; rfl)
      · have hth := ab_bi_neq h
        obtain ⟨hF, hF2⟩ := hfo k hk40 hth
        have lk := ab_F_len hF
        refine And.intro (ev_oin hk40 (by decide)) ?_
        show ev_K w 12 [.ref (45 + 4 * (Int32.ofNat k).toNatClampNeg), .ref z] m t _
        rw [ev_on (by omega)]
        refine ev_S12 A (ev_isLf hk40) hz (by decide) (by omega) lk.1 (by omega) (by omega) (fun q => ?_) (fun q => ?_)
        · have hfk : ab_fa m fo o k = true := by rw [ab_fa, hth, decide_eq_true ((ab_sm_iff hF ho).mp q)]; rfl
          rw [hfk] at hall
          rw [hall] at hQ
          exact And.intro (fun h => (ev_ne10 h).elim) (fun h => hQ)
        · have hfk : ab_fa m fo o k = false := by rw [ab_fa, hth, decide_eq_false (fun e => q ((ab_sm_iff hF ho).mpr e))]; rfl
          exact And.intro (fun h => nextk hfk) (fun h => absurd ev_eq00 h)
  refine ⟨Or.inr ⟨40, _, rfl, rfl⟩, ev_m23, rfl, ev_gK A hp [2] 10 ?_⟩
  exact loop 40 0 rfl rfl
/-- Words.makeEqual -/
def ab_me (m : ev_Mem) (a b n : Nat) : ev_Mem := fun k j => if k = 205 ∧ j < n ∧ ab_th m j = true ∧ (m 205 j).toInt = (m 205 a).toInt then m 205 b else m k j
theorem ab_me_th (m : ev_Mem) (a b n x : Nat) : ab_th (ab_me m a b n) x = ab_th m x := by
  unfold ab_th
  rw [ab_me, if_neg (fun h => by omega)]
theorem ev_S29 {a b : Nat} (A : ev_all w) (ha : a < 40) (hb : b < 40) (hQ : Q (.inl none) (ab_me m a b 40) t) : ev_K w 29 [.ref 40, .int (Int32.ofNat a), .int (Int32.ofNat b)] m t Q := by
  have hp : ev_prog[29]? = some ev_m29 := rfl
  have e40 : ((Int8.ofInt 40).toInt32).toInt = 40 := by decide
  have loop : ∀ (n k : Nat), k + n = 40 → ev_J w ev_m29 (ev_nd 29) Q 18 [some (.ref 40), some (.int (Int32.ofNat a)), some (.int (Int32.ofNat b)), some (.int (m 205 a)), some (.int (m 205 b)), some (.int (Int32.ofNat k))] [] (ab_me m a b k) t := by
    intro n
    induction n with
    | zero =>
      intro k hk
      have ek := ev_ofNat_i (n := k) (by omega)
      refine ev_gK A hp [] 10 ?_
      refine And.intro (fun h => ?_) (fun h => ?_)
      · have hk40 : k = 40 := by omega
        rw [hk40]
        exact hQ
      · have h2 : (Int32.ofNat k).toInt < ((Int8.ofInt 40).toInt32).toInt := h
        omega
    | succ n ih =>
      intro k hk
      have ek := ev_ofNat_i (n := k) (by omega)
      have hk40 : k < 40 := by omega
      have hsame : ¬ (ab_th m k = true ∧ (m 205 k).toInt = (m 205 a).toInt) → ab_me m a b (k + 1) = ab_me m a b k := by
        intro hno
        funext x j
        unfold ab_me
        by_cases hj : j = k
        · subst hj
          rw [if_neg (fun q => hno q.2.2), if_neg (fun q => hno q.2.2)]
        · by_cases hc : x = 205 ∧ j < k ∧ ab_th m j = true ∧ (m 205 j).toInt = (m 205 a).toInt
          · rw [if_pos hc, if_pos ⟨hc.1, by omega, hc.2.2⟩]
          · rw [if_neg hc, if_neg (fun q => hc ⟨q.1, by omega, q.2.2⟩)]
      have next : ¬ (ab_th m k = true ∧ (m 205 k).toInt = (m 205 a).toInt) → ev_J w ev_m29 (ev_nd 29) Q 18 [some (.ref 40), some (.int (Int32.ofNat a)), some (.int (Int32.ofNat b)), some (.int (m 205 a)), some (.int (m 205 b)), some (.int (Int32.ofNat k + 1))] [] (ab_me m a b k) t := by
        intro hno
        rw [ev_succ (by omega), ← hsame hno]
        exact ih (k + 1) (by omega)
      have hk205 : ab_me m a b k 205 k = m 205 k := if_neg (fun q => by omega)
      refine ev_gK A hp [18] 30 ?_
      refine And.intro (fun h => ?_) (fun h => ?_)
      · have h2 : ((Int8.ofInt 40).toInt32).toInt ≤ (Int32.ofNat k).toInt := h
        omega
      refine ev_S24 A hk40 ?_
      rw [ab_me_th]
      refine And.intro (fun h => ?_) (fun h => ?_)
      · exact next (fun q => by rw [ab_bi_eq h] at q; exact Bool.noConfusion q.1)
      · have hth := ab_bi_neq h
        have nk : (Int32.ofNat k).toNatClampNeg = k := ev_on (by omega)
        refine And.intro (ev_oin hk40 (by decide)) ?_
        refine And.intro (fun h => ?_) (fun h => ?_)
        · have h2 : ¬ (ab_me m a b k 205 (Int32.ofNat k).toNatClampNeg).toInt = (m 205 a).toInt := h
          rw [nk, hk205] at h2
          exact next (fun q => h2 q.2)
        · have h2 : (ab_me m a b k 205 (Int32.ofNat k).toNatClampNeg).toInt = (m 205 a).toInt := h
          rw [nk, hk205] at h2
          refine And.intro (ev_oin hk40 (by decide)) ?_
          show ev_J w ev_m29 (ev_nd 29) Q 18 [some (.ref 40), some (.int (Int32.ofNat a)), some (.int (Int32.ofNat b)), some (.int (m 205 a)), some (.int (m 205 b)), some (.int (Int32.ofNat k + 1))] [] (ev_up (ab_me m a b k) 205 (Int32.ofNat k).toNatClampNeg (m 205 b)) t
          have e1 : ev_up (ab_me m a b k) 205 k (m 205 b) = ab_me m a b (k + 1) := by
            funext x j
            unfold ev_up ab_me
            by_cases hj : x = 205 ∧ j = k
            · rw [if_pos hj, if_pos ⟨hj.1, by omega, by rw [hj.2]; exact hth, by rw [hj.2]; exact h2⟩]
            · rw [if_neg hj]
              by_cases hc : x = 205 ∧ j < k ∧ ab_th m j = true ∧ (m 205 j).toInt = (m 205 a).toInt
              · rw [if_pos hc, if_pos ⟨hc.1, by omega, hc.2.2⟩]
              · rw [if_neg hc, if_neg (fun q => hc ⟨q.1, by have := q.2.1; have : j ≠ k := fun e => hj ⟨q.1, e⟩; omega, q.2.2⟩)]
          rw [nk, ev_succ (by omega), e1]
          exact ih (k + 1) (by omega)
  refine ⟨Or.inr ⟨40, _, rfl, rfl⟩, ev_m29, rfl, ev_gK A hp [18] 20 ?_⟩
  refine And.intro (ev_oin ha (by decide)) ?_
  refine And.intro (ev_oin hb (by decide)) ?_
  show ev_J w ev_m29 (ev_nd 29) Q 18 [some (.ref 40), some (.int (Int32.ofNat a)), some (.int (Int32.ofNat b)), some (.int (m 205 (Int32.ofNat a).toNatClampNeg)), some (.int (m 205 (Int32.ofNat b).toNatClampNeg)), some (.int (Int32.ofNat 0))] [] m t
  rw [ev_on (by omega), ev_on (by omega)]
  have e0 : ab_me m a b 0 = m := by
    funext x j
    unfold ab_me
    rw [if_neg (fun q => by omega)]
  have h1 := loop 40 0 rfl
  rw [e0] at h1
  exact h1
end EvMarks
end
section
/-! the class's words: marking them all -/
section EvMarkAll
variable {w : ev_W} {Q : ev_QT} {m : ev_Mem} {t : ev_H}
def ab_PC (m : ev_Mem) (ps : List (Nat × Nat)) : Prop := (m 40 7).toInt = (ps.length : Int) ∧ ps.length ≤ 6 ∧ ∀ e, e < ps.length → m 206 e = Int32.ofNat (ps.getD e (0, 0)).1 ∧ m 207 e = Int32.ofNat (ps.getD e (0, 0)).2 ∧ (ps.getD e (0, 0)).1 < 40 ∧ (ps.getD e (0, 0)).2 < 40
def ab_mk0 (m : ev_Mem) (fo : Nat → Option ab_Ls) (n : Nat) : ev_Mem := fun k j => if (k = 204 ∨ k = 205) ∧ j < n ∧ ab_th m j = true then ab_oi ((List.range 40).find? (ab_fa m fo (fo j))) else m k j
def ab_mes (ps : List (Nat × Nat)) (m : ev_Mem) : ev_Mem := ps.foldl (fun m q => ab_me m q.1 q.2 40) m
theorem ab_th_cong {m m' : ev_Mem} (h : ∀ j, m' 203 j = m 203 j) (x : Nat) : ab_th m' x = ab_th m x := by
  unfold ab_th
  rw [h]
theorem ab_F_cong {m m' : ev_Mem} {x : Nat} {o : Option ab_Ls} (h : ∀ j, m' x j = m x j) (h2 : ∀ j, m' (x + 1) j = m (x + 1) j) (hF : ab_F m x o) : ab_F m' x o := by
  cases o with
  | none =>
    show (m' x 1).toInt = -1
    rw [h]; exact hF
  | some l =>
    have hL : ab_L m x l := hF
    refine ⟨by rw [h]; exact hL.1, fun k hk => ?_⟩
    rw [h2]; exact hL.2 k hk
theorem ab_mk0_ne (m : ev_Mem) (fo : Nat → Option ab_Ls) (n : Nat) {k : Nat} (h1 : k ≠ 204) (h2 : k ≠ 205) (j : Nat) : ab_mk0 m fo n k j = m k j := if_neg (fun q => by omega)
theorem ab_me_ne (m : ev_Mem) (a b n : Nat) {k : Nat} (h : k ≠ 205) (j : Nat) : ab_me m a b n k j = m k j := if_neg (fun q => h q.1)
theorem ab_mes_ne (ps : List (Nat × Nat)) : ∀ (m : ev_Mem) {k : Nat} (_ : k ≠ 205) (j : Nat), ab_mes ps m k j = m k j := by
  induction ps with
  | nil => intro m k h j; rfl
  | cons q ps ih =>
    intro m k h j
    show ab_mes ps (ab_me m q.1 q.2 40) k j = m k j
    rw [ih _ h, ab_me_ne _ _ _ _ h]
theorem ab_PC_cong {m m' : ev_Mem} {ps : List (Nat × Nat)} (h : ∀ k j, k = 40 ∨ k = 206 ∨ k = 207 → m' k j = m k j) (hP : ab_PC m ps) : ab_PC m' ps := by
  obtain ⟨h1, h2, h3⟩ := hP
  refine ⟨by rw [h 40 7 (by omega)]; exact h1, h2, fun e he => ?_⟩
  rw [h 206 e (by omega), h 207 e (by omega)]
  exact h3 e he
/-- Words.markAll -/
theorem ev_S28 {fo : Nat → Option ab_Ls} {ps : List (Nat × Nat)} (A : ev_all w) (hfo : ab_FO m fo) (hP : ab_PC m ps) (hQ : Q (.inl none) (ab_mes ps (ab_mk0 m fo 40)) t) : ev_K w 28 [.ref 40] m t Q := by
  have hp : ev_prog[28]? = some ev_m28 := rfl
  have e40 : ((Int8.ofInt 40).toInt32).toInt = 40 := by decide
  have loop2 : ∀ (n k : Nat), k + n = ps.length → ev_J w ev_m28 (ev_nd 28) Q 52 [some (.ref 40), some (.int (Int32.ofNat k))] [] (ab_mes (ps.take k) (ab_mk0 m fo 40)) t := by
    intro n
    induction n with
    | zero =>
      intro k hk
      have hPk : ab_PC (ab_mes (ps.take k) (ab_mk0 m fo 40)) ps := ab_PC_cong (fun k' j hk' => by rw [ab_mes_ne _ _ (by omega), ab_mk0_ne _ _ _ (by omega) (by omega)]) hP
      have h6 := hP.2.1
      have hk1 := hPk.1
      have ek := ev_ofNat_i (n := k) (by omega)
      refine ev_gK A hp [] 10 ?_
      refine And.intro (fun h => ?_) (fun h => ?_)
      · rw [List.take_of_length_le (by omega)]
        exact hQ
      · have h2 : (Int32.ofNat k).toInt < (ab_mes (ps.take k) (ab_mk0 m fo 40) 40 7).toInt := h
        omega
    | succ n ih =>
      intro k hk
      have hPk : ab_PC (ab_mes (ps.take k) (ab_mk0 m fo 40)) ps := ab_PC_cong (fun k' j hk' => by rw [ab_mes_ne _ _ (by omega), ab_mk0_ne _ _ _ (by omega) (by omega)]) hP
      have h6 := hP.2.1
      have hk1 := hPk.1
      have ek := ev_ofNat_i (n := k) (by omega)
      obtain ⟨p1, p2, p3, p4⟩ := hPk.2.2 k (by omega)
      refine ev_gK A hp [52] 20 ?_
      refine And.intro (fun h => ?_) (fun h => ?_)
      · have h2 : (ab_mes (ps.take k) (ab_mk0 m fo 40) 40 7).toInt ≤ (Int32.ofNat k).toInt := h
        omega
      refine And.intro (ev_oin (by omega) (by decide)) ?_
      refine And.intro (ev_oin (by omega) (by decide)) ?_
      show ev_K w 29 [.ref 40, .int (ab_mes (ps.take k) (ab_mk0 m fo 40) 206 (Int32.ofNat k).toNatClampNeg), .int (ab_mes (ps.take k) (ab_mk0 m fo 40) 207 (Int32.ofNat k).toNatClampNeg)] (ab_mes (ps.take k) (ab_mk0 m fo 40)) t _
      rw [ev_on (by omega), p1, p2]
      refine ev_S29 A p3 p4 ?_
      show ev_J w ev_m28 (ev_nd 28) Q 52 [some (.ref 40), some (.int (Int32.ofNat k + 1))] [] (ab_me (ab_mes (ps.take k) (ab_mk0 m fo 40)) (ps.getD k (0, 0)).1 (ps.getD k (0, 0)).2 40) t
      have e1 : ab_me (ab_mes (ps.take k) (ab_mk0 m fo 40)) (ps.getD k (0, 0)).1 (ps.getD k (0, 0)).2 40 = ab_mes (ps.take (k + 1)) (ab_mk0 m fo 40) := by
        unfold ab_mes
        rw [ab_take_succ (d := (0, 0)) (by omega), List.foldl_append]
        rfl
      rw [e1, ev_succ (by omega)]
      exact ih (k + 1) (by omega)
  have loop1 : ∀ (n k : Nat), k + n = 40 → ev_J w ev_m28 (ev_nd 28) Q 2 [some (.ref 40), some (.int (Int32.ofNat k))] [] (ab_mk0 m fo k) t := by
    intro n
    induction n with
    | zero =>
      intro k hk
      have ek := ev_ofNat_i (n := k) (by omega)
      refine ev_gK A hp [52] 10 ?_
      refine And.intro (fun h => ?_) (fun h => ?_)
      · have hk40 : k = 40 := by omega
        rw [hk40]
        exact loop2 ps.length 0 (by omega)
      · have h2 : (Int32.ofNat k).toInt < ((Int8.ofInt 40).toInt32).toInt := h
        omega
    | succ n ih =>
      intro k hk
      have ek := ev_ofNat_i (n := k) (by omega)
      have hk40 : k < 40 := by omega
      have nk : (Int32.ofNat k).toNatClampNeg = k := ev_on (by omega)
      have hth : ∀ x, ab_th (ab_mk0 m fo k) x = ab_th m x := ab_th_cong (fun j => ab_mk0_ne m fo k (by decide) (by decide) j)
      have hfok : ab_FO (ab_mk0 m fo k) fo := by
        intro x hx hx2
        rw [hth] at hx2
        obtain ⟨a, b⟩ := hfo x hx hx2
        exact ⟨ab_F_cong (fun j => ab_mk0_ne _ _ _ (by omega) (by omega) j) (fun j => ab_mk0_ne _ _ _ (by omega) (by omega) j) a, b⟩
      have hfa : ab_fa (ab_mk0 m fo k) fo (fo k) = ab_fa m fo (fo k) := by
        funext x
        unfold ab_fa
        rw [hth]
      refine ev_gK A hp [2, 32] 20 ?_
      refine And.intro (fun h => ?_) (fun h => ?_)
      · have h2 : ((Int8.ofInt 40).toInt32).toInt ≤ (Int32.ofNat k).toInt := h
        omega
      refine ev_S24 A hk40 ?_
      rw [hth]
      refine And.intro (fun h => ?_) (fun h => ?_)
      · have hf := ab_bi_eq h
        show ev_J w ev_m28 (ev_nd 28) Q 2 [some (.ref 40), some (.int (Int32.ofNat k + 1))] [] (ab_mk0 m fo k) t
        have e1 : ab_mk0 m fo k = ab_mk0 m fo (k + 1) := by
          funext x j
          unfold ab_mk0
          by_cases hj : j = k
          · subst hj
            rw [if_neg (fun q => by rw [hf] at q; exact Bool.noConfusion q.2.2), if_neg (fun q => by rw [hf] at q; exact Bool.noConfusion q.2.2)]
          · by_cases hc : (x = 204 ∨ x = 205) ∧ j < k ∧ ab_th m j = true
            · rw [if_pos hc, if_pos ⟨hc.1, by omega, hc.2.2⟩]
            · rw [if_neg hc, if_neg (fun q => hc ⟨q.1, by omega, q.2.2⟩)]
        rw [e1, ev_succ (by omega)]
        exact ih (k + 1) (by omega)
      · have hf := ab_bi_neq h
        obtain ⟨hF, hF2⟩ := hfok k hk40 (by rw [hth]; exact hf)
        refine And.intro (ev_oin hk40 (by decide)) ?_
        show ev_K w 23 [.ref 40, .ref (45 + 4 * (Int32.ofNat k).toNatClampNeg)] (ab_mk0 m fo k) t _
        rw [nk]
        refine ev_S23 A hfok (ev_isLf hk40) (by decide) hF hF2 ?_
        rw [hfa]
        refine And.intro (ev_oin hk40 (by decide)) ?_
        show ev_J w ev_m28 (ev_nd 28) Q 32 [some (.ref 40), some (.int (Int32.ofNat k))] [] (ev_up (ab_mk0 m fo k) 204 (Int32.ofNat k).toNatClampNeg (ab_oi ((List.range 40).find? (ab_fa m fo (fo k))))) t
        rw [nk]
        refine ev_gK A hp [2] 20 ?_
        refine And.intro (ev_oin hk40 (by decide)) ?_
        refine And.intro (ev_oin hk40 (by decide)) ?_
        show ev_J w ev_m28 (ev_nd 28) Q 2 [some (.ref 40), some (.int (Int32.ofNat k + 1))] [] (ev_up (ev_up (ab_mk0 m fo k) 204 k (ab_oi ((List.range 40).find? (ab_fa m fo (fo k))))) 205 (Int32.ofNat k).toNatClampNeg (ev_up (ab_mk0 m fo k) 204 k (ab_oi ((List.range 40).find? (ab_fa m fo (fo k)))) 204 (Int32.ofNat k).toNatClampNeg)) t
        rw [nk, ev_up_same, ev_succ (by omega)]
        have e1 : ev_up (ev_up (ab_mk0 m fo k) 204 k (ab_oi ((List.range 40).find? (ab_fa m fo (fo k))))) 205 k (ab_oi ((List.range 40).find? (ab_fa m fo (fo k)))) = ab_mk0 m fo (k + 1) := by
          funext x j
          unfold ev_up ab_mk0
          by_cases h5 : x = 205 ∧ j = k
          · rw [if_pos h5, if_pos ⟨Or.inr h5.1, by omega, by rw [h5.2]; exact hf⟩, h5.2]
          · rw [if_neg h5]
            by_cases h4 : x = 204 ∧ j = k
            · rw [if_pos h4, if_pos ⟨Or.inl h4.1, by omega, by rw [h4.2]; exact hf⟩, h4.2]
            · rw [if_neg h4]
              by_cases hc : (x = 204 ∨ x = 205) ∧ j < k ∧ ab_th m j = true
              · rw [if_pos hc, if_pos ⟨hc.1, by omega, hc.2.2⟩]
              · rw [if_neg hc, if_neg (fun q => hc ⟨q.1, by have hq := q.1; have hq2 := q.2.1; have hne : j ≠ k := fun e => hq.elim (fun z => h4 ⟨z, e⟩) (fun z => h5 ⟨z, e⟩); omega, q.2.2⟩)]
        rw [e1]
        exact ih (k + 1) (by omega)
  refine ⟨Or.inr ⟨40, _, rfl, rfl⟩, ev_m28, rfl, ev_gK A hp [2] 10 ?_⟩
  show ev_J w ev_m28 (ev_nd 28) Q 2 [some (.ref 40), some (.int (Int32.ofNat 0))] [] m t
  have e0 : ab_mk0 m fo 0 = m := by
    funext x j
    unfold ab_mk0
    rw [if_neg (fun q => by omega)]
  have h1 := loop1 40 0 rfl
  rw [e0] at h1
  exact h1
/-- number -/
theorem ev_S106 {a b : Nat} (A : ev_all w) (ha : a < 100) (hb : b < 100) (hQ : Q (.inl (some (.int (Int32.ofNat (10 * a + b))))) m t) : ev_K w 106 [.int (Int32.ofNat a), .int (Int32.ofNat b)] m t Q := by
  have hp : ev_prog[106]? = some ev_m106 := rfl
  refine ⟨Or.inl rfl, ev_m106, rfl, ev_gK A hp [] 20 ?_⟩
  show Q (.inl (some (.int (Int32.ofNat a * 10 + Int32.ofNat b)))) m t
  have e10 : (10 : Int32).toInt = 10 := by decide
  have ea := ev_ofNat_i (n := a) (by omega)
  have eb := ev_ofNat_i (n := b) (by omega)
  have e1 : (Int32.ofNat a * 10).toInt = (a : Int) * 10 := by rw [ev_mul_i (by rw [ea, e10]; omega) (by rw [ea, e10]; omega), ea, e10]
  have e2 : Int32.ofNat a * 10 + Int32.ofNat b = Int32.ofNat (10 * a + b) := by
    apply ev_eq_of
    rw [ev_add_i (by omega) (by omega), e1, eb, ev_ofNat_i (by omega)]
    omega
  rw [e2]
  exact hQ
/-- Words.addEquality -/
theorem ev_S32 {a b n : Nat} (A : ev_all w) (ha : a < 40) (hb : b < 40) (hn : (m 40 7).toInt = (n : Int)) (hn6 : n < 6) (hQ : Q (.inl none) (ab_me (ev_up (ev_up (ev_up m 206 n (Int32.ofNat a)) 207 n (Int32.ofNat b)) 40 7 (Int32.ofNat (n + 1))) a b 40) t) : ev_K w 32 [.ref 40, .int (Int32.ofNat a), .int (Int32.ofNat b)] m t Q := by
  have hp : ev_prog[32]? = some ev_m32 := rfl
  have e7 : m 40 7 = Int32.ofNat n := by
    apply ev_eq_of
    rw [hn, ev_ofNat_i (by omega)]
  have nn : (Int32.ofNat n).toNatClampNeg = n := ev_on (by omega)
  have hin : ev_in (m 40 7) 6 := by rw [e7]; exact ev_oin hn6 (by decide)
  refine ⟨Or.inr ⟨40, _, rfl, rfl⟩, ev_m32, rfl, ev_gK A hp [10, 20] 10 ?_⟩
  refine And.intro hin ?_
  show ev_J w ev_m32 (ev_nd 32) Q 10 [some (.ref 40), some (.int (Int32.ofNat a)), some (.int (Int32.ofNat b))] [] (ev_up m 206 (m 40 7).toNatClampNeg (Int32.ofNat a)) t
  rw [e7, nn]
  refine ev_gK A hp [20] 10 ?_
  have e7' : ev_up m 206 n (Int32.ofNat a) 40 7 = Int32.ofNat n := by rw [ev_up_cell _ (by decide)]; exact e7
  refine And.intro (by rw [e7']; exact ev_oin hn6 (by decide)) ?_
  show ev_J w ev_m32 (ev_nd 32) Q 20 [some (.ref 40), some (.int (Int32.ofNat a)), some (.int (Int32.ofNat b))] [] (ev_up (ev_up m 206 n (Int32.ofNat a)) 207 (ev_up m 206 n (Int32.ofNat a) 40 7).toNatClampNeg (Int32.ofNat b)) t
  rw [e7', nn]
  refine ev_gK A hp [] 20 ?_
  show ev_K w 29 [.ref 40, .int (Int32.ofNat a), .int (Int32.ofNat b)] (ev_up (ev_up (ev_up m 206 n (Int32.ofNat a)) 207 n (Int32.ofNat b)) 40 7 (ev_up (ev_up m 206 n (Int32.ofNat a)) 207 n (Int32.ofNat b) 40 7 + 1)) t _
  rw [ev_up_cell _ (by decide), e7', ev_succ (by omega)]
  exact ev_S29 A ha hb hQ
end EvMarkAll
end
section
/-! the class's words: forming all, adding one -/
section EvWadd
variable {w : ev_W} {Q : ev_QT} {m : ev_Mem} {t : ev_H}
def ab_there (ws : Nat → List ab_Ls) (x : Nat) : Bool := decide (x % 10 < (ws (x / 10)).length)
def ab_sp (ws : Nat → List ab_Ls) (x : Nat) : ab_Ls := (ws (x / 10)).getD (x % 10) []
def ab_fo (rs : List (ab_Ls × ab_Ls)) (ws : Nat → List ab_Ls) (x : Nat) : Option ab_Ls := if ab_sp ws x = [] then none else some (ab_form rs (ab_sp ws x))
def ab_WS (m : ev_Mem) (ws : Nat → List ab_Ls) : Prop := (∀ v, v < 4 → (m 203 v).toInt = ((ws v).length : Int)) ∧ ∀ x, x < 40 → ab_there ws x = true → ab_L m (43 + 4 * x) (ab_sp ws x)
def ab_Wok (ws : Nat → List ab_Ls) : Prop := ∀ v, v < 4 → (ws v).length ≤ 10 ∧ ∀ l ∈ ws v, l.length ≤ 6 ∧ ab_az l
theorem ab_th_there {ws : Nat → List ab_Ls} (h : ab_WS m ws) {x : Nat} (hx : x < 40) : ab_th m x = ab_there ws x := by
  unfold ab_th ab_there
  rw [h.1 (x / 10) (by omega)]
  apply decide_eq_decide.mpr
  omega
theorem ab_sp_ok {ws : Nat → List ab_Ls} (h : ab_Wok ws) {x : Nat} (hx : x < 40) (ht : ab_there ws x = true) : (ab_sp ws x).length ≤ 6 ∧ ab_az (ab_sp ws x) := by
  have h1 : x % 10 < (ws (x / 10)).length := of_decide_eq_true ht
  unfold ab_sp
  rw [List.getD_eq_getElem?_getD, List.getElem?_eq_getElem h1]
  exact (h (x / 10) (by omega)).2 _ (List.getElem_mem h1)
theorem ab_br_len {rs : List (ab_Ls × ab_Ls)} (h : ab_Rok rs) (l : ab_Ls) : ∀ (n f : Nat), (ab_br rs l n f).length ≤ 2 * n
  | 0, _ => by rw [ab_br]; exact Nat.le_refl _
  | n + 1, f => by
    rw [ab_br]
    split
    · split
      · have h1 := ab_br_len h l n (f + 1)
        rw [List.length_cons]; omega
      · rename_i r hr
        have h1 := ab_br_len h l n (f + (rs.getD r ([], [])).1.length)
        have h2 := (ab_Rok_at h (ab_pick_lt hr)).2.2.1
        rw [List.length_append]; omega
    · rw [List.length_nil]; omega
theorem ab_fo_len {rs : List (ab_Ls × ab_Ls)} {ws : Nat → List ab_Ls} (hr : ab_Rok rs) (h : ab_Wok ws) {x : Nat} (hx : x < 40) (ht : ab_there ws x = true) : ab_ol (ab_fo rs ws x) ≤ 12 := by
  have h1 := (ab_sp_ok h hx ht).1
  unfold ab_fo
  split
  · exact Nat.zero_le _
  · have h2 := ab_br_len hr (ab_sp ws x) (ab_sp ws x).length 0
    show (ab_br rs (ab_sp ws x) (ab_sp ws x).length 0).length ≤ 12
    omega
/-- only forms have changed -/
def ab_frf (m m' : ev_Mem) : Prop := ∀ k j, ¬ (45 ≤ k ∧ k ≤ 202 ∧ (k % 4 = 1 ∨ k % 4 = 2)) → m' k j = m k j
theorem ab_RC_frf {m m' : ev_Mem} {rs : List (ab_Ls × ab_Ls)} (hf : ab_frf m m') (h : ab_RC m rs) : ab_RC m' rs := by
  obtain ⟨h1, h2, h3⟩ := h
  refine ⟨by rw [hf 5 2 (by omega)]; exact h1, h2, fun r hr => ?_⟩
  obtain ⟨⟨a1, a2⟩, b1, b2⟩ := h3 r hr
  refine ⟨⟨by rw [hf _ _ (by omega)]; exact a1, fun k hk => by rw [hf _ _ (by omega)]; exact a2 k hk⟩, ⟨by rw [hf _ _ (by omega)]; exact b1, fun k hk => by rw [hf _ _ (by omega)]; exact b2 k hk⟩⟩
theorem ab_WS_frf {m m' : ev_Mem} {ws : Nat → List ab_Ls} (hf : ab_frf m m') (h : ab_WS m ws) : ab_WS m' ws := by
  refine ⟨fun v hv => by rw [hf _ _ (by omega)]; exact h.1 v hv, fun x hx ht => ?_⟩
  obtain ⟨a1, a2⟩ := h.2 x hx ht
  exact ⟨by rw [hf _ _ (by omega)]; exact a1, fun k hk => by rw [hf _ _ (by omega)]; exact a2 k hk⟩
theorem ab_PC_frf {m m' : ev_Mem} {ps : List (Nat × Nat)} (hf : ab_frf m m') (h : ab_PC m ps) : ab_PC m' ps :=
  ab_PC_cong (fun k j hk => hf k j (by omega)) h
/-- Words.formAll -/
theorem ev_S30 {rs : List (ab_Ls × ab_Ls)} {ws : Nat → List ab_Ls} {ps : List (Nat × Nat)} (A : ev_all w) (hR : ab_RC m rs) (hRo : ab_Rok rs) (hW : ab_WS m ws) (hWo : ab_Wok ws) (hP : ab_PC m ps)
    (hQ : ∀ m', ab_frf m m' → ab_FO m' (ab_fo rs ws) → Q (.inl none) (ab_mes ps (ab_mk0 m' (ab_fo rs ws) 40)) t) : ev_K w 30 [.ref 40, .ref 5] m t Q := by
  have hp : ev_prog[30]? = some ev_m30 := rfl
  have e40 : ((Int8.ofInt 40).toInt32).toInt = 40 := by decide
  have loop : ∀ (n k : Nat) (mk : ev_Mem), k + n = 40 → ab_frf m mk → (∀ x, x < k → ab_there ws x = true → ab_F mk (45 + 4 * x) (ab_fo rs ws x)) → ev_J w ev_m30 (ev_nd 30) Q 2 [some (.ref 40), some (.ref 5), some (.int (Int32.ofNat k))] [] mk t := by
    intro n
    induction n with
    | zero =>
      intro k mk hk hf hall
      have ek := ev_ofNat_i (n := k) (by omega)
      refine ev_gK A hp [] 10 ?_
      refine And.intro (fun h => ?_) (fun h => ?_)
      · have hFO : ab_FO mk (ab_fo rs ws) := fun x hx ht => by
          rw [ab_th_there (ab_WS_frf hf hW) hx] at ht
          exact ⟨hall x (by omega) ht, ab_fo_len hRo hWo hx ht⟩
        show ev_K w 28 [.ref 40] mk t _
        exact ev_S28 A hFO (ab_PC_frf hf hP) (hQ mk hf hFO)
      · have h2 : (Int32.ofNat k).toInt < ((Int8.ofInt 40).toInt32).toInt := h
        omega
    | succ n ih =>
      intro k mk hk hf hall
      have ek := ev_ofNat_i (n := k) (by omega)
      have hk40 : k < 40 := by omega
      have nk : (Int32.ofNat k).toNatClampNeg = k := ev_on (by omega)
      refine ev_gK A hp [2] 20 ?_
      refine And.intro (fun h => ?_) (fun h => ?_)
      · have h2 : ((Int8.ofInt 40).toInt32).toInt ≤ (Int32.ofNat k).toInt := h
        omega
      refine ev_S24 A hk40 ?_
      rw [ab_th_there (ab_WS_frf hf hW) hk40]
      refine And.intro (fun h => ?_) (fun h => ?_)
      · have hth := ab_bi_eq h
        show ev_J w ev_m30 (ev_nd 30) Q 2 [some (.ref 40), some (.ref 5), some (.int (Int32.ofNat k + 1))] [] mk t
        rw [ev_succ (by omega)]
        refine ih (k + 1) mk (by omega) hf (fun x hx ht => ?_)
        by_cases hxk : x = k
        · rw [hxk, hth] at ht; cases ht
        · exact hall x (by omega) ht
      · have hth := ab_bi_neq h
        obtain ⟨s1, s2⟩ := ab_sp_ok hWo hk40 hth
        have hL := (ab_WS_frf hf hW).2 k hk40 hth
        refine And.intro (ev_oin hk40 (by decide)) ?_
        refine And.intro (ev_oin hk40 (by decide)) ?_
        show ev_K w 15 [.ref 5, .ref (43 + 4 * (Int32.ofNat k).toNatClampNeg), .ref (45 + 4 * (Int32.ofNat k).toNatClampNeg)] mk t _
        rw [nk]
        refine ev_S15 A (ab_RC_frf hf hR) hRo (ev_isLs hk40) (ev_isLf hk40) (by omega) (by omega) (by decide) (by decide) hL s2 s1 (by omega) (fun m' hF hfr => ?_)
        show ev_J w ev_m30 (ev_nd 30) Q 2 [some (.ref 40), some (.ref 5), some (.int (Int32.ofNat k + 1))] [] m' t
        rw [ev_succ (by omega)]
        refine ih (k + 1) m' (by omega) (fun k' j hk' => ?_) (fun x hx ht => ?_)
        · rw [hfr k' j (by omega) (by omega)]
          exact hf k' j hk'
        · by_cases hxk : x = k
          · rw [hxk]; exact hF
          · exact ab_F_cong (fun j => hfr _ _ (by omega) (by omega)) (fun j => hfr _ _ (by omega) (by omega)) (hall x (by omega) ht)
  refine ⟨Or.inr ⟨40, _, rfl, rfl⟩, ev_m30, rfl, ev_gK A hp [2] 10 ?_⟩
  exact loop 40 0 m rfl (fun _ _ _ => rfl) (fun x hx => absurd hx (Nat.not_lt_zero _))
/-- a word more -/
def ab_put (ws : Nat → List ab_Ls) (v : Nat) (l : ab_Ls) : Nat → List ab_Ls := fun u => if u = v then ws u ++ [l] else ws u
theorem ab_put_old {ws : Nat → List ab_Ls} {v : Nat} {l : ab_Ls} {x : Nat} (h : ab_there ws x = true) : ab_there (ab_put ws v l) x = true ∧ ab_sp (ab_put ws v l) x = ab_sp ws x := by
  have h1 : x % 10 < (ws (x / 10)).length := of_decide_eq_true h
  unfold ab_there ab_sp ab_put
  by_cases hv : x / 10 = v
  · rw [if_pos hv]
    refine ⟨decide_eq_true (by rw [List.length_append]; omega), ?_⟩
    rw [List.getD_eq_getElem?_getD, List.getD_eq_getElem?_getD, List.getElem?_append_left h1]
  · rw [if_neg hv]
    exact ⟨decide_eq_true h1, rfl⟩
theorem ab_put_new {ws : Nat → List ab_Ls} {v : Nat} {l : ab_Ls} (hv : (ws v).length < 10) : ab_sp (ab_put ws v l) (10 * v + (ws v).length) = l := by
  unfold ab_sp ab_put
  have e1 : (10 * v + (ws v).length) / 10 = v := by omega
  have e2 : (10 * v + (ws v).length) % 10 = (ws v).length := by omega
  rw [e1, e2, if_pos rfl, List.getD_eq_getElem?_getD, List.getElem?_append_right (Nat.le_refl _), Nat.sub_self]
  rfl
theorem ab_put_inv {ws : Nat → List ab_Ls} {v : Nat} {l : ab_Ls} {x : Nat} (h : ab_there (ab_put ws v l) x = true) : ab_there ws x = true ∨ x = 10 * v + (ws v).length := by
  have h1 : x % 10 < (ab_put ws v l (x / 10)).length := of_decide_eq_true h
  unfold ab_put at h1
  by_cases hv : x / 10 = v
  · rw [if_pos hv, List.length_append, List.length_singleton] at h1
    by_cases h2 : x % 10 < (ws (x / 10)).length
    · exact Or.inl (decide_eq_true h2)
    · refine Or.inr ?_
      rw [hv] at h1 h2
      omega
  · rw [if_neg hv] at h1
    exact Or.inl (decide_eq_true h1)
theorem ab_Wok_put {ws : Nat → List ab_Ls} {v : Nat} {l : ab_Ls} (h : ab_Wok ws) (hv : (ws v).length < 10) (hl : l.length ≤ 6) (hz : ab_az l) : ab_Wok (ab_put ws v l) := by
  intro u hu
  unfold ab_put
  by_cases huv : u = v
  · subst huv
    rw [if_pos rfl]
    refine ⟨by rw [List.length_append, List.length_singleton]; omega, fun k hk => ?_⟩
    rcases List.mem_append.mp hk with q | q
    · exact (h u hu).2 k q
    · rw [List.mem_singleton] at q
      rw [q]; exact ⟨hl, hz⟩
  · rw [if_neg huv]
    exact h u hu
end EvWadd
end
section
/-! the class's words: adding one; the class's rules: adding one -/
section EvWadd2
variable {w : ev_W} {Q : ev_QT} {m : ev_Mem} {t : ev_H}
/-- only words have changed -/
def ab_frw (m m' : ev_Mem) : Prop := ∀ k j, ¬ (43 ≤ k ∧ k ≤ 203) → m' k j = m k j
theorem ab_RC_frw {m m' : ev_Mem} {rs : List (ab_Ls × ab_Ls)} (hf : ab_frw m m') (h : ab_RC m rs) : ab_RC m' rs := by
  obtain ⟨h1, h2, h3⟩ := h
  refine ⟨by rw [hf 5 2 (by omega)]; exact h1, h2, fun r hr => ?_⟩
  obtain ⟨⟨a1, a2⟩, b1, b2⟩ := h3 r hr
  refine ⟨⟨by rw [hf _ _ (by omega)]; exact a1, fun k hk => by rw [hf _ _ (by omega)]; exact a2 k hk⟩, ⟨by rw [hf _ _ (by omega)]; exact b1, fun k hk => by rw [hf _ _ (by omega)]; exact b2 k hk⟩⟩
theorem ab_fo_put_old {rs : List (ab_Ls × ab_Ls)} {ws : Nat → List ab_Ls} {v : Nat} {l : ab_Ls} {x : Nat} (h : ab_there ws x = true) : ab_fo rs (ab_put ws v l) x = ab_fo rs ws x := by
  unfold ab_fo
  rw [(ab_put_old h).2]
/-- Words.add -/
theorem ev_S27 {v : Nat} {l : ab_Ls} {rs : List (ab_Ls × ab_Ls)} {ws : Nat → List ab_Ls} {ps : List (Nat × Nat)} (A : ev_all w) (hv : v < 4) (hvl : (ws v).length < 10) (hd : ab_L m 1 l) (hl : l.length ≤ 6) (hz : ab_az l) (hR : ab_RC m rs) (hRo : ab_Rok rs) (hW : ab_WS m ws) (hWo : ab_Wok ws) (hP : ab_PC m ps) (hFO : ab_FO m (ab_fo rs ws))
    (hQ : ∀ m', ab_frw m m' → ab_WS m' (ab_put ws v l) → ab_FO m' (ab_fo rs (ab_put ws v l)) → Q (.inl none) (ab_mes ps (ab_mk0 m' (ab_fo rs (ab_put ws v l)) 40)) t) : ev_K w 27 [.ref 40, .int (Int32.ofNat v), .ref 1, .ref 5] m t Q := by
  have hp : ev_prog[27]? = some ev_m27 := rfl
  have ec : m 203 v = Int32.ofNat (ws v).length := by
    apply ev_eq_of
    rw [hW.1 v hv, ev_ofNat_i (by omega)]
  have hx40 : 10 * v + (ws v).length < 40 := by omega
  have nx : (Int32.ofNat (10 * v + (ws v).length)).toNatClampNeg = 10 * v + (ws v).length := ev_on (by omega)
  have nv : (Int32.ofNat v).toNatClampNeg = v := ev_on (by omega)
  have hnot : ab_there ws (10 * v + (ws v).length) = false := by
    unfold ab_there
    have e1 : (10 * v + (ws v).length) / 10 = v := by omega
    rw [e1]
    exact decide_eq_false (by omega)
  refine ⟨Or.inr ⟨40, _, rfl, rfl⟩, ev_m27, rfl, ev_gK A hp [10, 23, 33, 51] 10 ?_⟩
  refine And.intro (ev_oin hv (by decide)) ?_
  show ev_K w 106 [.int (Int32.ofNat v), .int (m 203 (Int32.ofNat v).toNatClampNeg)] m t _
  rw [nv, ec]
  refine ev_S106 A (by omega) (by omega) ?_
  show ev_J w ev_m27 (ev_nd 27) Q 10 [some (.ref 40), some (.int (Int32.ofNat v)), some (.ref 1), some (.ref 5), none] [.int (Int32.ofNat (10 * v + (ws v).length))] m t
  refine ev_gK A hp [23] 10 ?_
  refine And.intro (ev_oin hx40 (by decide)) ?_
  show ev_K w 13 [.ref (43 + 4 * (Int32.ofNat (10 * v + (ws v).length)).toNatClampNeg), .ref 1] m t _
  rw [nx]
  generalize hx : 10 * v + (ws v).length = x at *
  have hd1 := hd.1
  refine ev_S13 A (ev_isLs hx40) ev_isLd (by omega) (by decide) (by decide) (by omega) (by omega) (by omega) (fun k hk => by have h1 := ab_row_ch hd.2 hz (k := k) (by omega); rwa [Nat.zero_add] at h1) (fun m1 q1 q2 q3 => ?_)
  show ev_J w ev_m27 (ev_nd 27) Q 23 [some (.ref 40), some (.int (Int32.ofNat v)), some (.ref 1), some (.ref 5), some (.int (Int32.ofNat x))] [] m1 t
  refine ev_gK A hp [33] 10 ?_
  refine And.intro (ev_oin hv (by decide)) ?_
  refine And.intro (ev_oin hv (by decide)) ?_
  show ev_J w ev_m27 (ev_nd 27) Q 33 [some (.ref 40), some (.int (Int32.ofNat v)), some (.ref 1), some (.ref 5), some (.int (Int32.ofNat x))] [] (ev_up m1 203 (Int32.ofNat v).toNatClampNeg (m1 203 (Int32.ofNat v).toNatClampNeg + 1)) t
  rw [nv, q3 203 v (by omega) (by omega), ec, ev_succ (by omega)]
  generalize hm2 : ev_up m1 203 v (Int32.ofNat ((ws v).length + 1)) = m2
  have f2 : ∀ k j, k ≠ 203 → m2 k j = m1 k j := fun k j hk => by rw [← hm2]; exact ev_up_cell _ hk _ _ _
  have hLx : ab_L m2 (43 + 4 * x) l := by
    refine ⟨by rw [f2 _ _ (by omega), q1]; exact hd1, fun k hk => ?_⟩
    rw [f2 _ _ (by omega), Nat.zero_add, q2 k (by omega)]
    have h1 := hd.2 k hk
    rwa [Nat.zero_add] at h1
  have fr2 : ab_frw m m2 := fun k j hk => by rw [f2 k j (by omega)]; exact q3 k j (by omega) (by omega)
  refine ev_gK A hp [51] 12 ?_
  refine And.intro (ev_oin hx40 (by decide)) ?_
  refine And.intro (ev_oin hx40 (by decide)) ?_
  show ev_K w 15 [.ref 5, .ref (43 + 4 * (Int32.ofNat x).toNatClampNeg), .ref (45 + 4 * (Int32.ofNat x).toNatClampNeg)] m2 t _
  rw [nx]
  refine ev_S15 A (ab_RC_frw fr2 hR) hRo (ev_isLs hx40) (ev_isLf hx40) (by omega) (by omega) (by decide) (by decide) hLx hz hl (by omega) (fun m3 hF hfr => ?_)
  show ev_J w ev_m27 (ev_nd 27) Q 51 [some (.ref 40), some (.int (Int32.ofNat v)), some (.ref 1), some (.ref 5), some (.int (Int32.ofNat x))] [] m3 t
  have fr3 : ab_frw m m3 := fun k j hk => by rw [hfr k j (by omega) (by omega)]; exact fr2 k j hk
  have hW3 : ab_WS m3 (ab_put ws v l) := by
    refine ⟨fun u hu => ?_, fun y hy ht => ?_⟩
    · rw [hfr _ _ (by omega) (by omega), ← hm2]
      unfold ab_put
      by_cases huv : u = v
      · rw [if_pos huv, huv, ev_up_same, ev_ofNat_i (by omega), List.length_append, List.length_singleton]
      · rw [if_neg huv, ev_up_idx _ _ huv, q3 _ _ (by omega) (by omega)]
        exact hW.1 u hu
    · by_cases hyx : y = x
      · rw [hyx, ← hx, ab_put_new hvl, hx]
        refine ⟨by rw [hfr _ _ (by omega) (by omega)]; exact hLx.1, fun k hk => by rw [hfr _ _ (by omega) (by omega)]; exact hLx.2 k hk⟩
      · have ht0 : ab_there ws y = true := by
          rcases ab_put_inv ht with q | q
          · exact q
          · exact absurd (q.trans hx) hyx
        rw [(ab_put_old ht0).2]
        obtain ⟨a1, a2⟩ := hW.2 y hy ht0
        exact ⟨by rw [hfr _ _ (by omega) (by omega), f2 _ _ (by omega), q3 _ _ (by omega) (by omega)]; exact a1, fun k hk => by rw [hfr _ _ (by omega) (by omega), f2 _ _ (by omega), q3 _ _ (by omega) (by omega)]; exact a2 k hk⟩
  have hWo3 := ab_Wok_put (v := v) (l := l) hWo hvl hl hz
  have hFO3 : ab_FO m3 (ab_fo rs (ab_put ws v l)) := by
    intro y hy ht
    rw [ab_th_there hW3 hy] at ht
    refine ⟨?_, ab_fo_len hRo hWo3 hy ht⟩
    by_cases hyx : y = x
    · rw [hyx]
      unfold ab_fo
      rw [← hx, ab_put_new hvl, hx]
      exact hF
    · have ht0 : ab_there ws y = true := by
        rcases ab_put_inv ht with q | q
        · exact q
        · exact absurd (q.trans hx) hyx
      rw [ab_fo_put_old ht0]
      have h1 := (hFO y hy (by rw [ab_th_there hW hy]; exact ht0)).1
      exact ab_F_cong (fun j => by rw [hfr _ _ (by omega) (by omega), f2 _ _ (by omega), q3 _ _ (by omega) (by omega)]) (fun j => by rw [hfr _ _ (by omega) (by omega), f2 _ _ (by omega), q3 _ _ (by omega) (by omega)]) h1
  refine ev_gK A hp [] 10 ?_
  show ev_K w 28 [.ref 40] m3 t _
  exact ev_S28 A hFO3 (ab_PC_cong (fun k j hk => fr3 k j (by omega)) hP) (hQ m3 fr3 hW3 hFO3)
end EvWadd2
end
section
/-! the class's rules: adding one -/
section EvRadd
variable {w : ev_W} {Q : ev_QT} {m : ev_Mem} {t : ev_H}
def ab_R0 (m : ev_Mem) (n : Nat) : Prop := ∀ r, n ≤ r → r < 8 → (m (8 + 4 * r) 1).toInt = 0 ∧ (m (10 + 4 * r) 1).toInt = 0
theorem ab_getD_take {l : ab_Ls} {n k : Nat} (h : k < n) : (l.take n).getD k 0 = l.getD k 0 := by
  rw [List.getD_eq_getElem?_getD, List.getD_eq_getElem?_getD, List.getElem?_take_of_lt h]
theorem ab_getD_drop {l : ab_Ls} {n k : Nat} : (l.drop n).getD k 0 = l.getD (n + k) 0 := by
  rw [List.getD_eq_getElem?_getD, List.getD_eq_getElem?_getD, List.getElem?_drop]
theorem ab_rs_app {rs : List (ab_Ls × ab_Ls)} {q : ab_Ls × ab_Ls} {r : Nat} (h : r < rs.length) : (rs ++ [q]).getD r ([], []) = rs.getD r ([], []) := by
  rw [List.getD_eq_getElem?_getD, List.getD_eq_getElem?_getD, List.getElem?_append_left h]
theorem ab_rs_last {rs : List (ab_Ls × ab_Ls)} {q : ab_Ls × ab_Ls} : (rs ++ [q]).getD rs.length ([], []) = q := by
  rw [List.getD_eq_getElem?_getD, List.getElem?_append_right (Nat.le_refl _), Nat.sub_self]
  rfl
/-- Rules.add -/
theorem ev_S18 {n : Nat} {l : ab_Ls} {rs : List (ab_Ls × ab_Ls)} (A : ev_all w) (hd : ab_L m 1 l) (hz : ab_az l) (hn3 : n ≤ 3) (hnl : n ≤ l.length) (hl2 : l.length ≤ n + 2) (hR : ab_RC m rs) (hR0 : ab_R0 m rs.length) (hr8 : rs.length < 8)
    (hQ : ∀ m', (∀ k j, ¬ (5 ≤ k ∧ k ≤ 39) → m' k j = m k j) → ab_RC m' (rs ++ [(l.take n, l.drop n)]) → ab_R0 m' (rs.length + 1) → Q (.inl none) m' t) : ev_K w 18 [.ref 5, .ref 1, .int (Int32.ofNat n)] m t Q := by
  have hp : ev_prog[18]? = some ev_m18 := rfl
  obtain ⟨hR1, hR2, hR3⟩ := hR
  obtain ⟨z1, z2⟩ := hR0 rs.length (Nat.le_refl _) hr8
  have ec : m 5 2 = Int32.ofNat rs.length := by
    apply ev_eq_of
    rw [hR1, ev_ofNat_i (by omega)]
  have nc : (Int32.ofNat rs.length).toNatClampNeg = rs.length := ev_on (by omega)
  have en := ev_ofNat_i (n := n) (by omega)
  have e0 : ((0 : Int32).toInt) = 0 := by decide
  have hd1 := hd.1
  refine ⟨Or.inr ⟨5, _, rfl, rfl⟩, ev_m18, rfl, ev_gK A hp [15, 33] 10 ?_⟩
  refine And.intro (by rw [ec]; exact ev_oin hr8 (by decide)) ?_
  show ev_K w 10 [.ref (8 + 4 * (m 5 2).toNatClampNeg), .ref 1, .int 0, .int (Int32.ofNat n)] m t _
  rw [ec, nc]
  refine ev_S10 A (ev_isLl hr8) ev_isLd (by omega) (by decide) (by decide) (by decide) (by omega) (by omega) (by omega) (by omega) (fun k h1 h2 => by have h3 := ab_row_ch hd.2 hz (k := k) (by omega); rwa [Nat.zero_add] at h3) (fun m1 q1 q2 q3 q4 => ?_)
  show ev_J w ev_m18 (ev_nd 18) Q 15 [some (.ref 5), some (.ref 1), some (.int (Int32.ofNat n))] [] m1 t
  have ec1 : m1 5 2 = Int32.ofNat rs.length := by rw [q4 5 2 (by omega) (by omega)]; exact ec
  have f1 : ∀ j, m1 1 j = m 1 j := fun j => q4 1 j (by omega) (by omega)
  have f2 : ∀ j, m1 2 j = m 2 j := fun j => q4 2 j (by omega) (by omega)
  refine ev_gK A hp [33] 12 ?_
  refine And.intro (by rw [ec1]; exact ev_oin hr8 (by decide)) ?_
  refine ev_S5 A ev_isLd ?_
  show ev_K w 10 [.ref (10 + 4 * (m1 5 2).toNatClampNeg), .ref 1, .int (Int32.ofNat n), .int (m1 1 1)] m1 t _
  rw [ec1, nc, f1]
  have g1 : (m1 (10 + 4 * rs.length) 1).toInt = 0 := by rw [q4 _ _ (by omega) (by omega)]; exact z2
  refine ev_S10 A (ev_isLr hr8) ev_isLd (by omega) (by decide) (by decide) (by omega) (by omega) (by omega) (by omega) (by omega) (fun k h1 h2 => by show ev_ch (m1 2 k); rw [f2]; have h3 := ab_row_ch hd.2 hz (k := k) (by omega); rwa [Nat.zero_add] at h3) (fun m2 r1 r2 r3 r4 => ?_)
  show ev_J w ev_m18 (ev_nd 18) Q 33 [some (.ref 5), some (.ref 1), some (.int (Int32.ofNat n))] [] m2 t
  have ec2 : m2 5 2 = Int32.ofNat rs.length := by rw [r4 5 2 (by omega) (by omega)]; exact ec1
  refine ev_gK A hp [] 12 ?_
  show Q (.inl none) (ev_up m2 5 2 (m2 5 2 + 1)) t
  rw [ec2, ev_succ (by omega)]
  refine hQ _ (fun k j hk => ?_) ⟨?_, ?_, fun r hr => ?_⟩ (fun r h1 h2 => ?_)
  · rw [ev_up_cell _ (by omega), r4 k j (by omega) (by omega), q4 k j (by omega) (by omega)]
  · rw [ev_up_same, ev_ofNat_i (by omega), List.length_append, List.length_singleton]
  · rw [List.length_append, List.length_singleton]; omega
  · rw [List.length_append, List.length_singleton] at hr
    by_cases hre : r = rs.length
    · subst hre
      rw [ab_rs_last]
      refine ⟨⟨?_, fun k hk => ?_⟩, ⟨?_, fun k hk => ?_⟩⟩
      · rw [ev_up_cell _ (by omega), r4 _ _ (by omega) (by omega), q1, z1, en, e0, List.length_take]; omega
      · rw [List.length_take] at hk
        rw [ev_up_cell _ (by omega), r4 _ _ (by omega) (by omega)]
        have h3 := q3 k (by omega)
        rw [z1, e0] at h3
        have h4 := hd.2 k (by omega)
        show m1 (8 + 4 * rs.length + 1) (0 + k) = (l.take n).getD k 0
        rw [ab_getD_take (by omega), ← h4]
        exact h3
      · rw [ev_up_cell _ (by omega), r1, g1, hd1, en, List.length_drop]; omega
      · rw [List.length_drop] at hk
        rw [ev_up_cell _ (by omega)]
        have h3 := r3 k (by omega)
        rw [g1, en, Int.toNat_natCast] at h3
        have h4 := hd.2 (n + k) (by omega)
        show m2 (10 + 4 * rs.length + 1) (0 + k) = (l.drop n).getD k 0
        rw [ab_getD_drop, ← h4]
        refine h3.trans ?_
        show m1 2 (n + k) = m 2 (0 + (n + k))
        rw [f2, Nat.zero_add]
    · rw [ab_rs_app (by omega)]
      obtain ⟨⟨a1, a2⟩, b1, b2⟩ := hR3 r (by omega)
      have hc : ∀ k j, k ≠ 5 → k ≠ 8 + 4 * rs.length → k ≠ 8 + 4 * rs.length + 1 → k ≠ 10 + 4 * rs.length → k ≠ 10 + 4 * rs.length + 1 → ev_up m2 5 2 (Int32.ofNat (rs.length + 1)) k j = m k j := fun k j c1 c2 c3 c4 c5 => by
        rw [ev_up_cell _ c1, r4 k j c4 c5, q4 k j c2 c3]
      exact ⟨⟨by rw [hc _ _ (by omega) (by omega) (by omega) (by omega) (by omega)]; exact a1, fun k hk => by rw [hc _ _ (by omega) (by omega) (by omega) (by omega) (by omega)]; exact a2 k hk⟩, ⟨by rw [hc _ _ (by omega) (by omega) (by omega) (by omega) (by omega)]; exact b1, fun k hk => by rw [hc _ _ (by omega) (by omega) (by omega) (by omega) (by omega)]; exact b2 k hk⟩⟩
  · rw [ev_up_cell _ (by omega), ev_up_cell _ (by omega), r4 _ _ (by omega) (by omega), r4 _ _ (by omega) (by omega), q4 _ _ (by omega) (by omega), q4 _ _ (by omega) (by omega)]
    exact hR0 r (by omega) h2
end EvRadd
end
section
/-! the class's words: how far apart -/
section EvEdits
variable {w : ev_W} {Q : ev_QT} {m : ev_Mem} {t : ev_H}
def ab_Dn (prev f : Nat → Nat) (i : Nat) : Nat → Nat
  | 0 => i + 1
  | j + 1 => min (prev j + f j) (min (prev (j + 1)) (ab_Dn prev f i j) + 1)
def ab_ne (a b : ab_Ls) (i j : Nat) : Nat := if a.getD i 0 = b.getD j 0 then 0 else 1
def ab_D (a b : ab_Ls) : Nat → Nat → Nat
  | 0 => fun j => j
  | i + 1 => ab_Dn (ab_D a b i) (ab_ne a b i) i
theorem ab_D_le (a b : ab_Ls) : ∀ (i j : Nat), ab_D a b i j ≤ i + j
  | 0, j => by show j ≤ 0 + j; omega
  | i + 1, 0 => by show i + 1 ≤ i + 1 + 0; omega
  | i + 1, j + 1 => by
    have h1 := ab_D_le a b i (j + 1)
    have h2 : min (ab_D a b i j + ab_ne a b i j) (min (ab_D a b i (j + 1)) (ab_D a b (i + 1) j) + 1) ≤ ab_D a b i (j + 1) + 1 := by omega
    show min (ab_D a b i j + ab_ne a b i j) (min (ab_D a b i (j + 1)) (ab_D a b (i + 1) j) + 1) ≤ _
    omega
theorem ev_pred {k : Nat} (h : 1 ≤ k) (h2 : k < 2147483647) : Int32.ofNat k - 1 = Int32.ofNat (k - 1) := by
  apply ev_eq_of
  have e1 : (1 : Int32).toInt = 1 := by decide
  have e2 := ev_ofNat_i (n := k) (by omega)
  rw [ev_sub_i (by omega) (by omega), e2, e1, ev_ofNat_i (by omega)]
  omega
theorem ev_minN {a b : Nat} (ha : a < 2147483648) (hb : b < 2147483648) : (if (Int32.ofNat a).toInt ≤ (Int32.ofNat b).toInt then Int32.ofNat a else Int32.ofNat b) = Int32.ofNat (min a b) := by
  rw [ev_ofNat_i ha, ev_ofNat_i hb]
  by_cases h : a ≤ b
  · rw [if_pos (by omega), Nat.min_eq_left h]
  · rw [if_neg (by omega), Nat.min_eq_right (by omega)]
theorem ev_addN {a b : Nat} (h : a + b < 2147483648) : Int32.ofNat a + Int32.ofNat b = Int32.ofNat (a + b) := by
  apply ev_eq_of
  have e1 := ev_ofNat_i (n := a) (by omega)
  have e2 := ev_ofNat_i (n := b) (by omega)
  rw [ev_add_i (by omega) (by omega), e1, e2, ev_ofNat_i h]
  omega
/-- Words.edits -/
theorem ev_S34 {y z e c : Nat} {a b : ab_Ls} (A : ev_all w) (hy : ev_isL y e) (hz : ev_isL z c) (hy8 : y ≠ 208) (hz8 : z ≠ 208) (hy9 : y + 1 ≠ 208) (hz9 : z + 1 ≠ 208) (ha : ab_L m y a) (hb : ab_L m z b) (haz : ab_az a) (hbz : ab_az b) (hae : a.length ≤ e) (hbc : b.length ≤ c) (ha12 : a.length ≤ 12) (hb12 : b.length ≤ 12) (he : e < 5000) (hc : c < 5000)
    (hQ : ∀ m', (∀ k j, k ≠ 208 → m' k j = m k j) → Q (.inl (some (.int (Int32.ofNat (ab_D a b a.length b.length))))) m' t) : ev_K w 34 [.ref 40, .ref y, .ref z] m t Q := by
  have hp : ev_prog[34]? = some ev_m34 := rfl
  have ha1 := ha.1
  have hb1 := hb.1
  have hsa : ∀ mk : ev_Mem, (∀ k j, k ≠ 208 → mk k j = m k j) → (mk y 1).toInt = (a.length : Int) ∧ ∀ i, i < a.length → mk (y + 1) i = a.getD i 0 := fun mk hf => ⟨by rw [hf _ _ hy8]; exact ha1, fun i hi => by rw [hf _ _ hy9]; have h := ha.2 i hi; rwa [Nat.zero_add] at h⟩
  have hsb : ∀ mk : ev_Mem, (∀ k j, k ≠ 208 → mk k j = m k j) → (mk z 1).toInt = (b.length : Int) ∧ ∀ i, i < b.length → mk (z + 1) i = b.getD i 0 := fun mk hf => ⟨by rw [hf _ _ hz8]; exact hb1, fun i hi => by rw [hf _ _ hz9]; have h := hb.2 i hi; rwa [Nat.zero_add] at h⟩
  -- the rows behind the first
  have loopi : ∀ (n i : Nat) (mk : ev_Mem) (o4 o5 o6 : Option Value), i + n = a.length + 1 → 1 ≤ i → (∀ k j, k ≠ 208 → mk k j = m k j) → (∀ k, k ≤ b.length → mk 208 k = Int32.ofNat (ab_D a b (i - 1) k)) →
      ev_J w ev_m34 (ev_nd 34) Q 25 [some (.ref 40), some (.ref y), some (.ref z), some (.int (Int32.ofNat i)), o4, o5, o6] [] mk t := by
    intro n
    induction n with
    | zero =>
      intro i mk o4 o5 o6 hi hi1 hf hrow
      have ei := ev_ofNat_i (n := i) (by omega)
      have sa := (hsa mk hf).1
      have sb := (hsb mk hf).1
      refine ev_gK A hp [142] 10 ?_
      refine ev_S5 A hy ?_
      refine And.intro (fun h => ?_) (fun h => ?_)
      · show ev_J w ev_m34 (ev_nd 34) Q 142 [some (.ref 40), some (.ref y), some (.ref z), some (.int (Int32.ofNat i)), o4, o5, o6] [] mk t
        refine ev_gK A hp [] 10 ?_
        refine ev_S5 A hz ?_
        refine And.intro ⟨by omega, by omega⟩ ?_
        show Q (.inl (some (.int (mk 208 (mk z 1).toNatClampNeg)))) mk t
        have e1 : (mk z 1).toNatClampNeg = b.length := by rw [ev_nat]; omega
        have e2 : i - 1 = a.length := by omega
        rw [e1, hrow _ (Nat.le_refl _), e2]
        exact hQ mk hf
      · have h2 : (Int32.ofNat i).toInt ≤ (mk y 1).toInt := h
        omega
    | succ n ih =>
      intro i mk o4 o5 o6 hi hi1 hf hrow
      have ei := ev_ofNat_i (n := i) (by omega)
      have sa := (hsa mk hf).1
      obtain ⟨i', rfl⟩ : ∃ i', i = i' + 1 := ⟨i - 1, by omega⟩
      have hrow' : ∀ k, k ≤ b.length → mk 208 k = Int32.ofNat (ab_D a b i' k) := hrow
      have loopj : ∀ (n' j : Nat) (ml : ev_Mem) (o6 : Option Value), j + n' = b.length + 1 → 1 ≤ j → (∀ k j, k ≠ 208 → ml k j = m k j) → (∀ k, k < j → ml 208 k = Int32.ofNat (ab_D a b (i' + 1) k)) → (∀ k, j ≤ k → k ≤ b.length → ml 208 k = Int32.ofNat (ab_D a b i' k)) →
          ev_J w ev_m34 (ev_nd 34) Q 51 [some (.ref 40), some (.ref y), some (.ref z), some (.int (Int32.ofNat (i' + 1))), some (.int (Int32.ofNat (ab_D a b i' (j - 1)))), some (.int (Int32.ofNat j)), o6] [] ml t := by
        intro n'
        induction n' with
        | zero =>
          intro j ml o6 hj hj1 hfl hlow hhigh
          have ej := ev_ofNat_i (n := j) (by omega)
          have sb := (hsb ml hfl).1
          refine ev_gK A hp [25] 10 ?_
          refine ev_S5 A hz ?_
          refine And.intro (fun h => ?_) (fun h => ?_)
          · show ev_J w ev_m34 (ev_nd 34) Q 25 [some (.ref 40), some (.ref y), some (.ref z), some (.int (Int32.ofNat (i' + 1) + 1)), some (.int (Int32.ofNat (ab_D a b i' (j - 1)))), some (.int (Int32.ofNat j)), o6] [] ml t
            rw [ev_succ (by omega)]
            exact ih (i' + 1 + 1) ml _ _ _ (by omega) (by omega) hfl (fun k hk => hlow k (by omega))
          · have h2 : (Int32.ofNat j).toInt ≤ (ml z 1).toInt := h
            omega
        | succ n' ihj =>
          intro j ml o6 hj hj1 hfl hlow hhigh
          have ej := ev_ofNat_i (n := j) (by omega)
          obtain ⟨sb, rb⟩ := hsb ml hfl
          obtain ⟨-, ra⟩ := hsa ml hfl
          obtain ⟨j', rfl⟩ : ∃ j', j = j' + 1 := ⟨j - 1, by omega⟩
          have hD1 := ab_D_le a b i' j'
          have hD2 := ab_D_le a b i' (j' + 1)
          have hD3 := ab_D_le a b (i' + 1) j'
          have hne : ab_ne a b i' j' ≤ 1 := by unfold ab_ne; split <;> omega
          have h85 : ∀ cc : Int32, cc = Int32.ofNat (ab_ne a b i' j') → ev_J w ev_m34 (ev_nd 34) Q 85 [some (.ref 40), some (.ref y), some (.ref z), some (.int (Int32.ofNat (i' + 1))), some (.int (Int32.ofNat (ab_D a b i' j'))), some (.int (Int32.ofNat (j' + 1))), o6] [.int cc, .int (Int32.ofNat (ab_D a b i' j'))] ml t := by
            intro cc hcc
            have nj : (Int32.ofNat (j' + 1)).toNatClampNeg = j' + 1 := ev_on (by omega)
            have hinj : ev_in (Int32.ofNat (j' + 1)) 13 := ev_oin (by omega) (by decide)
            refine ev_gK A hp [97] 20 ?_
            refine And.intro hinj ?_
            show ev_J w ev_m34 (ev_nd 34) Q 97 [some (.ref 40), some (.ref y), some (.ref z), some (.int (Int32.ofNat (i' + 1))), some (.int (ml 208 (Int32.ofNat (j' + 1)).toNatClampNeg)), some (.int (Int32.ofNat (j' + 1))), some (.int (Int32.ofNat (ab_D a b i' j') + cc))] [] ml t
            rw [hcc, ev_addN (by omega), nj, hhigh (j' + 1) (Nat.le_refl _) (by omega)]
            refine ev_gK A hp [51] 30 ?_
            refine And.intro hinj ?_
            refine And.intro ?_ ?_
            · show ev_in (Int32.ofNat (j' + 1) - 1) 13
              rw [ev_pred (by omega) (by omega)]
              exact ev_oin (by omega) (by decide)
            show ev_K w 0 [.int (ml 208 (Int32.ofNat (j' + 1)).toNatClampNeg), .int (ml 208 (Int32.ofNat (j' + 1) - 1).toNatClampNeg)] ml t _
            rw [nj, ev_pred (by omega) (by omega), ev_on (by omega), Nat.add_sub_cancel, hhigh (j' + 1) (Nat.le_refl _) (by omega), hlow j' (by omega)]
            refine ev_S0 A ?_
            rw [ev_minN (by omega) (by omega)]
            show ev_K w 0 [.int (Int32.ofNat (ab_D a b i' j' + ab_ne a b i' j')), .int (Int32.ofNat (min (ab_D a b i' (j' + 1)) (ab_D a b (i' + 1) j')) + 1)] ml t _
            rw [ev_succ (by omega)]
            refine ev_S0 A ?_
            rw [ev_minN (by omega) (by omega)]
            refine And.intro hinj ?_
            show ev_J w ev_m34 (ev_nd 34) Q 51 [some (.ref 40), some (.ref y), some (.ref z), some (.int (Int32.ofNat (i' + 1))), some (.int (Int32.ofNat (ab_D a b i' (j' + 1)))), some (.int (Int32.ofNat (j' + 1) + 1)), some (.int (Int32.ofNat (ab_D a b i' j' + ab_ne a b i' j')))] [] (ev_up ml 208 (Int32.ofNat (j' + 1)).toNatClampNeg (Int32.ofNat (ab_D a b (i' + 1) (j' + 1)))) t
            rw [ev_succ (by omega), nj]
            refine ihj (j' + 1 + 1) _ _ (by omega) (by omega) (fun k j hk => by rw [ev_up_cell _ hk]; exact hfl k j hk) (fun k hk => ?_) (fun k h1 h2 => ?_)
            · by_cases hkj : k = j' + 1
              · rw [hkj, ev_up_same]
              · rw [ev_up_idx _ _ hkj]; exact hlow k (by omega)
            · rw [ev_up_idx _ _ (by omega)]; exact hhigh k (by omega) h2
          refine ev_gK A hp [85] 20 ?_
          refine ev_S5 A hz ?_
          refine And.intro (fun h => ?_) (fun h => ?_)
          · have h2 : (ml z 1).toInt < (Int32.ofNat (j' + 1)).toInt := h
            omega
          have hva : ml (y + 1) i' = a.getD i' 0 := ra i' (by omega)
          have hvb : ml (z + 1) j' = b.getD j' 0 := rb j' (by omega)
          show ev_K w 6 [.ref y, .int (Int32.ofNat (i' + 1) - 1)] ml t _
          rw [ev_pred (by omega) (by omega), Nat.add_sub_cancel]
          have ni : (Int32.ofNat i').toNatClampNeg = i' := ev_on (by omega)
          have nj' : (Int32.ofNat j').toNatClampNeg = j' := ev_on (by omega)
          refine ev_S6 A hy (ev_oin (by omega) (by omega)) (by rw [ni, hva]; exact ab_ch haz (ab_getD_mem (by omega))) ?_
          rw [ni, hva]
          show ev_K w 6 [.ref z, .int (Int32.ofNat (j' + 1) - 1)] ml t _
          rw [ev_pred (by omega) (by omega), Nat.add_sub_cancel]
          refine ev_S6 A hz (ev_oin (by omega) (by omega)) (by rw [nj', hvb]; exact ab_ch hbz (ab_getD_mem (by omega))) ?_
          rw [nj', hvb]
          refine And.intro (fun h => ?_) (fun h => ?_)
          · have h2 : ¬ (a.getD i' 0).toInt = (b.getD j' 0).toInt := h
            refine h85 1 ?_
            unfold ab_ne
            rw [if_neg (fun q => h2 (by rw [q]))]
            rfl
          · have h2 : (a.getD i' 0).toInt = (b.getD j' 0).toInt := h
            refine h85 0 ?_
            unfold ab_ne
            rw [if_pos (ev_eq_of h2)]
            rfl
      refine ev_gK A hp [51] 20 ?_
      refine ev_S5 A hy ?_
      refine And.intro (fun h => ?_) (fun h => ?_)
      · have h2 : (mk y 1).toInt < (Int32.ofNat (i' + 1)).toInt := h
        omega
      refine And.intro ⟨by decide, by decide⟩ ?_
      refine And.intro ⟨by decide, by decide⟩ ?_
      show ev_J w ev_m34 (ev_nd 34) Q 51 [some (.ref 40), some (.ref y), some (.ref z), some (.int (Int32.ofNat (i' + 1))), some (.int (mk 208 0)), some (.int (Int32.ofNat 1)), o6] [] (ev_up mk 208 0 (Int32.ofNat (i' + 1))) t
      rw [hrow' 0 (Nat.zero_le _)]
      refine loopj b.length 1 _ _ (by omega) (Nat.le_refl _) (fun k j hk => by rw [ev_up_cell _ hk]; exact hf k j hk) (fun k hk => ?_) (fun k h1 h2 => ?_)
      · have hk0 : k = 0 := by omega
        rw [hk0, ev_up_same]
        rfl
      · rw [ev_up_idx _ _ (by omega)]; exact hrow' k h2
  -- the first row
  have loop0 : ∀ (n j : Nat) (mk : ev_Mem), j + n = b.length + 1 → (∀ k j, k ≠ 208 → mk k j = m k j) → (∀ k, k < j → mk 208 k = Int32.ofNat k) →
      ev_J w ev_m34 (ev_nd 34) Q 2 [some (.ref 40), some (.ref y), some (.ref z), some (.int (Int32.ofNat j)), none, none, none] [] mk t := by
    intro n
    induction n with
    | zero =>
      intro j mk hj hf hlow
      have ej := ev_ofNat_i (n := j) (by omega)
      have sb := (hsb mk hf).1
      refine ev_gK A hp [25] 10 ?_
      refine ev_S5 A hz ?_
      refine And.intro (fun h => ?_) (fun h => ?_)
      · show ev_J w ev_m34 (ev_nd 34) Q 25 [some (.ref 40), some (.ref y), some (.ref z), some (.int (Int32.ofNat 1)), none, none, none] [] mk t
        exact loopi a.length 1 mk _ _ _ (by omega) (Nat.le_refl _) hf (fun k hk => hlow k (by omega))
      · have h2 : (Int32.ofNat j).toInt ≤ (mk z 1).toInt := h
        omega
    | succ n ih =>
      intro j mk hj hf hlow
      have ej := ev_ofNat_i (n := j) (by omega)
      have sb := (hsb mk hf).1
      have nj : (Int32.ofNat j).toNatClampNeg = j := ev_on (by omega)
      refine ev_gK A hp [2] 20 ?_
      refine ev_S5 A hz ?_
      refine And.intro (fun h => ?_) (fun h => ?_)
      · have h2 : (mk z 1).toInt < (Int32.ofNat j).toInt := h
        omega
      refine And.intro (ev_oin (by omega) (by decide)) ?_
      show ev_J w ev_m34 (ev_nd 34) Q 2 [some (.ref 40), some (.ref y), some (.ref z), some (.int (Int32.ofNat j + 1)), none, none, none] [] (ev_up mk 208 (Int32.ofNat j).toNatClampNeg (Int32.ofNat j)) t
      rw [ev_succ (by omega), nj]
      refine ih (j + 1) _ (by omega) (fun k j hk => by rw [ev_up_cell _ hk]; exact hf k j hk) (fun k hk => ?_)
      by_cases hkj : k = j
      · rw [hkj, ev_up_same]
      · rw [ev_up_idx _ _ hkj]; exact hlow k (by omega)
  refine ⟨Or.inr ⟨40, _, rfl, rfl⟩, ev_m34, rfl, ev_gK A hp [2] 10 ?_⟩
  exact loop0 (b.length + 1) 0 m (by omega) (fun _ _ _ => rfl) (fun k hk => absurd hk (Nat.not_lt_zero _))
/-- Words.apart -/
def ab_apart (a b : Option ab_Ls) : Nat := match a, b with
  | some l, some k => min 12 (2 * ab_D l k l.length k.length)
  | _, _ => 4
theorem ev_S33 {x y : Nat} {fo : Nat → Option ab_Ls} (A : ev_all w) (hx : x < 40) (hy : y < 40) (hFO : ab_FO m fo) (hxt : ab_th m x = true) (hyt : ab_th m y = true) (hxz : ∀ l, fo x = some l → ab_az l) (hyz : ∀ l, fo y = some l → ab_az l)
    (hQ : ∀ m', (∀ k j, k ≠ 208 → m' k j = m k j) → Q (.inl (some (.int (Int32.ofNat (if (m 205 x).toInt = (m 205 y).toInt then 0 else ab_apart (fo x) (fo y)))))) m' t) : ev_K w 33 [.ref 40, .int (Int32.ofNat x), .int (Int32.ofNat y)] m t Q := by
  have hp : ev_prog[33]? = some ev_m33 := rfl
  obtain ⟨fx, fx2⟩ := hFO x hx hxt
  obtain ⟨fy, fy2⟩ := hFO y hy hyt
  refine ⟨Or.inr ⟨40, _, rfl, rfl⟩, ev_m33, rfl, ev_gK A hp [11, 27, 29] 10 ?_⟩
  show ev_K w 25 [.ref 40, .int (ab_oi (some x)), .int (ab_oi (some y))] m t _
  refine ev_S25 A (fun z h => by cases h; exact hx) (fun z h => by cases h; exact hy) ?_
  refine And.intro (fun h => ?_) (fun h => ?_)
  · have h1 : ¬ (m 205 x).toInt = (m 205 y).toInt := of_decide_eq_false (ab_bi_eq h)
    rw [if_neg h1] at hQ
    show ev_J w ev_m33 (ev_nd 33) Q 11 [some (.ref 40), some (.int (Int32.ofNat x)), some (.int (Int32.ofNat y))] [] m t
    have h27 : ab_apart (fo x) (fo y) = 4 → ev_J w ev_m33 (ev_nd 33) Q 27 [some (.ref 40), some (.int (Int32.ofNat x)), some (.int (Int32.ofNat y))] [] m t := by
      intro h4
      refine ev_gK A hp [] 10 ?_
      rw [h4] at hQ
      exact hQ m (fun _ _ _ => rfl)
    refine ev_gK A hp [27, 29] 10 ?_
    refine ev_S21 A hx ?_
    refine And.intro (fun h => ?_) (fun h => ?_)
    · have h2 : (m (45 + 4 * x) 1).toInt = -1 := of_decide_eq_true (ab_bi_ne h)
      refine h27 ?_
      cases hfx : fo x with
      | none => rfl
      | some l =>
        rw [hfx] at fx
        have h3 := (show ab_L m (45 + 4 * x) l from fx).1
        omega
    refine ev_S21 A hy ?_
    have h2 : ¬ (m (45 + 4 * x) 1).toInt = -1 := of_decide_eq_false (ab_bi_nne h)
    refine And.intro (fun h => ?_) (fun h => ?_)
    · have h3 : ¬ (m (45 + 4 * y) 1).toInt = -1 := of_decide_eq_false (ab_bi_eq h)
      show ev_J w ev_m33 (ev_nd 33) Q 29 [some (.ref 40), some (.int (Int32.ofNat x)), some (.int (Int32.ofNat y))] [] m t
      cases hfx : fo x with
      | none => rw [hfx] at fx; exact absurd fx h2
      | some l =>
        cases hfy : fo y with
        | none => rw [hfy] at fy; exact absurd fy h3
        | some k =>
          rw [hfx] at fx fx2 hQ
          rw [hfy] at fy fy2 hQ
          have hl12 : l.length ≤ 12 := fx2
          have hk12 : k.length ≤ 12 := fy2
          have hD := ab_D_le l k l.length k.length
          refine ev_gK A hp [] 20 ?_
          refine And.intro (ev_oin hx (by decide)) ?_
          refine And.intro (ev_oin hy (by decide)) ?_
          show ev_K w 34 [.ref 40, .ref (45 + 4 * (Int32.ofNat x).toNatClampNeg), .ref (45 + 4 * (Int32.ofNat y).toNatClampNeg)] m t _
          rw [ev_on (by omega), ev_on (by omega)]
          refine ev_S34 A (ev_isLf hx) (ev_isLf hy) (by omega) (by omega) (by omega) (by omega) fx fy (hxz l hfx) (hyz k hfy) hl12 hk12 hl12 hk12 (by decide) (by decide) (fun m' hf => ?_)
          show ev_K w 0 [.int (Int32.ofNat 12), .int (Int32.ofNat 2 * Int32.ofNat (ab_D l k l.length k.length))] m' t _
          have e2 : Int32.ofNat 2 * Int32.ofNat (ab_D l k l.length k.length) = Int32.ofNat (2 * ab_D l k l.length k.length) := by
            apply ev_eq_of
            have q1 := ev_ofNat_i (n := 2) (by omega)
            have q2 := ev_ofNat_i (n := ab_D l k l.length k.length) (by omega)
            rw [ev_mul_i (by rw [q1, q2]; omega) (by rw [q1, q2]; omega), q1, q2, ev_ofNat_i (by omega)]
            omega
          rw [e2]
          refine ev_S0 A ?_
          rw [ev_minN (by omega) (by omega)]
          exact hQ m' hf
    · have h3 : (m (45 + 4 * y) 1).toInt = -1 := of_decide_eq_true (ab_bi_neq h)
      refine h27 ?_
      cases hfy : fo y with
      | none => cases fo x <;> rfl
      | some l =>
        rw [hfy] at fy
        have h4 := (show ab_L m (45 + 4 * y) l from fy).1
        omega
  · have h1 : (m 205 x).toInt = (m 205 y).toInt := of_decide_eq_true (ab_bi_neq h)
    rw [if_pos h1] at hQ
    exact hQ m (fun _ _ _ => rfl)
end EvEdits
end
section
/-! the class's table: what is asked of it -/
section EvTable
variable {w : ev_W} {Q : ev_QT} {m : ev_Mem} {t : ev_H}
/-- the table: how many places, their cells, choices, the joined, the base -/
abbrev ab_T : Type := Nat × (Nat → Nat → Option Nat) × (Nat → Option Nat) × List Nat × Option Nat
def ab_TC (m : ev_Mem) (T : ab_T) : Prop := (m 209 2).toInt = (T.1 : Int) ∧ (∀ p, p < T.1 → ∀ v, v < 4 → m 210 (4 * p + v) = ab_oi (T.2.1 p v)) ∧ (∀ p, p < T.1 → m 211 p = ab_oi (T.2.2.1 p)) ∧ (m 209 4).toInt = (T.2.2.2.1.length : Int) ∧ (∀ k, k < T.2.2.2.1.length → m 212 k = Int32.ofNat (T.2.2.2.1.getD k 0)) ∧ m 209 5 = ab_oi T.2.2.2.2
def ab_Tok (T : ab_T) : Prop := T.1 ≤ 24 ∧ (∀ p v i, T.2.1 p v = some i → i < 10) ∧ (∀ p v, T.2.2.1 p = some v → v < 4) ∧ T.2.2.2.1.length ≤ 4 ∧ (∀ v ∈ T.2.2.2.1, v < 4) ∧ (∀ v, T.2.2.2.2 = some v → v < 4)
theorem ab_oi_some {a : Option Nat} {x : Nat} (h : a = some x) : ab_oi a = Int32.ofNat x := by rw [h]; rfl
theorem ev_im1 : (Int32.ofInt (-1)).toInt = -1 := by decide
/-- Table.count -/
theorem ev_S36 (A : ev_all w) (hQ : Q (.inl (some (.int (m 209 2)))) m t) : ev_K w 36 [.ref 209] m t Q :=
  ⟨Or.inr ⟨209, [], rfl, rfl⟩, ev_m36, rfl, ev_gK A (k := 36) rfl [] 20 hQ⟩
theorem ev_cellN {p v : Nat} (hp : p < 1000) (hv : v < 1000) : Int32.ofNat p * 4 + Int32.ofNat v = Int32.ofNat (4 * p + v) := by
  apply ev_eq_of
  have e4 : (4 : Int32).toInt = 4 := by decide
  have ea := ev_ofNat_i (n := p) (by omega)
  have eb := ev_ofNat_i (n := v) (by omega)
  have e1 : (Int32.ofNat p * 4).toInt = (p : Int) * 4 := by rw [ev_mul_i (by rw [ea, e4]; omega) (by rw [ea, e4]; omega), ea, e4]
  rw [ev_add_i (by omega) (by omega), e1, eb, ev_ofNat_i (by omega)]
  omega
/-- Table.cell -/
theorem ev_S39 {p v : Nat} (A : ev_all w) (hp24 : p < 24) (hv : v < 4) (hQ : Q (.inl (some (.int (m 210 (4 * p + v))))) m t) : ev_K w 39 [.ref 209, .int (Int32.ofNat p), .int (Int32.ofNat v)] m t Q := by
  have hp : ev_prog[39]? = some ev_m39 := rfl
  refine ⟨Or.inr ⟨209, _, rfl, rfl⟩, ev_m39, rfl, ev_gK A hp [] 7 ?_⟩
  show ev_J w ev_m39 (ev_nd 39) Q 9 [some (.ref 209), some (.int (Int32.ofNat p)), some (.int (Int32.ofNat v))] [.int (Int32.ofNat p * 4 + Int32.ofNat v), .ref 210] m t
  rw [ev_cellN (by omega) (by omega)]
  refine ev_gK A hp [] 10 ?_
  refine And.intro (ev_oin (by omega) (by decide)) ?_
  show Q (.inl (some (.int (m 210 (Int32.ofNat (4 * p + v)).toNatClampNeg)))) m t
  rw [ev_on (by omega)]
  exact hQ
/-- Table.putCell -/
theorem ev_S42 {p v : Nat} {x : Int32} (A : ev_all w) (hp24 : p < 24) (hv : v < 4) (hQ : Q (.inl none) (ev_up m 210 (4 * p + v) x) t) : ev_K w 42 [.ref 209, .int (Int32.ofNat p), .int (Int32.ofNat v), .int x] m t Q := by
  have hp : ev_prog[42]? = some ev_m42 := rfl
  refine ⟨Or.inr ⟨209, _, rfl, rfl⟩, ev_m42, rfl, ev_gK A hp [] 8 ?_⟩
  show ev_J w ev_m42 (ev_nd 42) Q 10 [some (.ref 209), some (.int (Int32.ofNat p)), some (.int (Int32.ofNat v)), some (.int x)] [.int x, .int (Int32.ofNat p * 4 + Int32.ofNat v), .ref 210] m t
  rw [ev_cellN (by omega) (by omega)]
  refine ev_gK A hp [] 10 ?_
  refine And.intro (ev_oin (by omega) (by decide)) ?_
  show Q (.inl none) (ev_up m 210 (Int32.ofNat (4 * p + v)).toNatClampNeg x) t
  rw [ev_on (by omega)]
  exact hQ
/-- Table.numberAt -/
def ab_num (v : Nat) (o : Option Nat) : Option Nat := o.map (fun i => 10 * v + i)
theorem ev_S38 {p v : Nat} {o : Option Nat} (A : ev_all w) (hp24 : p < 24) (hv : v < 4) (ho : m 210 (4 * p + v) = ab_oi o) (ho10 : ∀ i, o = some i → i < 10) (hQ : Q (.inl (some (.int (ab_oi (ab_num v o))))) m t) : ev_K w 38 [.ref 209, .int (Int32.ofNat p), .int (Int32.ofNat v)] m t Q := by
  have hp : ev_prog[38]? = some ev_m38 := rfl
  refine ⟨Or.inr ⟨209, _, rfl, rfl⟩, ev_m38, rfl, ev_gK A hp [] 20 ?_⟩
  refine ev_S39 A hp24 hv ?_
  rw [ho]
  refine And.intro (fun h => ?_) (fun h => ?_)
  · have h2 : ¬ (ab_oi o).toInt = (Int32.ofInt (-1)).toInt := h
    cases o with
    | none => exact absurd rfl h2
    | some i =>
      show ev_K w 106 [.int (Int32.ofNat v), .int (Int32.ofNat i)] m t _
      have hi := ho10 i rfl
      exact ev_S106 A (by omega) (by omega) hQ
  · have h2 : (ab_oi o).toInt = (Int32.ofInt (-1)).toInt := h
    rw [ev_im1] at h2
    have h3 := (ab_oi_m1 (fun x hx => by have := ho10 x hx; omega)).mp h2
    rw [h3] at hQ
    exact hQ
/-- Table.isJoined: any number is asked -/
def ab_isJ (js : List Nat) (x : Int32) : Bool := js.any (fun v => decide (Int32.ofNat v = x))
theorem ev_S40 {x : Int32} {T : ab_T} (A : ev_all w) (hT : ab_TC m T) (hok : ab_Tok T) (hQ : Q (.inl (some (.int (ab_bi (ab_isJ T.2.2.2.1 x))))) m t) : ev_K w 40 [.ref 209, .int x] m t Q := by
  have hp : ev_prog[40]? = some ev_m40 := rfl
  obtain ⟨-, -, -, t4, t5, -⟩ := hT
  obtain ⟨-, -, -, k4, -, -⟩ := hok
  generalize T.2.2.2.1 = js at *
  have loop : ∀ (n k : Nat), k + n = js.length → ab_isJ js x = ab_isJ (js.drop k) x → ev_J w ev_m40 (ev_nd 40) Q 2 [some (.ref 209), some (.int x), some (.int (Int32.ofNat k))] [] m t := by
    intro n
    induction n with
    | zero =>
      intro k hk hall
      have ek := ev_ofNat_i (n := k) (by omega)
      refine ev_gK A hp [] 10 ?_
      refine And.intro (fun h => ?_) (fun h => ?_)
      · rw [List.drop_of_length_le (by omega)] at hall
        rw [hall] at hQ
        exact ⟨rfl, hQ⟩
      · have h2 : (Int32.ofNat k).toInt < (m 209 4).toInt := h
        omega
    | succ n ih =>
      intro k hk hall
      have ek := ev_ofNat_i (n := k) (by omega)
      have hk' : k < js.length := by omega
      have nk : (Int32.ofNat k).toNatClampNeg = k := ev_on (by omega)
      have hv : m 212 k = Int32.ofNat (js.getD k 0) := t5 k hk'
      rw [List.drop_eq_getElem_cons hk'] at hall
      have eg : js.getD k 0 = js[k] := by rw [List.getD_eq_getElem?_getD, List.getElem?_eq_getElem hk']; rfl
      refine ev_gK A hp [2] 20 ?_
      refine And.intro (fun h => ?_) (fun h => ?_)
      · have h2 : (m 209 4).toInt ≤ (Int32.ofNat k).toInt := h
        omega
      refine And.intro (ev_oin (by omega) (by decide)) ?_
      refine And.intro (fun h => ?_) (fun h => ?_)
      · have h2 : ¬ (m 212 (Int32.ofNat k).toNatClampNeg).toInt = x.toInt := h
        rw [nk, hv, eg] at h2
        show ev_J w ev_m40 (ev_nd 40) Q 2 [some (.ref 209), some (.int x), some (.int (Int32.ofNat k + 1))] [] m t
        rw [ev_succ (by omega)]
        refine ih (k + 1) (by omega) (hall.trans ?_)
        unfold ab_isJ
        rw [List.any_cons, decide_eq_false (fun q => h2 (by rw [q])), Bool.false_or]
      · have h2 : (m 212 (Int32.ofNat k).toNatClampNeg).toInt = x.toInt := h
        rw [nk, hv, eg] at h2
        unfold ab_isJ at hall hQ
        rw [List.any_cons, decide_eq_true (ev_eq_of h2), Bool.true_or] at hall
        rw [hall] at hQ
        exact ⟨rfl, hQ⟩
  refine ⟨Or.inr ⟨209, _, rfl, rfl⟩, ev_m40, rfl, ev_gK A hp [2] 10 ?_⟩
  exact loop js.length 0 (by omega) rfl
/-- Table.lastJoined -/
theorem ev_S45 {T : ab_T} (A : ev_all w) (hT : ab_TC m T) (hok : ab_Tok T) (hQ : Q (.inl (some (.int (ab_oi T.2.2.2.1.getLast?)))) m t) : ev_K w 45 [.ref 209] m t Q := by
  have hp : ev_prog[45]? = some ev_m45 := rfl
  obtain ⟨-, -, -, t4, t5, -⟩ := hT
  obtain ⟨-, -, -, k4, -, -⟩ := hok
  generalize T.2.2.2.1 = js at *
  have e4 : m 209 4 = Int32.ofNat js.length := by
    apply ev_eq_of
    rw [t4, ev_ofNat_i (by omega)]
  refine ⟨Or.inr ⟨209, _, rfl, rfl⟩, ev_m45, rfl, ev_gK A hp [11] 10 ?_⟩
  refine And.intro (fun h => ?_) (fun h => ?_)
  · have h2 : ¬ (m 209 4).toInt = 0 := h
    show ev_J w ev_m45 (ev_nd 45) Q 11 [some (.ref 209)] [] m t
    refine ev_gK A hp [] 6 ?_
    show ev_J w ev_m45 (ev_nd 45) Q 21 [some (.ref 209)] [.int (m 209 4 - 1), .ref 212] m t
    rw [e4, ev_pred (by omega) (by omega)]
    refine ev_gK A hp [] 6 ?_
    refine And.intro (ev_oin (by omega) (by decide)) ?_
    show Q (.inl (some (.int (m 212 (Int32.ofNat (js.length - 1)).toNatClampNeg)))) m t
    rw [ev_on (by omega), t5 _ (by omega)]
    rw [List.getLast?_eq_getElem?, List.getElem?_eq_getElem (by omega)] at hQ
    rw [List.getD_eq_getElem?_getD, List.getElem?_eq_getElem (by omega)]
    exact hQ
  · have h2 : (m 209 4).toInt = 0 := h
    have h3 : js = [] := List.eq_nil_of_length_eq_zero (by omega)
    rw [h3] at hQ
    exact hQ
/-- Table.lemma -/
def ab_lem (T : ab_T) (p : Nat) : Option Nat := match (match T.2.2.1 p with | none => T.2.2.2.2 | some v => some v) with
  | none => none
  | some v => ab_num v (T.2.1 p v)
theorem ev_S37 {p : Nat} {T : ab_T} (A : ev_all w) (hT : ab_TC m T) (hok : ab_Tok T) (hpn : p < T.1) (hQ : Q (.inl (some (.int (ab_oi (ab_lem T p))))) m t) : ev_K w 37 [.ref 209, .int (Int32.ofNat p)] m t Q := by
  have hp : ev_prog[37]? = some ev_m37 := rfl
  obtain ⟨t1, t2, t3, -, -, t6⟩ := hT
  obtain ⟨k1, k2, k3, -, -, k6⟩ := hok
  have np : (Int32.ofNat p).toNatClampNeg = p := ev_on (by omega)
  have hin : ev_in (Int32.ofNat p) 24 := ev_oin (by omega) (by decide)
  have hc : m 211 p = ab_oi (T.2.2.1 p) := t3 p hpn
  have h24 : ∀ r : Option Nat, (∀ v, r = some v → v < 4) → (match r with | none => none | some v => ab_num v (T.2.1 p v)) = ab_lem T p → ev_J w ev_m37 (ev_nd 37) Q 24 [some (.ref 209), some (.int (Int32.ofNat p)), some (.int (ab_oi r))] [] m t := by
    intro r hr hl
    refine ev_gK A hp [] 20 ?_
    refine And.intro (fun h => ?_) (fun h => ?_)
    · have h2 : ¬ (ab_oi r).toInt = (Int32.ofInt (-1)).toInt := h
      cases r with
      | none => exact absurd rfl h2
      | some v =>
        show ev_K w 38 [.ref 209, .int (Int32.ofNat p), .int (Int32.ofNat v)] m t _
        refine ev_S38 A (by omega) (hr v rfl) (t2 p hpn v (hr v rfl)) (fun i hi => k2 p v i hi) ?_
        dsimp only at hl
        rw [hl]
        exact hQ
    · have h2 : (ab_oi r).toInt = (Int32.ofInt (-1)).toInt := h
      rw [ev_im1] at h2
      have h3 := (ab_oi_m1 (fun x hx => by have := hr x hx; omega)).mp h2
      rw [h3] at hl
      dsimp only at hl
      rw [← hl] at hQ
      exact hQ
  refine ⟨Or.inr ⟨209, _, rfl, rfl⟩, ev_m37, rfl, ev_gK A hp [10, 17, 24] 10 ?_⟩
  refine And.intro hin ?_
  refine And.intro (fun h => ?_) (fun h => ?_)
  · have h2 : ¬ (m 211 (Int32.ofNat p).toNatClampNeg).toInt = (Int32.ofInt (-1)).toInt := h
    rw [np, hc] at h2
    show ev_J w ev_m37 (ev_nd 37) Q 17 [some (.ref 209), some (.int (Int32.ofNat p)), none] [] m t
    refine ev_gK A hp [24] 10 ?_
    refine And.intro hin ?_
    show ev_J w ev_m37 (ev_nd 37) Q 24 [some (.ref 209), some (.int (Int32.ofNat p)), some (.int (m 211 (Int32.ofNat p).toNatClampNeg))] [] m t
    rw [np, hc]
    refine h24 _ (fun v hv => k3 p v hv) ?_
    unfold ab_lem
    cases hch : T.2.2.1 p with
    | none => rw [hch] at h2; exact absurd rfl h2
    | some v => rfl
  · have h2 : (m 211 (Int32.ofNat p).toNatClampNeg).toInt = (Int32.ofInt (-1)).toInt := h
    rw [np, hc, ev_im1] at h2
    have h3 := (ab_oi_m1 (fun x hx => by have := k3 p x hx; omega)).mp h2
    show ev_J w ev_m37 (ev_nd 37) Q 10 [some (.ref 209), some (.int (Int32.ofNat p)), none] [] m t
    refine ev_gK A hp [24] 10 ?_
    show ev_J w ev_m37 (ev_nd 37) Q 24 [some (.ref 209), some (.int (Int32.ofNat p)), some (.int (m 209 5))] [] m t
    rw [t6]
    refine h24 _ (fun v hv => k6 v hv) ?_
    unfold ab_lem
    rw [h3]
end EvTable
end
section
/-! the class's table: places set and searched -/
section EvTable2
variable {w : ev_W} {Q : ev_QT} {m : ev_Mem} {t : ev_H}
theorem ev_i4 : (Int32.ofInt 4).toInt = 4 := by decide
/-- the first n cells of place p set -/
def ab_setn (m : ev_Mem) (p n : Nat) (f : Nat → Int32) : ev_Mem := fun k j => if k = 210 ∧ 4 * p ≤ j ∧ j < 4 * p + n then f (j - 4 * p) else m k j
theorem ab_setn_succ (m : ev_Mem) (p n : Nat) (f : Nat → Int32) : ev_up (ab_setn m p n f) 210 (4 * p + n) (f n) = ab_setn m p (n + 1) f := by
  funext k j
  unfold ev_up ab_setn
  by_cases h1 : k = 210 ∧ j = 4 * p + n
  · have e1 : j - 4 * p = n := by omega
    rw [if_pos h1, if_pos ⟨h1.1, by omega, by omega⟩, e1]
  · rw [if_neg h1]
    by_cases h2 : k = 210 ∧ 4 * p ≤ j ∧ j < 4 * p + n
    · rw [if_pos h2, if_pos ⟨h2.1, h2.2.1, by omega⟩]
    · rw [if_neg h2, if_neg (fun q => h2 ⟨q.1, q.2.1, by have hne : j ≠ 4 * p + n := fun e => h1 ⟨q.1, e⟩; have := q.2.2; omega⟩)]
theorem ab_setn_zero (m : ev_Mem) (p : Nat) (f : Nat → Int32) : ab_setn m p 0 f = m := by
  funext k j
  unfold ab_setn
  rw [if_neg (fun q => by omega)]
/-- place p with these cells and this choice -/
def ab_setp (m : ev_Mem) (p : Nat) (f : Nat → Int32) (c : Int32) : ev_Mem := ev_up (ab_setn m p 4 f) 211 p c
/-- Table.clearPlace -/
theorem ev_S41 {p : Nat} (A : ev_all w) (hp24 : p < 24) (hQ : Q (.inl none) (ab_setp m p (fun _ => -1) (-1)) t) : ev_K w 41 [.ref 209, .int (Int32.ofNat p)] m t Q := by
  have hp : ev_prog[41]? = some ev_m41 := rfl
  have loop : ∀ (n k : Nat), k + n = 4 → ev_J w ev_m41 (ev_nd 41) Q 2 [some (.ref 209), some (.int (Int32.ofNat p)), some (.int (Int32.ofNat k))] [] (ab_setn m p k (fun _ => -1)) t := by
    intro n
    induction n with
    | zero =>
      intro k hk
      have ek := ev_ofNat_i (n := k) (by omega)
      have i4 := ev_i4
      refine ev_gK A hp [] 10 ?_
      refine And.intro (fun h => ?_) (fun h => ?_)
      · refine And.intro (ev_oin hp24 (by decide)) ?_
        show Q (.inl none) (ev_up (ab_setn m p k (fun _ => -1)) 211 (Int32.ofNat p).toNatClampNeg (-1)) t
        have hk4 : k = 4 := by omega
        rw [ev_on (by omega), hk4]
        exact hQ
      · have h2 : (Int32.ofNat k).toInt < (Int32.ofInt 4).toInt := h
        omega
    | succ n ih =>
      intro k hk
      have ek := ev_ofNat_i (n := k) (by omega)
      have i4 := ev_i4
      refine ev_gK A hp [2] 20 ?_
      refine And.intro (fun h => ?_) (fun h => ?_)
      · have h2 : (Int32.ofInt 4).toInt ≤ (Int32.ofNat k).toInt := h
        omega
      show ev_K w 42 [.ref 209, .int (Int32.ofNat p), .int (Int32.ofNat k), .int (-1)] (ab_setn m p k (fun _ => -1)) t _
      refine ev_S42 A hp24 (by omega) ?_
      show ev_J w ev_m41 (ev_nd 41) Q 2 [some (.ref 209), some (.int (Int32.ofNat p)), some (.int (Int32.ofNat k + 1))] [] (ev_up (ab_setn m p k (fun _ => -1)) 210 (4 * p + k) ((fun _ => -1 : Nat → Int32) k)) t
      rw [ev_succ (by omega), ab_setn_succ]
      exact ih (k + 1) (by omega)
  refine ⟨Or.inr ⟨209, _, rfl, rfl⟩, ev_m41, rfl, ev_gK A hp [2] 10 ?_⟩
  have h1 := loop 4 0 rfl
  rw [ab_setn_zero] at h1
  exact h1
/-- Table.copyPlace -/
theorem ev_S43 {a p : Nat} (A : ev_all w) (ha24 : a < 24) (hp24 : p < 24) (hQ : Q (.inl none) (ab_setp m p (fun v => m 210 (4 * a + v)) (m 211 a)) t) : ev_K w 43 [.ref 209, .int (Int32.ofNat a), .int (Int32.ofNat p)] m t Q := by
  have hp : ev_prog[43]? = some ev_m43 := rfl
  have loop : ∀ (n k : Nat), k + n = 4 → ev_J w ev_m43 (ev_nd 43) Q 2 [some (.ref 209), some (.int (Int32.ofNat a)), some (.int (Int32.ofNat p)), some (.int (Int32.ofNat k))] [] (ab_setn m p k (fun v => m 210 (4 * a + v))) t := by
    intro n
    induction n with
    | zero =>
      intro k hk
      have ek := ev_ofNat_i (n := k) (by omega)
      have i4 := ev_i4
      refine ev_gK A hp [] 20 ?_
      refine And.intro (fun h => ?_) (fun h => ?_)
      · refine And.intro (ev_oin ha24 (by decide)) ?_
        refine And.intro (ev_oin hp24 (by decide)) ?_
        show Q (.inl none) (ev_up (ab_setn m p k (fun v => m 210 (4 * a + v))) 211 (Int32.ofNat p).toNatClampNeg (ab_setn m p k (fun v => m 210 (4 * a + v)) 211 (Int32.ofNat a).toNatClampNeg)) t
        have hk4 : k = 4 := by omega
        have e1 : ab_setn m p k (fun v => m 210 (4 * a + v)) 211 a = m 211 a := if_neg (fun q => by omega)
        rw [ev_on (by omega), ev_on (by omega), e1, hk4]
        exact hQ
      · have h2 : (Int32.ofNat k).toInt < (Int32.ofInt 4).toInt := h
        omega
    | succ n ih =>
      intro k hk
      have ek := ev_ofNat_i (n := k) (by omega)
      have i4 := ev_i4
      refine ev_gK A hp [2] 20 ?_
      refine And.intro (fun h => ?_) (fun h => ?_)
      · have h2 : (Int32.ofInt 4).toInt ≤ (Int32.ofNat k).toInt := h
        omega
      show ev_K w 39 [.ref 209, .int (Int32.ofNat a), .int (Int32.ofNat k)] (ab_setn m p k (fun v => m 210 (4 * a + v))) t _
      refine ev_S39 A ha24 (by omega) ?_
      have e1 : ab_setn m p k (fun v => m 210 (4 * a + v)) 210 (4 * a + k) = m 210 (4 * a + k) := if_neg (fun q => by omega)
      rw [e1]
      show ev_K w 42 [.ref 209, .int (Int32.ofNat p), .int (Int32.ofNat k), .int (m 210 (4 * a + k))] (ab_setn m p k (fun v => m 210 (4 * a + v))) t _
      refine ev_S42 A hp24 (by omega) ?_
      show ev_J w ev_m43 (ev_nd 43) Q 2 [some (.ref 209), some (.int (Int32.ofNat a)), some (.int (Int32.ofNat p)), some (.int (Int32.ofNat k + 1))] [] (ev_up (ab_setn m p k (fun v => m 210 (4 * a + v))) 210 (4 * p + k) ((fun v => m 210 (4 * a + v)) k)) t
      rw [ev_succ (by omega), ab_setn_succ]
      exact ih (k + 1) (by omega)
  refine ⟨Or.inr ⟨209, _, rfl, rfl⟩, ev_m43, rfl, ev_gK A hp [2] 10 ?_⟩
  have h1 := loop 4 0 rfl
  rw [ab_setn_zero] at h1
  exact h1
/-- Table.hasWords -/
theorem ev_S47 {p : Nat} (A : ev_all w) (hp24 : p < 24) (ht : (∃ v, v < 4 ∧ ¬ (m 210 (4 * p + v)).toInt = -1) → Q (.inl (some (.int 1))) m t) (hn : (∀ v, v < 4 → (m 210 (4 * p + v)).toInt = -1) → Q (.inl (some (.int 0))) m t) : ev_K w 47 [.ref 209, .int (Int32.ofNat p)] m t Q := by
  have hp : ev_prog[47]? = some ev_m47 := rfl
  have loop : ∀ (n k : Nat), k + n = 4 → (∀ v, v < k → (m 210 (4 * p + v)).toInt = -1) → ev_J w ev_m47 (ev_nd 47) Q 2 [some (.ref 209), some (.int (Int32.ofNat p)), some (.int (Int32.ofNat k))] [] m t := by
    intro n
    induction n with
    | zero =>
      intro k hk hall
      have ek := ev_ofNat_i (n := k) (by omega)
      have i4 := ev_i4
      refine ev_gK A hp [] 10 ?_
      refine And.intro (fun h => ?_) (fun h => ?_)
      · exact ⟨rfl, hn (fun v hv => hall v (by omega))⟩
      · have h2 : (Int32.ofNat k).toInt < (Int32.ofInt 4).toInt := h
        omega
    | succ n ih =>
      intro k hk hall
      have ek := ev_ofNat_i (n := k) (by omega)
      have i4 := ev_i4
      refine ev_gK A hp [2] 20 ?_
      refine And.intro (fun h => ?_) (fun h => ?_)
      · have h2 : (Int32.ofInt 4).toInt ≤ (Int32.ofNat k).toInt := h
        omega
      show ev_K w 39 [.ref 209, .int (Int32.ofNat p), .int (Int32.ofNat k)] m t _
      refine ev_S39 A hp24 (by omega) ?_
      refine And.intro (fun h => ?_) (fun h => ?_)
      · have h2 : (m 210 (4 * p + k)).toInt = (Int32.ofInt (-1)).toInt := h
        rw [ev_im1] at h2
        show ev_J w ev_m47 (ev_nd 47) Q 2 [some (.ref 209), some (.int (Int32.ofNat p)), some (.int (Int32.ofNat k + 1))] [] m t
        rw [ev_succ (by omega)]
        refine ih (k + 1) (by omega) (fun v hv => ?_)
        rcases Nat.lt_or_eq_of_le (Nat.le_of_lt_succ hv) with q | q
        · exact hall v q
        · rw [q]; exact h2
      · have h2 : ¬ (m 210 (4 * p + k)).toInt = (Int32.ofInt (-1)).toInt := h
        rw [ev_im1] at h2
        exact ⟨rfl, ht ⟨k, by omega, h2⟩⟩
  refine ⟨Or.inr ⟨209, _, rfl, rfl⟩, ev_m47, rfl, ev_gK A hp [2] 10 ?_⟩
  exact loop 4 0 rfl (fun v hv => absurd hv (Nat.not_lt_zero _))
/-- Table.setChoice -/
theorem ev_S50 {p : Nat} {x : Int32} (A : ev_all w) (hp24 : p < 24) (hQ : Q (.inl none) (ev_up m 211 p x) t) : ev_K w 50 [.ref 209, .int (Int32.ofNat p), .int x] m t Q := by
  have hp : ev_prog[50]? = some ev_m50 := rfl
  refine ⟨Or.inr ⟨209, _, rfl, rfl⟩, ev_m50, rfl, ev_gK A hp [] 10 ?_⟩
  refine And.intro (ev_oin hp24 (by decide)) ?_
  show Q (.inl none) (ev_up m 211 (Int32.ofNat p).toNatClampNeg x) t
  rw [ev_on (by omega)]
  exact hQ
/-- Table.neighbour -/
theorem ev_S48 {u v : Nat} {i : Nat} {T : ab_T} (A : ev_all w) (hT : ab_TC m T) (hok : ab_Tok T) (hu : u < 4) (hv : v < 4) (hi : i < 100)
    (hQ : Q (.inl (some (.int (ab_oi (match (List.range T.1).find? (fun p => decide (T.2.1 p u = some i)) with | some p => T.2.1 p v | none => none))))) m t) : ev_K w 48 [.ref 209, .int (Int32.ofNat u), .int (Int32.ofNat i), .int (Int32.ofNat v)] m t Q := by
  have hp : ev_prog[48]? = some ev_m48 := rfl
  obtain ⟨t1, t2, -, -, -, -⟩ := hT
  obtain ⟨k1, k2, -, -, -, -⟩ := hok
  have loop : ∀ (n k : Nat), k + n = T.1 → (List.range T.1).find? (fun p => decide (T.2.1 p u = some i)) = ((List.range T.1).drop k).find? (fun p => decide (T.2.1 p u = some i)) → ev_J w ev_m48 (ev_nd 48) Q 3 [some (.ref 209), some (.int (Int32.ofNat u)), some (.int (Int32.ofNat i)), some (.int (Int32.ofNat v)), some (.int (Int32.ofNat k))] [] m t := by
    intro n
    induction n with
    | zero =>
      intro k hk hall
      have ek := ev_ofNat_i (n := k) (by omega)
      refine ev_gK A hp [] 10 ?_
      refine And.intro (fun h => ?_) (fun h => ?_)
      · rw [List.drop_of_length_le (by rw [List.length_range]; omega)] at hall
        rw [hall] at hQ
        exact hQ
      · have h2 : (Int32.ofNat k).toInt < (m 209 2).toInt := h
        omega
    | succ n ih =>
      intro k hk hall
      have ek := ev_ofNat_i (n := k) (by omega)
      have hk' : k < T.1 := by omega
      have ei := ev_ofNat_i (n := i) (by omega)
      rw [List.drop_eq_getElem_cons (by rw [List.length_range]; exact hk'), List.getElem_range, List.find?_cons] at hall
      refine ev_gK A hp [3] 20 ?_
      refine And.intro (fun h => ?_) (fun h => ?_)
      · have h2 : (m 209 2).toInt ≤ (Int32.ofNat k).toInt := h
        omega
      show ev_K w 39 [.ref 209, .int (Int32.ofNat k), .int (Int32.ofNat u)] m t _
      refine ev_S39 A (by omega) hu ?_
      rw [t2 k hk' u hu]
      refine And.intro (fun h => ?_) (fun h => ?_)
      · have h2 : ¬ (ab_oi (T.2.1 k u)).toInt = (ab_oi (some i)).toInt := h
        show ev_J w ev_m48 (ev_nd 48) Q 3 [some (.ref 209), some (.int (Int32.ofNat u)), some (.int (Int32.ofNat i)), some (.int (Int32.ofNat v)), some (.int (Int32.ofNat k + 1))] [] m t
        rw [ev_succ (by omega)]
        rw [decide_eq_false (fun q => h2 (by rw [q]))] at hall
        exact ih (k + 1) (by omega) hall
      · have h2 : (ab_oi (T.2.1 k u)).toInt = (ab_oi (some i)).toInt := h
        have h3 : T.2.1 k u = some i := ab_oi_inj (fun x hx => by have := k2 k u x hx; omega) (fun x hx => by cases hx; omega) h2
        rw [decide_eq_true h3] at hall
        show ev_K w 39 [.ref 209, .int (Int32.ofNat k), .int (Int32.ofNat v)] m t _
        refine ev_S39 A (by omega) hv ?_
        rw [t2 k hk' v hv]
        rw [hall] at hQ
        exact hQ
  refine ⟨Or.inr ⟨209, _, rfl, rfl⟩, ev_m48, rfl, ev_gK A hp [3] 10 ?_⟩
  exact loop T.1 0 (by omega) rfl
end EvTable2
end
section
/-! the class's table: rebased, one more joined -/
section EvTable3
variable {w : ev_W} {Q : ev_QT} {m : ev_Mem} {t : ev_H}
def ab_fill (m : ev_Mem) (c n : Nat) (v : Int32) : ev_Mem := fun k j => if k = c ∧ j < n then v else m k j
/-- Arrays.fill -/
theorem ev_S2_211 {v : Int32} (A : ev_all w) (hQ : Q (.inl none) (ab_fill m 211 24 v) t) : ev_K w 2 [.ref 211, .int v] m t Q := by
  have hp : ev_prog[2]? = some ev_m2 := rfl
  have i24 : (Int32.ofNat 24).toInt = 24 := by decide
  have loop : ∀ (n i : Nat), i + n = 24 → ev_J w ev_m2 (ev_nd 2) Q 5 [some (.ref 211), some (.int v), some (.int (Int32.ofNat i)), some (.int (Int32.ofNat 24))] [] (ab_fill m 211 i v) t := by
    intro n
    induction n with
    | zero =>
      intro i hi
      have ei := ev_ofNat_i (n := i) (by omega)
      refine ev_gK A hp [] 10 ?_
      refine And.intro (fun h => ?_) (fun h => ?_)
      · have h24 : i = 24 := by omega
        rw [h24]
        exact hQ
      · have h2 : (Int32.ofNat i).toInt < (Int32.ofNat 24).toInt := h
        omega
    | succ n ih =>
      intro i hi
      have ei := ev_ofNat_i (n := i) (by omega)
      refine ev_gK A hp [5] 10 ?_
      refine And.intro (fun h => ?_) (fun h => ?_)
      · have h2 : (Int32.ofNat 24).toInt ≤ (Int32.ofNat i).toInt := h
        omega
      refine And.intro (ev_oin (by omega) (by decide)) ?_
      show ev_J w ev_m2 (ev_nd 2) Q 5 [some (.ref 211), some (.int v), some (.int (Int32.ofNat i + 1)), some (.int (Int32.ofNat 24))] [] (ev_up (ab_fill m 211 i v) 211 (Int32.ofNat i).toNatClampNeg v) t
      have e1 : ev_up (ab_fill m 211 i v) 211 i v = ab_fill m 211 (i + 1) v := by
        funext k j
        unfold ev_up ab_fill
        by_cases h1 : k = 211 ∧ j = i
        · rw [if_pos h1, if_pos ⟨h1.1, by omega⟩]
        · rw [if_neg h1]
          by_cases h2 : k = 211 ∧ j < i
          · rw [if_pos h2, if_pos ⟨h2.1, by omega⟩]
          · rw [if_neg h2, if_neg (fun q => h2 ⟨q.1, by have hne : j ≠ i := fun e => h1 ⟨q.1, e⟩; have := q.2; omega⟩)]
      rw [ev_on (by omega), ev_succ (by omega), e1]
      exact ih (i + 1) (by omega)
  refine ⟨Or.inl rfl, ev_m2, rfl, ev_gK A hp [5] 10 ?_⟩
  show ev_J w ev_m2 (ev_nd 2) Q 5 [some (.ref 211), some (.int v), some (.int (Int32.ofNat 0)), some (.int (Int32.ofNat 24))] [] m t
  have e0 : ab_fill m 211 0 v = m := by
    funext k j
    unfold ab_fill
    rw [if_neg (fun q => absurd q.2 (Nat.not_lt_zero _))]
  have h1 := loop 24 0 rfl
  rw [e0] at h1
  exact h1
/-- Arrays.fill -/
theorem ev_S2_269 {v : Int32} (A : ev_all w) (hQ : Q (.inl none) (ab_fill m 269 24 v) t) : ev_K w 2 [.ref 269, .int v] m t Q := by
  have hp : ev_prog[2]? = some ev_m2 := rfl
  have i24 : (Int32.ofNat 24).toInt = 24 := by decide
  have loop : ∀ (n i : Nat), i + n = 24 → ev_J w ev_m2 (ev_nd 2) Q 5 [some (.ref 269), some (.int v), some (.int (Int32.ofNat i)), some (.int (Int32.ofNat 24))] [] (ab_fill m 269 i v) t := by
    intro n
    induction n with
    | zero =>
      intro i hi
      have ei := ev_ofNat_i (n := i) (by omega)
      refine ev_gK A hp [] 10 ?_
      refine And.intro (fun h => ?_) (fun h => ?_)
      · have h24 : i = 24 := by omega
        rw [h24]
        exact hQ
      · have h2 : (Int32.ofNat i).toInt < (Int32.ofNat 24).toInt := h
        omega
    | succ n ih =>
      intro i hi
      have ei := ev_ofNat_i (n := i) (by omega)
      refine ev_gK A hp [5] 10 ?_
      refine And.intro (fun h => ?_) (fun h => ?_)
      · have h2 : (Int32.ofNat 24).toInt ≤ (Int32.ofNat i).toInt := h
        omega
      refine And.intro (ev_oin (by omega) (by decide)) ?_
      show ev_J w ev_m2 (ev_nd 2) Q 5 [some (.ref 269), some (.int v), some (.int (Int32.ofNat i + 1)), some (.int (Int32.ofNat 24))] [] (ev_up (ab_fill m 269 i v) 269 (Int32.ofNat i).toNatClampNeg v) t
      have e1 : ev_up (ab_fill m 269 i v) 269 i v = ab_fill m 269 (i + 1) v := by
        funext k j
        unfold ev_up ab_fill
        by_cases h1 : k = 269 ∧ j = i
        · rw [if_pos h1, if_pos ⟨h1.1, by omega⟩]
        · rw [if_neg h1]
          by_cases h2 : k = 269 ∧ j < i
          · rw [if_pos h2, if_pos ⟨h2.1, by omega⟩]
          · rw [if_neg h2, if_neg (fun q => h2 ⟨q.1, by have hne : j ≠ i := fun e => h1 ⟨q.1, e⟩; have := q.2; omega⟩)]
      rw [ev_on (by omega), ev_succ (by omega), e1]
      exact ih (i + 1) (by omega)
  refine ⟨Or.inl rfl, ev_m2, rfl, ev_gK A hp [5] 10 ?_⟩
  show ev_J w ev_m2 (ev_nd 2) Q 5 [some (.ref 269), some (.int v), some (.int (Int32.ofNat 0)), some (.int (Int32.ofNat 24))] [] m t
  have e0 : ab_fill m 269 0 v = m := by
    funext k j
    unfold ab_fill
    rw [if_neg (fun q => absurd q.2 (Nat.not_lt_zero _))]
  have h1 := loop 24 0 rfl
  rw [e0] at h1
  exact h1
/-- Table.rebase -/
theorem ev_S49 {x : Int32} (A : ev_all w) (hQ : Q (.inl none) (ab_fill (ev_up m 209 5 x) 211 24 (-1)) t) : ev_K w 49 [.ref 209, .int x] m t Q := by
  have hp : ev_prog[49]? = some ev_m49 := rfl
  refine ⟨Or.inr ⟨209, _, rfl, rfl⟩, ev_m49, rfl, ev_gK A hp [] 10 ?_⟩
  show ev_K w 2 [.ref 211, .int (-1)] (ev_up m 209 5 x) t _
  exact ev_S2_211 A hQ
/-- Table.admit -/
theorem ev_S44 {v n : Nat} {js : List Nat} {bs : Option Nat} (A : ev_all w) (t4 : (m 209 4).toInt = (js.length : Int)) (t5 : ∀ k, k < js.length → m 212 k = Int32.ofNat (js.getD k 0)) (t6 : m 209 5 = ab_oi bs) (hj : js.length < 4)
    (hQ : ∀ m', (∀ k j, ¬ (k = 209 ∨ k = 212) → m' k j = m k j) → (m' 209 2 = Int32.ofNat n) → ((m' 209 4).toInt = ((js ++ [v]).length : Int)) → (∀ k, k < (js ++ [v]).length → m' 212 k = Int32.ofNat ((js ++ [v]).getD k 0)) → m' 209 5 = ab_oi (if js = [] then some v else bs) → Q (.inl none) m' t) :
    ev_K w 44 [.ref 209, .int (Int32.ofNat v), .int (Int32.ofNat n)] m t Q := by
  have hp : ev_prog[44]? = some ev_m44 := rfl
  have e4 : m 209 4 = Int32.ofNat js.length := by
    apply ev_eq_of
    rw [t4, ev_ofNat_i (by omega)]
  have h12 : ∀ m1 : ev_Mem, (∀ k j, ¬ (k = 209 ∧ j = 5) → m1 k j = m k j) → m1 209 5 = ab_oi (if js = [] then some v else bs) → ev_J w ev_m44 (ev_nd 44) Q 12 [some (.ref 209), some (.int (Int32.ofNat v)), some (.int (Int32.ofNat n))] [] m1 t := by
    intro m1 hf hb
    have e41 : m1 209 4 = Int32.ofNat js.length := by rw [hf _ _ (by omega)]; exact e4
    refine ev_gK A hp [22] 10 ?_
    refine And.intro (by rw [e41]; exact ev_oin hj (by decide)) ?_
    show ev_J w ev_m44 (ev_nd 44) Q 22 [some (.ref 209), some (.int (Int32.ofNat v)), some (.int (Int32.ofNat n))] [] (ev_up m1 212 (m1 209 4).toNatClampNeg (Int32.ofNat v)) t
    rw [e41, ev_on (by omega)]
    refine ev_gK A hp [] 20 ?_
    show Q (.inl none) (ev_up (ev_up (ev_up m1 212 js.length (Int32.ofNat v)) 209 4 (ev_up m1 212 js.length (Int32.ofNat v) 209 4 + 1)) 209 2 (Int32.ofNat n)) t
    have e42 : ev_up m1 212 js.length (Int32.ofNat v) 209 4 = Int32.ofNat js.length := by rw [ev_up_cell _ (by decide)]; exact e41
    rw [e42, ev_succ (by omega)]
    refine hQ _ (fun k j hk => ?_) (ev_up_same _ _ _ _) ?_ (fun k hk => ?_) ?_
    · rw [ev_up_cell _ (by omega), ev_up_cell _ (by omega), ev_up_cell _ (by omega)]
      exact hf k j (by omega)
    · rw [ev_up_idx _ _ (by decide), ev_up_same, ev_ofNat_i (by omega), List.length_append, List.length_singleton]
    · rw [List.length_append, List.length_singleton] at hk
      rw [ev_up_cell _ (by decide), ev_up_cell _ (by decide)]
      by_cases hkl : k = js.length
      · rw [hkl, ev_up_same, List.getD_eq_getElem?_getD, List.getElem?_append_right (Nat.le_refl _), Nat.sub_self]
        rfl
      · rw [ev_up_idx _ _ hkl, hf _ _ (by omega), t5 k (by omega), List.getD_eq_getElem?_getD, List.getD_eq_getElem?_getD, List.getElem?_append_left (by omega)]
    · rw [ev_up_idx _ _ (by decide), ev_up_idx _ _ (by decide), ev_up_cell _ (by decide)]
      exact hb
  refine ⟨Or.inr ⟨209, _, rfl, rfl⟩, ev_m44, rfl, ev_gK A hp [12] 10 ?_⟩
  refine And.intro (fun h => ?_) (fun h => ?_)
  · have h2 : ¬ (m 209 4).toInt = 0 := h
    refine h12 m (fun _ _ _ => rfl) ?_
    rw [if_neg (fun q => h2 (by rw [t4, q]; rfl))]
    exact t6
  · have h2 : (m 209 4).toInt = 0 := h
    have h3 : js = [] := List.eq_nil_of_length_eq_zero (by omega)
    show ev_J w ev_m44 (ev_nd 44) Q 12 [some (.ref 209), some (.int (Int32.ofNat v)), some (.int (Int32.ofNat n))] [] (ev_up m 209 5 (Int32.ofNat v)) t
    refine h12 _ (fun k j hk => if_neg (fun q => hk q)) ?_
    rw [ev_up_same, if_pos h3]
    rfl
end EvTable3
end
section
/-! the class's table: the last joined taken out -/
section EvTakeOut
variable {w : ev_W} {Q : ev_QT} {m : ev_Mem} {t : ev_H}
def ab_keep (T : ab_T) (v p : Nat) : Bool := [0, 1, 2, 3].any (fun u => decide (u ≠ v) && (T.2.1 p u).isSome)
def ab_sel (T : ab_T) (v n : Nat) : List Nat := (List.range n).filter (ab_keep T v)
def ab_chx (T : ab_T) (v p : Nat) : Option Nat := if T.2.2.1 p = some v then none else T.2.2.1 p
def ab_cfx (T : ab_T) (v p u : Nat) : Option Nat := if u = v then none else T.2.1 p u
theorem ab_sel_succ (T : ab_T) (v k : Nat) : ab_sel T v (k + 1) = ab_sel T v k ++ (if ab_keep T v k = true then [k] else []) := by
  unfold ab_sel
  rw [List.range_succ, List.filter_append]
  refine congrArg (fun z => (List.range k).filter (ab_keep T v) ++ z) ?_
  cases h : ab_keep T v k
  · rw [List.filter_cons_of_neg (by rw [h]; decide)]; rfl
  · rw [List.filter_cons_of_pos h]; rfl
theorem ab_sel_len (T : ab_T) (v k : Nat) : (ab_sel T v k).length ≤ k := by
  have h := List.length_filter_le (ab_keep T v) (List.range k)
  rw [List.length_range] at h
  exact h
theorem ab_oi_sm {o : Option Nat} (h : ∀ i, o = some i → i < 10) : ¬ (ab_oi o).toInt = -1 ↔ o.isSome = true := by
  rw [ab_oi_m1 (fun x hx => by have := h x hx; omega)]
  cases o with
  | none => exact ⟨fun q => absurd rfl q, fun q => by cases q⟩
  | some i => exact ⟨fun _ => rfl, fun _ q => by cases q⟩
/-- Table.takeOut -/
theorem ev_S46 {v : Nat} {T : ab_T} (A : ev_all w) (hT : ab_TC m T) (hok : ab_Tok T) (hv : v < 4) (hj : 0 < T.2.2.2.1.length)
    (hQ : ∀ m', (∀ k j, ¬ (k = 209 ∨ k = 210 ∨ k = 211) → m' k j = m k j) → (m' 209 2 = Int32.ofNat (ab_sel T v T.1).length) → (m' 209 4 = Int32.ofNat (T.2.2.2.1.length - 1)) → (m' 209 5 = ab_oi (if T.2.2.2.2 = some v then none else T.2.2.2.2)) →
      (∀ q, q < (ab_sel T v T.1).length → (∀ u, u < 4 → m' 210 (4 * q + u) = ab_oi (ab_cfx T v ((ab_sel T v T.1).getD q 0) u)) ∧ m' 211 q = ab_oi (ab_chx T v ((ab_sel T v T.1).getD q 0))) → Q (.inl none) m' t) :
    ev_K w 46 [.ref 209, .int (Int32.ofNat v)] m t Q := by
  have hp : ev_prog[46]? = some ev_m46 := rfl
  obtain ⟨t1, t2, t3, t4, t5, t6⟩ := hT
  obtain ⟨k1, k2, k3, k4, k5, k6⟩ := hok
  have ev := ev_ofNat_i (n := v) (by omega)
  have e4 : m 209 4 = Int32.ofNat T.2.2.2.1.length := by
    apply ev_eq_of
    rw [t4, ev_ofNat_i (by omega)]
  have loop : ∀ (n k : Nat) (mk : ev_Mem), k + n = T.1 → (∀ k j, ¬ (k = 209 ∨ k = 210 ∨ k = 211) → mk k j = m k j) → (mk 209 2 = m 209 2) → (mk 209 4 = Int32.ofNat (T.2.2.2.1.length - 1)) → (mk 209 5 = ab_oi (if T.2.2.2.2 = some v then none else T.2.2.2.2)) →
      (∀ q, q < (ab_sel T v k).length → (∀ u, u < 4 → mk 210 (4 * q + u) = ab_oi (ab_cfx T v ((ab_sel T v k).getD q 0) u)) ∧ mk 211 q = ab_oi (ab_chx T v ((ab_sel T v k).getD q 0))) →
      (∀ p, k ≤ p → p < T.1 → (∀ u, u < 4 → mk 210 (4 * p + u) = ab_oi (T.2.1 p u)) ∧ mk 211 p = ab_oi (T.2.2.1 p)) →
      ev_J w ev_m46 (ev_nd 46) Q 27 [some (.ref 209), some (.int (Int32.ofNat v)), some (.int (Int32.ofNat (ab_sel T v k).length)), some (.int (Int32.ofNat k))] [] mk t := by
    intro n
    induction n with
    | zero =>
      intro k mk hk f1 f2 f4 f5 hlow hhigh
      have ek := ev_ofNat_i (n := k) (by omega)
      have hkT : k = T.1 := by omega
      refine ev_gK A hp [] 10 ?_
      refine And.intro (fun h => ?_) (fun h => ?_)
      · show Q (.inl none) (ev_up mk 209 2 (Int32.ofNat (ab_sel T v k).length)) t
        rw [hkT] at hlow ⊢
        refine hQ _ (fun k j hk => by rw [ev_up_cell _ (by omega)]; exact f1 k j hk) (ev_up_same _ _ _ _) (by rw [ev_up_idx _ _ (by decide)]; exact f4) (by rw [ev_up_idx _ _ (by decide)]; exact f5) (fun q hq => ?_)
        obtain ⟨a, b⟩ := hlow q hq
        exact ⟨fun u hu => by rw [ev_up_cell _ (by decide)]; exact a u hu, by rw [ev_up_cell _ (by decide)]; exact b⟩
      · have h2 : (Int32.ofNat k).toInt < (mk 209 2).toInt := h
        rw [f2] at h2
        omega
    | succ n ih =>
      intro k mk hk f1 f2 f4 f5 hlow hhigh
      have ek := ev_ofNat_i (n := k) (by omega)
      have hk' : k < T.1 := by omega
      have nk : (Int32.ofNat k).toNatClampNeg = k := ev_on (by omega)
      have hsl := ab_sel_len T v k
      obtain ⟨hc, hch⟩ := hhigh k (Nat.le_refl _) hk'
      refine ev_gK A hp [42] 10 ?_
      refine And.intro (fun h => ?_) (fun h => ?_)
      · have h2 : (mk 209 2).toInt ≤ (Int32.ofNat k).toInt := h
        rw [f2] at h2
        omega
      show ev_K w 42 [.ref 209, .int (Int32.ofNat k), .int (Int32.ofNat v), .int (-1)] mk t _
      refine ev_S42 A (by omega) hv ?_
      show ev_J w ev_m46 (ev_nd 46) Q 42 [some (.ref 209), some (.int (Int32.ofNat v)), some (.int (Int32.ofNat (ab_sel T v k).length)), some (.int (Int32.ofNat k))] [] (ev_up mk 210 (4 * k + v) (-1)) t
      generalize hm1 : ev_up mk 210 (4 * k + v) (-1) = m1
      have g1 : ∀ c j, ¬ (c = 210 ∧ j = 4 * k + v) → m1 c j = mk c j := fun c j h => by rw [← hm1]; exact if_neg h
      have g2 : ∀ u, u < 4 → m1 210 (4 * k + u) = ab_oi (ab_cfx T v k u) := by
        intro u hu
        unfold ab_cfx
        by_cases huv : u = v
        · rw [if_pos huv, huv, ← hm1, ev_up_same]; rfl
        · rw [if_neg huv, g1 _ _ (by omega)]; exact hc u hu
      have h59 : ∀ m2 : ev_Mem, (∀ c j, ¬ (c = 211 ∧ j = k) → m2 c j = m1 c j) → m2 211 k = ab_oi (ab_chx T v k) → ev_J w ev_m46 (ev_nd 46) Q 59 [some (.ref 209), some (.int (Int32.ofNat v)), some (.int (Int32.ofNat (ab_sel T v k).length)), some (.int (Int32.ofNat k))] [] m2 t := by
        intro m2 r1 r2
        have r3 : ∀ u, u < 4 → m2 210 (4 * k + u) = ab_oi (ab_cfx T v k u) := fun u hu => by rw [r1 _ _ (by omega)]; exact g2 u hu
        have hall : ∀ c j, ¬ (c = 210 ∧ j = 4 * k + v) → ¬ (c = 211 ∧ j = k) → m2 c j = mk c j := fun c j z1 z2 => by rw [r1 c j z2]; exact g1 c j z1
        have kp : ∀ u, u < 4 → (¬ (m2 210 (4 * k + u)).toInt = -1 ↔ (u ≠ v ∧ (T.2.1 k u).isSome = true)) := by
          intro u hu
          rw [r3 u hu, ab_oi_sm (fun i hi => by unfold ab_cfx at hi; split at hi; cases hi; exact k2 k u i hi)]
          unfold ab_cfx
          by_cases huv : u = v
          · rw [if_pos huv]; exact ⟨fun q => (by cases q), fun q => absurd huv q.1⟩
          · rw [if_neg huv]; exact ⟨fun q => ⟨huv, q⟩, fun q => q.2⟩
        refine ev_gK A hp [27] 20 ?_
        show ev_K w 47 [.ref 209, .int (Int32.ofNat k)] m2 t _
        refine ev_S47 A (by omega) (fun ⟨u, hu, hu2⟩ => ?_) (fun hno => ?_)
        · have hkeep : ab_keep T v k = true := by
            obtain ⟨z1, z2⟩ := (kp u hu).mp hu2
            unfold ab_keep
            refine List.any_eq_true.mpr ⟨u, ?_, by rw [decide_eq_true z1, z2]; rfl⟩
            match u, hu with
            | 0, _ => simp
            | 1, _ => simp
            | 2, _ => simp
            | 3, _ => simp
          refine And.intro (fun h => (ev_ne10 h).elim) (fun h => ?_)
          show ev_K w 43 [.ref 209, .int (Int32.ofNat k), .int (Int32.ofNat (ab_sel T v k).length)] m2 t _
          refine ev_S43 A (by omega) (by omega) ?_
          show ev_J w ev_m46 (ev_nd 46) Q 27 [some (.ref 209), some (.int (Int32.ofNat v)), some (.int (Int32.ofNat (ab_sel T v k).length + 1)), some (.int (Int32.ofNat k + 1))] [] (ab_setp m2 (ab_sel T v k).length (fun u => m2 210 (4 * k + u)) (m2 211 k)) t
          have es : ab_sel T v (k + 1) = ab_sel T v k ++ [k] := by rw [ab_sel_succ, if_pos hkeep]
          have el : (ab_sel T v (k + 1)).length = (ab_sel T v k).length + 1 := by rw [es, List.length_append, List.length_singleton]
          rw [ev_succ (by omega), ev_succ (by omega), ← el]
          have sp1 : ∀ c j, ¬ (c = 210 ∧ 4 * (ab_sel T v k).length ≤ j ∧ j < 4 * (ab_sel T v k).length + 4) → ¬ (c = 211 ∧ j = (ab_sel T v k).length) → ab_setp m2 (ab_sel T v k).length (fun u => m2 210 (4 * k + u)) (m2 211 k) c j = m2 c j := by
            intro c j z1 z2
            unfold ab_setp ev_up
            rw [if_neg z2]
            unfold ab_setn
            rw [if_neg z1]
          refine ih (k + 1) _ (by omega) (fun c j z => ?_) ?_ ?_ ?_ (fun q hq => ?_) (fun p z1 z2 => ?_)
          · rw [sp1 c j (by omega) (by omega), hall c j (by omega) (by omega)]; exact f1 c j z
          · rw [sp1 _ _ (by omega) (by omega), hall _ _ (by omega) (by omega)]; exact f2
          · rw [sp1 _ _ (by omega) (by omega), hall _ _ (by omega) (by omega)]; exact f4
          · rw [sp1 _ _ (by omega) (by omega), hall _ _ (by omega) (by omega)]; exact f5
          · rw [el] at hq
            by_cases hql : q = (ab_sel T v k).length
            · have eg : (ab_sel T v (k + 1)).getD q 0 = k := by
                rw [es, hql, List.getD_eq_getElem?_getD, List.getElem?_append_right (Nat.le_refl _), Nat.sub_self]; rfl
              rw [eg]
              refine ⟨fun u hu => ?_, ?_⟩
              · have e1 : ab_setp m2 (ab_sel T v k).length (fun u => m2 210 (4 * k + u)) (m2 211 k) 210 (4 * q + u) = m2 210 (4 * k + u) := by
                  unfold ab_setp
                  rw [ev_up_cell _ (by decide)]
                  unfold ab_setn
                  rw [if_pos ⟨rfl, by omega, by omega⟩]
                  have e2 : 4 * q + u - 4 * (ab_sel T v k).length = u := by omega
                  rw [e2]
                rw [e1]; exact r3 u hu
              · rw [hql]
                unfold ab_setp
                rw [ev_up_same]; exact r2
            · have eg : (ab_sel T v (k + 1)).getD q 0 = (ab_sel T v k).getD q 0 := by
                rw [es, List.getD_eq_getElem?_getD, List.getD_eq_getElem?_getD, List.getElem?_append_left (by omega)]
              rw [eg]
              obtain ⟨a, b⟩ := hlow q (by omega)
              refine ⟨fun u hu => ?_, ?_⟩
              · rw [sp1 _ _ (by omega) (by omega), hall _ _ (by omega) (by omega)]; exact a u hu
              · rw [sp1 _ _ (by omega) (by omega), hall _ _ (by omega) (by omega)]; exact b
          · obtain ⟨a, b⟩ := hhigh p (by omega) z2
            refine ⟨fun u hu => ?_, ?_⟩
            · rw [sp1 _ _ (by omega) (by omega), hall _ _ (by omega) (by omega)]; exact a u hu
            · rw [sp1 _ _ (by omega) (by omega), hall _ _ (by omega) (by omega)]; exact b
        · have hkeep : ¬ ab_keep T v k = true := by
            intro hk2
            unfold ab_keep at hk2
            obtain ⟨u, hu, hu2⟩ := List.any_eq_true.mp hk2
            have hu4 : u < 4 := by
              simp only [List.mem_cons, List.not_mem_nil, or_false] at hu
              omega
            simp only [Bool.and_eq_true, decide_eq_true_eq] at hu2
            exact (kp u hu4).mpr hu2 (hno u hu4)
          refine And.intro (fun h => ?_) (fun h => absurd ev_eq00 h)
          show ev_J w ev_m46 (ev_nd 46) Q 27 [some (.ref 209), some (.int (Int32.ofNat v)), some (.int (Int32.ofNat (ab_sel T v k).length)), some (.int (Int32.ofNat k + 1))] [] m2 t
          have es : ab_sel T v (k + 1) = ab_sel T v k := by rw [ab_sel_succ, if_neg hkeep, List.append_nil]
          rw [ev_succ (by omega), ← es]
          refine ih (k + 1) m2 (by omega) (fun c j z => ?_) ?_ ?_ ?_ (fun q hq => ?_) (fun p z1 z2 => ?_)
          · rw [hall c j (by omega) (by omega)]; exact f1 c j z
          · rw [hall _ _ (by omega) (by omega)]; exact f2
          · rw [hall _ _ (by omega) (by omega)]; exact f4
          · rw [hall _ _ (by omega) (by omega)]; exact f5
          · rw [es] at hq ⊢
            obtain ⟨a, b⟩ := hlow q hq
            refine ⟨fun u hu => ?_, ?_⟩
            · rw [hall _ _ (by omega) (by omega)]; exact a u hu
            · rw [hall _ _ (by omega) (by omega)]; exact b
          · obtain ⟨a, b⟩ := hhigh p (by omega) z2
            refine ⟨fun u hu => ?_, ?_⟩
            · rw [hall _ _ (by omega) (by omega)]; exact a u hu
            · rw [hall _ _ (by omega) (by omega)]; exact b
      have hch1 : m1 211 k = ab_oi (T.2.2.1 k) := by rw [g1 _ _ (by omega)]; exact hch
      refine ev_gK A hp [52, 59] 10 ?_
      refine And.intro (ev_oin (by omega) (by decide)) ?_
      refine And.intro (fun h => ?_) (fun h => ?_)
      · have h2 : ¬ (m1 211 (Int32.ofNat k).toNatClampNeg).toInt = (ab_oi (some v)).toInt := h
        rw [nk, hch1] at h2
        refine h59 m1 (fun _ _ _ => rfl) ?_
        unfold ab_chx
        rw [if_neg (fun q => h2 (by rw [q]))]
        exact hch1
      · have h2 : (m1 211 (Int32.ofNat k).toNatClampNeg).toInt = (ab_oi (some v)).toInt := h
        rw [nk, hch1] at h2
        have h3 : T.2.2.1 k = some v := ab_oi_inj (fun x hx => by have := k3 k x hx; omega) (fun x hx => by cases hx; omega) h2
        show ev_J w ev_m46 (ev_nd 46) Q 52 [some (.ref 209), some (.int (Int32.ofNat v)), some (.int (Int32.ofNat (ab_sel T v k).length)), some (.int (Int32.ofNat k))] [] m1 t
        refine ev_gK A hp [59] 10 ?_
        refine And.intro (ev_oin (by omega) (by decide)) ?_
        show ev_J w ev_m46 (ev_nd 46) Q 59 [some (.ref 209), some (.int (Int32.ofNat v)), some (.int (Int32.ofNat (ab_sel T v k).length)), some (.int (Int32.ofNat k))] [] (ev_up m1 211 (Int32.ofNat k).toNatClampNeg (-1)) t
        rw [nk]
        refine h59 _ (fun c j z => if_neg z) ?_
        unfold ab_chx
        rw [if_pos h3, ev_up_same]
        rfl
  have h23 : ∀ m0 : ev_Mem, (∀ c j, ¬ (c = 209 ∧ (j = 4 ∨ j = 5)) → m0 c j = m c j) → m0 209 4 = Int32.ofNat (T.2.2.2.1.length - 1) → m0 209 5 = ab_oi (if T.2.2.2.2 = some v then none else T.2.2.2.2) → ev_J w ev_m46 (ev_nd 46) Q 23 [some (.ref 209), some (.int (Int32.ofNat v)), none, none] [] m0 t := by
    intro m0 f1 f4 f5
    refine ev_gK A hp [27] 10 ?_
    show ev_J w ev_m46 (ev_nd 46) Q 27 [some (.ref 209), some (.int (Int32.ofNat v)), some (.int (Int32.ofNat (ab_sel T v 0).length)), some (.int (Int32.ofNat 0))] [] m0 t
    refine loop T.1 0 m0 (by omega) (fun c j z => f1 c j (by omega)) (f1 _ _ (by omega)) f4 f5 (fun q hq => absurd hq (Nat.not_lt_zero _)) (fun p _ z2 => ⟨fun u hu => ?_, ?_⟩)
    · rw [f1 _ _ (by omega)]; exact t2 p z2 u hu
    · rw [f1 _ _ (by omega)]; exact t3 p z2
  refine ⟨Or.inr ⟨209, _, rfl, rfl⟩, ev_m46, rfl, ev_gK A hp [10] 10 ?_⟩
  show ev_J w ev_m46 (ev_nd 46) Q 10 [some (.ref 209), some (.int (Int32.ofNat v)), none, none] [] (ev_up m 209 4 (m 209 4 - 1)) t
  rw [e4, ev_pred (by omega) (by omega)]
  have hb5 : ev_up m 209 4 (Int32.ofNat (T.2.2.2.1.length - 1)) 209 5 = ab_oi T.2.2.2.2 := by rw [ev_up_idx _ _ (by decide)]; exact t6
  refine ev_gK A hp [18, 23] 10 ?_
  refine And.intro (fun h => ?_) (fun h => ?_)
  · have h2 : ¬ (ev_up m 209 4 (Int32.ofNat (T.2.2.2.1.length - 1)) 209 5).toInt = (ab_oi (some v)).toInt := h
    rw [hb5] at h2
    refine h23 _ (fun c j z => if_neg (fun q => z ⟨q.1, Or.inl q.2⟩)) (ev_up_same _ _ _ _) ?_
    rw [hb5, if_neg (fun q => h2 (by rw [q]))]
  · have h2 : (ev_up m 209 4 (Int32.ofNat (T.2.2.2.1.length - 1)) 209 5).toInt = (ab_oi (some v)).toInt := h
    rw [hb5] at h2
    have h3 : T.2.2.2.2 = some v := ab_oi_inj (fun x hx => by have := k6 x hx; omega) (fun x hx => by cases hx; omega) h2
    show ev_J w ev_m46 (ev_nd 46) Q 18 [some (.ref 209), some (.int (Int32.ofNat v)), none, none] [] (ev_up m 209 4 (Int32.ofNat (T.2.2.2.1.length - 1))) t
    refine ev_gK A hp [23] 10 ?_
    show ev_J w ev_m46 (ev_nd 46) Q 23 [some (.ref 209), some (.int (Int32.ofNat v)), none, none] [] (ev_up (ev_up m 209 4 (Int32.ofNat (T.2.2.2.1.length - 1))) 209 5 (-1)) t
    refine h23 _ (fun c j z => ?_) ?_ ?_
    · unfold ev_up
      rw [if_neg (fun q => z ⟨q.1, Or.inr q.2⟩), if_neg (fun q => z ⟨q.1, Or.inl q.2⟩)]
    · rw [ev_up_idx _ _ (by decide), ev_up_same]
    · rw [ev_up_same, if_pos h3]; rfl
end EvTakeOut
end
section
/-! the class's joiner: one entry settled -/
section EvSettle
variable {w : ev_W} {Q : ev_QT} {m : ev_Mem} {t : ev_H}
/-- Joiner.offer -/
theorem ev_S55 {h s c d : Nat} (A : ev_all w) (hh : h < 275) (hc : c < 100000000) (hd : d < 100000000) (hm : m 214 h = Int32.ofNat d) (hQ : Q (.inl none) (if c < d then ev_up (ev_up m 214 h (Int32.ofNat c)) 215 h (Int32.ofNat s) else m) t) : ev_K w 55 [.ref 213, .int (Int32.ofNat h), .int (Int32.ofNat s), .int (Int32.ofNat c)] m t Q := by
  have hp : ev_prog[55]? = some ev_m55 := rfl
  have nh : (Int32.ofNat h).toNatClampNeg = h := ev_on (by omega)
  have ec := ev_ofNat_i (n := c) (by omega)
  have ed := ev_ofNat_i (n := d) (by omega)
  refine ⟨Or.inr ⟨213, _, rfl, rfl⟩, ev_m55, rfl, ev_gK A hp [10] 20 ?_⟩
  refine And.intro (ev_oin hh (by decide)) ?_
  refine And.intro (fun q => ?_) (fun q => ?_)
  · have h2 : (m 214 (Int32.ofNat h).toNatClampNeg).toInt ≤ (Int32.ofNat c).toInt := q
    rw [nh, hm] at h2
    rw [if_neg (by omega)] at hQ
    exact hQ
  · have h2 : (Int32.ofNat c).toInt < (m 214 (Int32.ofNat h).toNatClampNeg).toInt := q
    rw [nh, hm] at h2
    rw [if_pos (by omega)] at hQ
    show ev_J w ev_m55 (ev_nd 55) Q 10 [some (.ref 213), some (.int (Int32.ofNat h)), some (.int (Int32.ofNat s)), some (.int (Int32.ofNat c))] [] m t
    refine ev_gK A hp [] 20 ?_
    refine And.intro (ev_oin hh (by decide)) ?_
    refine And.intro (ev_oin hh (by decide)) ?_
    show Q (.inl none) (ev_up (ev_up m 214 (Int32.ofNat h).toNatClampNeg (Int32.ofNat c)) 215 (Int32.ofNat h).toNatClampNeg (Int32.ofNat s)) t
    rw [nh]
    exact hQ
theorem ev_row11 {p j : Nat} (hp : p < 1000) (hj : j < 1000) : Int32.ofNat p * 11 + Int32.ofNat j = Int32.ofNat (11 * p + j) := by
  apply ev_eq_of
  have e4 : (11 : Int32).toInt = 11 := by decide
  have ea := ev_ofNat_i (n := p) (by omega)
  have eb := ev_ofNat_i (n := j) (by omega)
  have e1 : (Int32.ofNat p * 11).toInt = (p : Int) * 11 := by rw [ev_mul_i (by rw [ea, e4]; omega) (by rw [ea, e4]; omega), ea, e4]
  rw [ev_add_i (by omega) (by omega), e1, eb, ev_ofNat_i (by omega)]
  omega
theorem ev_ne_of {a b : Nat} (ha : a < 100000) (hb : b < 100000) (h : (Int32.ofNat a).toInt = (Int32.ofNat b).toInt) : a = b := by
  rw [ev_ofNat_i (by omega), ev_ofNat_i (by omega)] at h
  omega
/-- behind an offer -/
def ab_of (m : ev_Mem) (h s c d : Nat) : ev_Mem := if c < d then ev_up (ev_up m 214 h (Int32.ofNat c)) 215 h (Int32.ofNat s) else m
theorem ab_of_fr (m : ev_Mem) (h s c d : Nat) {k j : Nat} (hk : ¬ ((k = 214 ∨ k = 215) ∧ j = h)) : ab_of m h s c d k j = m k j := by
  unfold ab_of
  split
  · unfold ev_up
    rw [if_neg (fun q => hk ⟨Or.inr q.1, q.2⟩), if_neg (fun q => hk ⟨Or.inl q.1, q.2⟩)]
  · rfl
theorem ab_of_c (m : ev_Mem) (h s c d : Nat) (hm : m 214 h = Int32.ofNat d) : ab_of m h s c d 214 h = Int32.ofNat (min c d) := by
  unfold ab_of
  split
  · rename_i q
    rw [ev_up_cell _ (by decide), ev_up_same, Nat.min_eq_left (by omega)]
  · rename_i q
    rw [hm, Nat.min_eq_right (by omega)]
theorem ab_of_s (m : ev_Mem) (h s c d : Nat) : ab_of m h s c d 215 h = if c < d then Int32.ofNat s else m 215 h := by
  unfold ab_of
  split
  · rw [ev_up_same]
  · rfl
/-- Joiner.settle: x, y, z: what is left behind a match, a pass, a putting in -/
def ab_b0 (p j N J : Nat) : Nat := if p = N ∧ j = J then 0 else 1000000
def ab_b1 (p j N J : Nat) (mc : Option Nat) (x : Nat) : Nat := match mc with
  | none => ab_b0 p j N J
  | some c => min (c + x) (ab_b0 p j N J)
def ab_b2 (p j N J : Nat) (mc : Option Nat) (x y : Nat) : Nat := if p < N then min (8 + y) (ab_b1 p j N J mc x) else ab_b1 p j N J mc x
def ab_b3 (p j N J : Nat) (mc : Option Nat) (x y z : Nat) : Nat := if j < J then min (8 + z) (ab_b2 p j N J mc x y) else ab_b2 p j N J mc x y
def ab_m1 (m : ev_Mem) (p j N J : Nat) (mc : Option Nat) (x : Nat) : ev_Mem := match mc with
  | none => ev_up m 214 (11 * p + j) (Int32.ofNat (ab_b0 p j N J))
  | some c => ab_of (ev_up m 214 (11 * p + j) (Int32.ofNat (ab_b0 p j N J))) (11 * p + j) 0 (c + x) (ab_b0 p j N J)
def ab_m2 (m : ev_Mem) (p j N J : Nat) (mc : Option Nat) (x y : Nat) : ev_Mem := if p < N then ab_of (ab_m1 m p j N J mc x) (11 * p + j) 1 (8 + y) (ab_b1 p j N J mc x) else ab_m1 m p j N J mc x
def ab_m3 (m : ev_Mem) (p j N J : Nat) (mc : Option Nat) (x y z : Nat) : ev_Mem := if j < J then ab_of (ab_m2 m p j N J mc x y) (11 * p + j) 2 (8 + z) (ab_b2 p j N J mc x y) else ab_m2 m p j N J mc x y
theorem ab_m1_fr (m : ev_Mem) (p j N J : Nat) (mc : Option Nat) (x : Nat) {k i : Nat} (h : ¬ ((k = 214 ∨ k = 215) ∧ i = 11 * p + j)) : ab_m1 m p j N J mc x k i = m k i := by
  have e1 : ev_up m 214 (11 * p + j) (Int32.ofNat (ab_b0 p j N J)) k i = m k i := if_neg (fun q => h ⟨Or.inl q.1, q.2⟩)
  unfold ab_m1
  split
  · exact e1
  · rw [ab_of_fr _ _ _ _ _ h]; exact e1
theorem ab_m2_fr (m : ev_Mem) (p j N J : Nat) (mc : Option Nat) (x y : Nat) {k i : Nat} (h : ¬ ((k = 214 ∨ k = 215) ∧ i = 11 * p + j)) : ab_m2 m p j N J mc x y k i = m k i := by
  unfold ab_m2
  split
  · rw [ab_of_fr _ _ _ _ _ h]; exact ab_m1_fr m p j N J mc x h
  · exact ab_m1_fr m p j N J mc x h
theorem ab_m3_fr (m : ev_Mem) (p j N J : Nat) (mc : Option Nat) (x y z : Nat) {k i : Nat} (h : ¬ ((k = 214 ∨ k = 215) ∧ i = 11 * p + j)) : ab_m3 m p j N J mc x y z k i = m k i := by
  unfold ab_m3
  split
  · rw [ab_of_fr _ _ _ _ _ h]; exact ab_m2_fr m p j N J mc x y h
  · exact ab_m2_fr m p j N J mc x y h
theorem ab_m1_c (m : ev_Mem) (p j N J : Nat) (mc : Option Nat) (x : Nat) : ab_m1 m p j N J mc x 214 (11 * p + j) = Int32.ofNat (ab_b1 p j N J mc x) := by
  unfold ab_m1 ab_b1
  cases mc with
  | none => exact ev_up_same _ _ _ _
  | some c => exact ab_of_c _ _ _ _ _ (ev_up_same _ _ _ _)
theorem ab_m2_c (m : ev_Mem) (p j N J : Nat) (mc : Option Nat) (x y : Nat) : ab_m2 m p j N J mc x y 214 (11 * p + j) = Int32.ofNat (ab_b2 p j N J mc x y) := by
  unfold ab_m2 ab_b2
  split
  · exact ab_of_c _ _ _ _ _ (ab_m1_c m p j N J mc x)
  · exact ab_m1_c m p j N J mc x
theorem ab_m3_c (m : ev_Mem) (p j N J : Nat) (mc : Option Nat) (x y z : Nat) : ab_m3 m p j N J mc x y z 214 (11 * p + j) = Int32.ofNat (ab_b3 p j N J mc x y z) := by
  unfold ab_m3 ab_b3
  split
  · exact ab_of_c _ _ _ _ _ (ab_m2_c m p j N J mc x y)
  · exact ab_m2_c m p j N J mc x y
theorem ab_b1_le (p j N J : Nat) (mc : Option Nat) (x : Nat) : ab_b1 p j N J mc x ≤ 1000000 := by
  have h0 : ab_b0 p j N J ≤ 1000000 := by unfold ab_b0; split <;> omega
  unfold ab_b1
  split <;> omega
theorem ab_b2_le (p j N J : Nat) (mc : Option Nat) (x y : Nat) : ab_b2 p j N J mc x y ≤ 1000000 := by
  have h0 := ab_b1_le p j N J mc x
  unfold ab_b2
  split <;> omega
/-- Joiner.settle -/
theorem ev_S54 {p j N J x y z : Nat} {mc : Option Nat} (A : ev_all w) (hN : m 213 4 = Int32.ofNat N) (hJ : m 213 5 = Int32.ofNat J) (hpN : p ≤ N) (hjJ : j ≤ J) (hN24 : N ≤ 24) (hJ10 : J ≤ 10) (hx : x < 1000000) (hy : y < 1000000) (hz : z < 1000000) (hmc : ∀ c, mc = some c → c < 1000000 ∧ p < N ∧ j < J)
    (h1 : ∀ c, mc = some c → m 214 (11 * p + j + 12) = Int32.ofNat x) (h2 : p < N → m 214 (11 * p + j + 11) = Int32.ofNat y) (h3 : j < J → m 214 (11 * p + j + 1) = Int32.ofNat z)
    (hQ : Q (.inl none) (ab_m3 m p j N J mc x y z) t) : ev_K w 54 [.ref 213, .int (Int32.ofNat p), .int (Int32.ofNat j), .int (ab_oi mc)] m t Q := by
  have hp : ev_prog[54]? = some ev_m54 := rfl
  have hh : 11 * p + j < 275 := by omega
  have nh : (Int32.ofNat (11 * p + j)).toNatClampNeg = 11 * p + j := ev_on (by omega)
  have eN := ev_ofNat_i (n := N) (by omega)
  have eJ := ev_ofNat_i (n := J) (by omega)
  have ep := ev_ofNat_i (n := p) (by omega)
  have ej := ev_ofNat_i (n := j) (by omega)
  have e8 : Int32.ofNat 8 + Int32.ofNat y = Int32.ofNat (8 + y) := ev_addN (by omega)
  have e8z : Int32.ofNat 8 + Int32.ofNat z = Int32.ofNat (8 + z) := ev_addN (by omega)
  -- the third offer
  have s3 : ∀ mk : ev_Mem, mk = ab_m2 m p j N J mc x y → ev_J w ev_m54 (ev_nd 54) Q 91 [some (.ref 213), some (.int (Int32.ofNat p)), some (.int (Int32.ofNat j)), some (.int (ab_oi mc)), some (.int (Int32.ofNat (11 * p + j)))] [] mk t := by
    intro mk hmk
    have hJk : mk 213 5 = Int32.ofNat J := by rw [hmk, ab_m2_fr _ _ _ _ _ _ _ _ (by omega)]; exact hJ
    refine ev_gK A hp [99] 10 ?_
    refine And.intro (fun h => ?_) (fun h => ?_)
    · have q : (mk 213 5).toInt ≤ (Int32.ofNat j).toInt := h
      rw [hJk] at q
      unfold ab_m3 at hQ
      rw [if_neg (by omega), ← hmk] at hQ
      exact hQ
    · have q : (Int32.ofNat j).toInt < (mk 213 5).toInt := h
      rw [hJk] at q
      have hjl : j < J := by omega
      unfold ab_m3 at hQ
      rw [if_pos hjl, ← hmk] at hQ
      show ev_J w ev_m54 (ev_nd 54) Q 99 [some (.ref 213), some (.int (Int32.ofNat p)), some (.int (Int32.ofNat j)), some (.int (ab_oi mc)), some (.int (Int32.ofNat (11 * p + j)))] [] mk t
      have ez : mk 214 (11 * p + j + 1) = Int32.ofNat z := by rw [hmk, ab_m2_fr _ _ _ _ _ _ _ _ (by omega)]; exact h3 hjl
      refine ev_gK A hp [] 9 ?_
      show ev_J w ev_m54 (ev_nd 54) Q 113 [some (.ref 213), some (.int (Int32.ofNat p)), some (.int (Int32.ofNat j)), some (.int (ab_oi mc)), some (.int (Int32.ofNat (11 * p + j)))] [.int (Int32.ofNat (11 * p + j) + Int32.ofNat 1), .ref 214, .int (Int32.ofNat 8), .int (Int32.ofNat 2), .int (Int32.ofNat (11 * p + j)), .ref 213] mk t
      rw [ev_addN (by omega)]
      refine ev_gK A hp [] 10 ?_
      refine And.intro (ev_oin (by omega) (by decide)) ?_
      show ev_K w 55 [.ref 213, .int (Int32.ofNat (11 * p + j)), .int (Int32.ofNat 2), .int (Int32.ofNat 8 + mk 214 (Int32.ofNat (11 * p + j + 1)).toNatClampNeg)] mk t _
      rw [ev_on (by omega), ez, e8z]
      exact ev_S55 (d := ab_b2 p j N J mc x y) A hh (by omega) (by have := ab_b2_le p j N J mc x y; omega) (by rw [hmk]; exact ab_m2_c m p j N J mc x y) hQ
  -- the second
  have s2 : ∀ mk : ev_Mem, mk = ab_m1 m p j N J mc x → ev_J w ev_m54 (ev_nd 54) Q 63 [some (.ref 213), some (.int (Int32.ofNat p)), some (.int (Int32.ofNat j)), some (.int (ab_oi mc)), some (.int (Int32.ofNat (11 * p + j)))] [] mk t := by
    intro mk hmk
    have hNk : mk 213 4 = Int32.ofNat N := by rw [hmk, ab_m1_fr _ _ _ _ _ _ _ (by omega)]; exact hN
    refine ev_gK A hp [71, 91] 10 ?_
    refine And.intro (fun h => ?_) (fun h => ?_)
    · have q : (mk 213 4).toInt ≤ (Int32.ofNat p).toInt := h
      rw [hNk] at q
      refine s3 mk ?_
      unfold ab_m2
      rw [if_neg (by omega)]
      exact hmk
    · have q : (Int32.ofNat p).toInt < (mk 213 4).toInt := h
      rw [hNk] at q
      have hpl : p < N := by omega
      show ev_J w ev_m54 (ev_nd 54) Q 71 [some (.ref 213), some (.int (Int32.ofNat p)), some (.int (Int32.ofNat j)), some (.int (ab_oi mc)), some (.int (Int32.ofNat (11 * p + j)))] [] mk t
      have ey : mk 214 (11 * p + j + 11) = Int32.ofNat y := by rw [hmk, ab_m1_fr _ _ _ _ _ _ _ (by omega)]; exact h2 hpl
      refine ev_gK A hp [] 9 ?_
      show ev_J w ev_m54 (ev_nd 54) Q 86 [some (.ref 213), some (.int (Int32.ofNat p)), some (.int (Int32.ofNat j)), some (.int (ab_oi mc)), some (.int (Int32.ofNat (11 * p + j)))] [.int (Int32.ofNat (11 * p + j) + Int32.ofNat 11), .ref 214, .int (Int32.ofNat 8), .int (Int32.ofNat 1), .int (Int32.ofNat (11 * p + j)), .ref 213] mk t
      rw [ev_addN (by omega)]
      refine ev_gK A hp [91] 10 ?_
      refine And.intro (ev_oin (by omega) (by decide)) ?_
      show ev_K w 55 [.ref 213, .int (Int32.ofNat (11 * p + j)), .int (Int32.ofNat 1), .int (Int32.ofNat 8 + mk 214 (Int32.ofNat (11 * p + j + 11)).toNatClampNeg)] mk t _
      rw [ev_on (by omega), ey, e8]
      refine ev_S55 (d := ab_b1 p j N J mc x) A hh (by omega) (by have := ab_b1_le p j N J mc x; omega) (by rw [hmk]; exact ab_m1_c m p j N J mc x) ?_
      refine s3 _ ?_
      unfold ab_m2
      rw [if_pos hpl, ← hmk]
      rfl
  -- the first
  have s1 : ev_J w ev_m54 (ev_nd 54) Q 37 [some (.ref 213), some (.int (Int32.ofNat p)), some (.int (Int32.ofNat j)), some (.int (ab_oi mc)), some (.int (Int32.ofNat (11 * p + j)))] [] (ev_up m 214 (11 * p + j) (Int32.ofNat (ab_b0 p j N J))) t := by
    have hb0 : ab_b0 p j N J ≤ 1000000 := by unfold ab_b0; split <;> omega
    refine ev_gK A hp [42, 63] 10 ?_
    refine And.intro (fun h => ?_) (fun h => ?_)
    · have q : (ab_oi mc).toInt = (Int32.ofInt (-1)).toInt := h
      cases mc with
      | none => exact s2 _ rfl
      | some c =>
        have hc := (hmc c rfl).1
        have e1 : (ab_oi (some c)).toInt = (c : Int) := ev_ofNat_i (by omega)
        rw [ev_im1] at q
        omega
    · have q : ¬ (ab_oi mc).toInt = (Int32.ofInt (-1)).toInt := h
      cases mc with
      | none => exact absurd rfl q
      | some c =>
        obtain ⟨c1, c2, c3⟩ := hmc c rfl
        show ev_J w ev_m54 (ev_nd 54) Q 42 [some (.ref 213), some (.int (Int32.ofNat p)), some (.int (Int32.ofNat j)), some (.int (Int32.ofNat c)), some (.int (Int32.ofNat (11 * p + j)))] [] (ev_up m 214 (11 * p + j) (Int32.ofNat (ab_b0 p j N J))) t
        refine ev_gK A hp [] 11 ?_
        show ev_J w ev_m54 (ev_nd 54) Q 58 [some (.ref 213), some (.int (Int32.ofNat p)), some (.int (Int32.ofNat j)), some (.int (Int32.ofNat c)), some (.int (Int32.ofNat (11 * p + j)))] [.int (Int32.ofNat (11 * p + j) + Int32.ofNat 11 + Int32.ofNat 1), .ref 214, .int (Int32.ofNat c), .int (Int32.ofNat 0), .int (Int32.ofNat (11 * p + j)), .ref 213] (ev_up m 214 (11 * p + j) (Int32.ofNat (ab_b0 p j N J))) t
        rw [ev_addN (by omega), ev_addN (by omega)]
        refine ev_gK A hp [63] 10 ?_
        refine And.intro (ev_oin (by omega) (by decide)) ?_
        show ev_K w 55 [.ref 213, .int (Int32.ofNat (11 * p + j)), .int (Int32.ofNat 0), .int (Int32.ofNat c + ev_up m 214 (11 * p + j) (Int32.ofNat (ab_b0 p j N J)) 214 (Int32.ofNat (11 * p + j + 11 + 1)).toNatClampNeg)] (ev_up m 214 (11 * p + j) (Int32.ofNat (ab_b0 p j N J))) t _
        rw [ev_on (by omega), ev_up_idx _ _ (by omega), h1 c rfl, ev_addN (by omega)]
        refine ev_S55 (d := ab_b0 p j N J) A hh (by omega) (by omega) (ev_up_same _ _ _ _) ?_
        exact s2 _ rfl
  -- the beginning
  have s0 : ∀ b : Nat, b = ab_b0 p j N J → ev_J w ev_m54 (ev_nd 54) Q 36 [some (.ref 213), some (.int (Int32.ofNat p)), some (.int (Int32.ofNat j)), some (.int (ab_oi mc)), some (.int (Int32.ofNat (11 * p + j)))] [.int (Int32.ofNat b), .int (Int32.ofNat (11 * p + j)), .ref 214] m t := by
    intro b hb
    refine ev_gK A hp [37] 10 ?_
    refine And.intro (ev_oin hh (by decide)) ?_
    show ev_J w ev_m54 (ev_nd 54) Q 37 [some (.ref 213), some (.int (Int32.ofNat p)), some (.int (Int32.ofNat j)), some (.int (ab_oi mc)), some (.int (Int32.ofNat (11 * p + j)))] [] (ev_up m 214 (Int32.ofNat (11 * p + j)).toNatClampNeg (Int32.ofNat b)) t
    rw [nh, hb]
    exact s1
  refine ⟨Or.inr ⟨213, _, rfl, rfl⟩, ev_m54, rfl, ev_gK A hp [] 6 ?_⟩
  show ev_J w ev_m54 (ev_nd 54) Q 8 [some (.ref 213), some (.int (Int32.ofNat p)), some (.int (Int32.ofNat j)), some (.int (ab_oi mc)), some (.int (Int32.ofNat p * 11 + Int32.ofNat j))] [] m t
  rw [ev_row11 (by omega) (by omega)]
  refine ev_gK A hp [36] 20 ?_
  refine And.intro (fun h => ?_) (fun h => ?_)
  · have q : ¬ (Int32.ofNat p).toInt = (m 213 4).toInt := h
    rw [hN] at q
    refine s0 1000000 ?_
    unfold ab_b0
    rw [if_neg (fun z => q (by rw [z.1]))]
  refine And.intro (fun h => ?_) (fun h => ?_)
  · have q : ¬ (Int32.ofNat j).toInt = (m 213 5).toInt := h
    rw [hJ] at q
    refine s0 1000000 ?_
    unfold ab_b0
    rw [if_neg (fun z => q (by rw [z.2]))]
  · rename_i hq
    have q1 : (Int32.ofNat p).toInt = (m 213 4).toInt := hq
    have q2 : (Int32.ofNat j).toInt = (m 213 5).toInt := h
    rw [hN] at q1
    rw [hJ] at q2
    refine s0 0 ?_
    unfold ab_b0
    rw [if_pos ⟨ev_ne_of (by omega) (by omega) q1, ev_ne_of (by omega) (by omega) q2⟩]
end EvSettle
end
section
/-! the class's joiner: what a match costs -/
section EvMatch
variable {w : ev_W} {Q : ev_QT} {m : ev_Mem} {t : ev_H}
def ab_dst (m : ev_Mem) (fo : Nat → Option ab_Ls) (x y : Nat) : Nat := if (m 205 x).toInt = (m 205 y).toInt then 0 else ab_apart (fo x) (fo y)
def ab_mcn (T : ab_T) (p : Nat) (g : Nat → Nat) : Nat → Nat
  | 0 => 12
  | n + 1 => match T.2.1 p n with
    | none => ab_mcn T p g n
    | some i => min (ab_mcn T p g n) (g (10 * n + i))
theorem ab_apart_le (a b : Option ab_Ls) : ab_apart a b ≤ 12 := by
  unfold ab_apart
  split <;> omega
theorem ab_dst_le (m : ev_Mem) (fo : Nat → Option ab_Ls) (x y : Nat) : ab_dst m fo x y ≤ 12 := by
  unfold ab_dst
  split
  · omega
  · exact ab_apart_le _ _
theorem ab_mcn_le (T : ab_T) (p : Nat) (g : Nat → Nat) : ∀ n, ab_mcn T p g n ≤ 12
  | 0 => Nat.le_refl _
  | n + 1 => by
    have h := ab_mcn_le T p g n
    unfold ab_mcn
    split <;> omega
theorem ab_FO_cong {m m' : ev_Mem} {fo : Nat → Option ab_Ls} (h : ∀ k j, k ≠ 208 → m' k j = m k j) (hF : ab_FO m fo) : ab_FO m' fo := by
  intro x hx ht
  rw [ab_th_cong (fun j => h _ _ (by decide))] at ht
  obtain ⟨a, b⟩ := hF x hx ht
  exact ⟨ab_F_cong (fun j => h _ _ (by omega)) (fun j => h _ _ (by omega)) a, b⟩
theorem ab_TC_cong {m m' : ev_Mem} {T : ab_T} (h : ∀ k j, 209 ≤ k → k ≤ 212 → m' k j = m k j) (hT : ab_TC m T) : ab_TC m' T := by
  obtain ⟨t1, t2, t3, t4, t5, t6⟩ := hT
  refine ⟨by rw [h _ _ (by decide) (by decide)]; exact t1, fun p hp v hv => by rw [h _ _ (by decide) (by decide)]; exact t2 p hp v hv, fun p hp => by rw [h _ _ (by decide) (by decide)]; exact t3 p hp, by rw [h _ _ (by decide) (by decide)]; exact t4, fun k hk => by rw [h _ _ (by decide) (by decide)]; exact t5 k hk, by rw [h _ _ (by decide) (by decide)]; exact t6⟩
/-- Joiner.matchCost -/
theorem ev_S53 {p x : Nat} {T : ab_T} {fo : Nat → Option ab_Ls} (A : ev_all w) (hT : ab_TC m T) (hok : ab_Tok T) (hp1 : p < T.1) (hx : x < 40) (hxt : ab_th m x = true) (hFO : ab_FO m fo) (hcell : ∀ v i, v < 4 → T.2.1 p v = some i → ab_th m (10 * v + i) = true) (haz : ∀ y l, y < 40 → ab_th m y = true → fo y = some l → ab_az l)
    (hQ : ∀ m', (∀ k j, k ≠ 208 → m' k j = m k j) → Q (.inl (some (.int (Int32.ofNat (ab_mcn T p (ab_dst m fo x) 4))))) m' t) : ev_K w 53 [.ref 209, .ref 40, .int (Int32.ofNat p), .int (Int32.ofNat x)] m t Q := by
  have hp : ev_prog[53]? = some ev_m53 := rfl
  have k1 := hok.1
  have loop : ∀ (n k : Nat) (mk : ev_Mem) (o6 : Option Value), k + n = 4 → (∀ k j, k ≠ 208 → mk k j = m k j) → ev_J w ev_m53 (ev_nd 53) Q 7 [some (.ref 209), some (.ref 40), some (.int (Int32.ofNat p)), some (.int (Int32.ofNat x)), some (.int (Int32.ofNat (ab_mcn T p (ab_dst m fo x) k))), some (.int (Int32.ofNat k)), o6] [] mk t := by
    intro n
    induction n with
    | zero =>
      intro k mk o6 hk hf
      have ek := ev_ofNat_i (n := k) (by omega)
      have i4 := ev_i4
      have hk4 : k = 4 := by omega
      refine ev_gK A hp [] 10 ?_
      refine And.intro (fun h => ?_) (fun h => ?_)
      · rw [hk4]
        exact hQ mk hf
      · have h2 : (Int32.ofNat k).toInt < (Int32.ofInt 4).toInt := h
        omega
    | succ n ih =>
      intro k mk o6 hk hf
      have ek := ev_ofNat_i (n := k) (by omega)
      have i4 := ev_i4
      have hk4 : k < 4 := by omega
      have hTk : ab_TC mk T := ab_TC_cong (fun k j z1 z2 => hf k j (by omega)) hT
      have hle := ab_mcn_le T p (ab_dst m fo x) k
      refine ev_gK A hp [7, 22] 10 ?_
      refine And.intro (fun h => ?_) (fun h => ?_)
      · have h2 : (Int32.ofInt 4).toInt ≤ (Int32.ofNat k).toInt := h
        omega
      show ev_K w 38 [.ref 209, .int (Int32.ofNat p), .int (Int32.ofNat k)] mk t _
      refine ev_S38 A (by omega) hk4 (hTk.2.1 p hp1 k hk4) (fun i hi => hok.2.1 p k i hi) ?_
      show ev_J w ev_m53 (ev_nd 53) Q 22 [some (.ref 209), some (.ref 40), some (.int (Int32.ofNat p)), some (.int (Int32.ofNat x)), some (.int (Int32.ofNat (ab_mcn T p (ab_dst m fo x) k))), some (.int (Int32.ofNat k)), some (.int (ab_oi (ab_num k (T.2.1 p k))))] [] mk t
      have hthk : ∀ z, ab_th mk z = ab_th m z := ab_th_cong (fun j => hf _ _ (by decide))
      cases hc : T.2.1 p k with
      | none =>
        have e1 : ab_mcn T p (ab_dst m fo x) (k + 1) = ab_mcn T p (ab_dst m fo x) k := by rw [ab_mcn, hc]
        refine ev_gK A hp [7] 10 ?_
        refine And.intro (fun h => ?_) (fun h => absurd rfl (h : ¬ (-1 : Int32).toInt = (-1 : Int32).toInt))
        show ev_J w ev_m53 (ev_nd 53) Q 7 [some (.ref 209), some (.ref 40), some (.int (Int32.ofNat p)), some (.int (Int32.ofNat x)), some (.int (Int32.ofNat (ab_mcn T p (ab_dst m fo x) k))), some (.int (Int32.ofNat k + 1)), some (.int (-1))] [] mk t
        rw [ev_succ (by omega), ← e1]
        exact ih (k + 1) mk _ (by omega) hf
      | some i =>
        have hi := hok.2.1 p k i hc
        have hyt := hcell k i hk4 hc
        have hy40 : 10 * k + i < 40 := by omega
        have e1 : ab_mcn T p (ab_dst m fo x) (k + 1) = min (ab_mcn T p (ab_dst m fo x) k) (ab_dst m fo x (10 * k + i)) := by rw [ab_mcn, hc]
        have hdl := ab_dst_le m fo x (10 * k + i)
        refine ev_gK A hp [7] 20 ?_
        refine And.intro (fun h => ?_) (fun h => ?_)
        · have h2 : (Int32.ofNat (10 * k + i)).toInt = (Int32.ofInt (-1)).toInt := h
          rw [ev_im1, ev_ofNat_i (by omega)] at h2
          omega
        show ev_K w 33 [.ref 40, .int (Int32.ofNat x), .int (Int32.ofNat (10 * k + i))] mk t _
        refine ev_S33 A hx hy40 (ab_FO_cong hf hFO) (by rw [hthk]; exact hxt) (by rw [hthk]; exact hyt) (fun l hl => haz x l hx hxt hl) (fun l hl => haz _ l hy40 hyt hl) (fun m' hf' => ?_)
        rw [hf 205 x (by decide), hf 205 (10 * k + i) (by decide)]
        show ev_K w 0 [.int (Int32.ofNat (ab_mcn T p (ab_dst m fo x) k)), .int (Int32.ofNat (ab_dst m fo x (10 * k + i)))] m' t _
        refine ev_S0 A ?_
        rw [ev_minN (by omega) (by omega), ← e1]
        show ev_J w ev_m53 (ev_nd 53) Q 7 [some (.ref 209), some (.ref 40), some (.int (Int32.ofNat p)), some (.int (Int32.ofNat x)), some (.int (Int32.ofNat (ab_mcn T p (ab_dst m fo x) (k + 1)))), some (.int (Int32.ofNat k + 1)), some (.int (Int32.ofNat (10 * k + i)))] [] m' t
        rw [ev_succ (by omega)]
        exact ih (k + 1) m' _ (by omega) (fun c j hcj => (hf' c j hcj).trans (hf c j hcj))
  refine ⟨Or.inl rfl, ev_m53, rfl, ev_gK A hp [7] 10 ?_⟩
  exact loop 4 0 m _ rfl (fun _ _ _ => rfl)
end EvMatch
end
section
/-! the least cost of what is left: a places and b words -/
section EvCosts
def ab_Cn (prev f : Nat → Nat) : Nat → Nat
  | 0 => 8 + prev 0
  | b + 1 => min (f b + prev b) (min (8 + prev (b + 1)) (8 + ab_Cn prev f b))
def ab_C (g : Nat → Nat → Nat) : Nat → Nat → Nat
  | 0 => fun b => 8 * b
  | a + 1 => ab_Cn (ab_C g a) (g a)
theorem ab_C00 (g : Nat → Nat → Nat) : ab_C g 0 0 = 0 := rfl
theorem ab_C0s (g : Nat → Nat → Nat) (b : Nat) : ab_C g 0 (b + 1) = 8 + ab_C g 0 b := by show 8 * (b + 1) = 8 + 8 * b; omega
theorem ab_Cs0 (g : Nat → Nat → Nat) (a : Nat) : ab_C g (a + 1) 0 = 8 + ab_C g a 0 := rfl
theorem ab_Css (g : Nat → Nat → Nat) (a b : Nat) : ab_C g (a + 1) (b + 1) = min (g a b + ab_C g a b) (min (8 + ab_C g a (b + 1)) (8 + ab_C g (a + 1) b)) := rfl
theorem ab_C_le (g : Nat → Nat → Nat) : ∀ a b, ab_C g a b ≤ 8 * (a + b)
  | 0, b => by show 8 * b ≤ _; omega
  | a + 1, 0 => by
    have h := ab_C_le g a 0
    rw [ab_Cs0]; omega
  | a + 1, b + 1 => by
    have h := ab_C_le g a (b + 1)
    rw [ab_Css]; omega
/-- the step taken: 0 a match, 1 a place passed, 2 a word put in -/
def ab_S (g : Nat → Nat → Nat) (a b : Nat) : Nat :=
  if 0 < a ∧ 0 < b ∧ ab_C g a b = g (a - 1) (b - 1) + ab_C g (a - 1) (b - 1) then 0 else if 0 < a ∧ ab_C g a b = 8 + ab_C g (a - 1) b then 1 else 2
/-- what settle's row asks for, of what is left -/
def ab_mco (g : Nat → Nat → Nat) (a b : Nat) : Option Nat := if 0 < a ∧ 0 < b then some (g (a - 1) (b - 1)) else none
theorem ab_b3_C (g : Nat → Nat → Nat) (hg : ∀ a b, g a b ≤ 12) {p j N J : Nat} (hp : p ≤ N) (hj : j ≤ J) (hN : N ≤ 24) (hJ : J ≤ 10) : ab_b3 p j N J (ab_mco g (N - p) (J - j)) (ab_C g (N - p - 1) (J - j - 1)) (ab_C g (N - p - 1) (J - j)) (ab_C g (N - p) (J - j - 1)) = ab_C g (N - p) (J - j) := by
  have c1 := ab_C_le g (N - p) (J - j)
  obtain ⟨a, ha⟩ : ∃ a, N - p = a := ⟨_, rfl⟩
  obtain ⟨b, hb⟩ : ∃ b, J - j = b := ⟨_, rfl⟩
  rw [ha, hb] at c1
  rw [ha, hb]
  unfold ab_b3 ab_b2 ab_b1 ab_b0 ab_mco
  cases a with
  | zero =>
    cases b with
    | zero =>
      rw [if_neg (by omega), if_neg (by omega)]
      simp only [Nat.lt_irrefl, false_and, if_false]
      rw [if_pos ⟨by omega, by omega⟩]
      rfl
    | succ b =>
      have c2 := ab_C_le g 0 b
      rw [if_pos (by omega), if_neg (by omega)]
      simp only [Nat.lt_irrefl, false_and, if_false, Nat.add_sub_cancel]
      rw [if_neg (by omega), ab_C0s]
      omega
  | succ a =>
    cases b with
    | zero =>
      have c2 := ab_C_le g a 0
      rw [if_neg (by omega), if_pos (by omega)]
      simp only [Nat.lt_irrefl, and_false, if_false, Nat.add_sub_cancel]
      rw [if_neg (by omega), ab_Cs0]
      omega
    | succ b =>
      have c2 := ab_C_le g a (b + 1)
      have c3 := ab_C_le g (a + 1) b
      have c4 := ab_C_le g a b
      have c5 := hg a b
      rw [if_pos (by omega), if_pos (by omega)]
      simp only [Nat.zero_lt_succ, and_self, if_true, Nat.add_sub_cancel]
      rw [if_neg (by omega), ab_Css]
      omega
end EvCosts
end
section
/-! .. and the step that settle lays down -/
section EvSteps
theorem ab_m1_s (m : ev_Mem) (p j N J : Nat) (mc : Option Nat) (x : Nat) : ab_m1 m p j N J mc x 215 (11 * p + j) = match mc with | none => m 215 (11 * p + j) | some c => if c + x < ab_b0 p j N J then Int32.ofNat 0 else m 215 (11 * p + j) := by
  unfold ab_m1
  cases mc with
  | none => exact ev_up_cell _ (by decide) _ _ _
  | some c =>
    show ab_of _ _ _ _ _ 215 (11 * p + j) = _
    rw [ab_of_s, ev_up_cell _ (by decide)]
theorem ab_m2_s (m : ev_Mem) (p j N J : Nat) (mc : Option Nat) (x y : Nat) : ab_m2 m p j N J mc x y 215 (11 * p + j) = if p < N ∧ 8 + y < ab_b1 p j N J mc x then Int32.ofNat 1 else ab_m1 m p j N J mc x 215 (11 * p + j) := by
  unfold ab_m2
  by_cases hp : p < N
  · rw [if_pos hp, ab_of_s]
    by_cases h : 8 + y < ab_b1 p j N J mc x
    · rw [if_pos h, if_pos ⟨hp, h⟩]
    · rw [if_neg h, if_neg (fun q => h q.2)]
  · rw [if_neg hp, if_neg (fun q => hp q.1)]
theorem ab_m3_s (m : ev_Mem) (p j N J : Nat) (mc : Option Nat) (x y z : Nat) : ab_m3 m p j N J mc x y z 215 (11 * p + j) = if j < J ∧ 8 + z < ab_b2 p j N J mc x y then Int32.ofNat 2 else ab_m2 m p j N J mc x y 215 (11 * p + j) := by
  unfold ab_m3
  by_cases hp : j < J
  · rw [if_pos hp, ab_of_s]
    by_cases h : 8 + z < ab_b2 p j N J mc x y
    · rw [if_pos h, if_pos ⟨hp, h⟩]
    · rw [if_neg h, if_neg (fun q => h q.2)]
  · rw [if_neg hp, if_neg (fun q => hp q.1)]
theorem ab_m3_S (m : ev_Mem) (g : Nat → Nat → Nat) (hg : ∀ a b, g a b ≤ 12) {p j N J : Nat} (hp : p ≤ N) (hj : j ≤ J) (hN : N ≤ 24) (hJ : J ≤ 10) (hne : ¬ (p = N ∧ j = J)) :
    ab_m3 m p j N J (ab_mco g (N - p) (J - j)) (ab_C g (N - p - 1) (J - j - 1)) (ab_C g (N - p - 1) (J - j)) (ab_C g (N - p) (J - j - 1)) 215 (11 * p + j) = Int32.ofNat (ab_S g (N - p) (J - j)) := by
  rw [ab_m3_s, ab_m2_s, ab_m1_s]
  have c1 := ab_C_le g (N - p) (J - j)
  obtain ⟨a, ha⟩ : ∃ a, N - p = a := ⟨_, rfl⟩
  obtain ⟨b, hb⟩ : ∃ b, J - j = b := ⟨_, rfl⟩
  rw [ha, hb] at c1
  rw [ha, hb]
  have hb0 : ab_b0 p j N J = 1000000 := if_neg hne
  unfold ab_S ab_b2 ab_b1 ab_mco
  rw [hb0]
  cases a with
  | zero =>
    cases b with
    | zero => exact absurd ⟨by omega, by omega⟩ hne
    | succ b =>
      have c2 := ab_C_le g 0 b
      simp only [Nat.lt_irrefl, false_and, if_false, Nat.add_sub_cancel]
      rw [if_neg (by omega : ¬ p < N), if_pos ⟨by omega, by omega⟩]
  | succ a =>
    have hpN : p < N := by omega
    cases b with
    | zero =>
      have c2 := ab_C_le g a 0
      simp only [Nat.lt_irrefl, and_false, false_and, if_false, Nat.add_sub_cancel]
      rw [if_pos hpN, if_neg (by omega), if_pos ⟨hpN, by omega⟩, if_pos ⟨by omega, ab_Cs0 g a⟩]
    | succ b =>
      have hjJ : j < J := by omega
      have c2 := ab_C_le g a (b + 1)
      have c3 := ab_C_le g (a + 1) b
      have c4 := ab_C_le g a b
      have c5 := hg a b
      have e1 := ab_Css g a b
      simp only [Nat.zero_lt_succ, and_self, if_true, Nat.add_sub_cancel, true_and]
      rw [if_pos hpN, e1]
      generalize ab_C g a b = X at *
      generalize ab_C g a (b + 1) = Y at *
      generalize ab_C g (a + 1) b = Z at *
      generalize g a b = G at *
      by_cases h2 : 8 + Z < min (8 + Y) (min (G + X) 1000000)
      · rw [if_pos ⟨hjJ, h2⟩, if_neg (by omega), if_neg (by omega)]
      · rw [if_neg (fun q => h2 q.2)]
        by_cases h1 : 8 + Y < min (G + X) 1000000
        · rw [if_pos ⟨hpN, h1⟩, if_neg (by omega), if_pos (by omega)]
        · rw [if_neg (fun q => h1 q.2), if_pos (by omega), if_pos (by omega)]
end EvSteps
end
section
/-! the class's joiner: the table of costs, worked out -/
section EvPlan
variable {w : ev_W} {Q : ev_QT} {m : ev_Mem} {t : ev_H}
theorem ev_dec1 {k : Nat} (h : k < 100000) : Int32.ofNat k + Int32.ofInt (-1) = Int32.ofInt ((k : Int) - 1) := by
  apply ev_eq_of
  have e2 := ev_ofNat_i (n := k) (by omega)
  have e1 : (Int32.ofInt (-1)).toInt = -1 := by decide
  rw [ev_add_i (by omega) (by omega), e2, e1, ev_ofInt_i (by omega) (by omega)]
  omega
theorem ev_inc1 {k : Nat} (h : k < 100000) : Int32.ofInt (((k + 1 : Nat) : Int) - 1) = Int32.ofNat k := by
  apply ev_eq_of
  rw [ev_ofInt_i (by omega) (by omega), ev_ofNat_i (by omega)]
  omega
def ab_dn (mk : ev_Mem) (g : Nat → Nat → Nat) (N J p l : Nat) : Prop := ∀ p' j', p' ≤ N → j' ≤ J → (p < p' ∨ (p' = p ∧ l ≤ j')) → mk 214 (11 * p' + j') = Int32.ofNat (ab_C g (N - p') (J - j')) ∧ (¬ (p' = N ∧ j' = J) → mk 215 (11 * p' + j') = Int32.ofNat (ab_S g (N - p') (J - j')))
def ab_gm (T : ab_T) (d : Nat → Nat → Nat) (v N J : Nat) (a b : Nat) : Nat := ab_mcn T (N - 1 - a) (d (10 * v + (J - 1 - b))) 4
/-- the two loops of Joiner.plan -/
theorem ev_plan {v N J : Nat} {T : ab_T} {fo : Nat → Option ab_Ls} (A : ev_all w) (hT : ab_TC m T) (hok : ab_Tok T) (hv : v < 4) (hN : N = T.1) (hJ10 : J ≤ 10) (hFO : ab_FO m fo) (hth : ∀ j, j < J → ab_th m (10 * v + j) = true) (hcell : ∀ p v i, p < T.1 → v < 4 → T.2.1 p v = some i → ab_th m (10 * v + i) = true) (haz : ∀ y l, y < 40 → ab_th m y = true → fo y = some l → ab_az l)
    (hm4 : m 213 4 = Int32.ofNat N) (hm5 : m 213 5 = Int32.ofNat J)
    (kont : ∀ (mk : ev_Mem) (o5 o6 : Option Value), (∀ c i, c ≠ 208 → c ≠ 214 → c ≠ 215 → mk c i = m c i) → ab_dn mk (ab_gm T (ab_dst m fo) v N J) N J 0 0 → ev_J w ev_m52 (ev_nd 52) Q 106 [some (.ref 213), some (.ref 209), some (.ref 40), some (.int (Int32.ofNat v)), some (.int (-1)), o5, o6] [] mk t) :
    ev_J w ev_m52 (ev_nd 52) Q 17 [some (.ref 213), some (.ref 209), some (.ref 40), some (.int (Int32.ofNat v)), none, none, none] [] m t := by
  have hp : ev_prog[52]? = some ev_m52 := rfl
  have k1 := hok.1
  have hN24 : N ≤ 24 := by omega
  have eN := ev_ofNat_i (n := N) (by omega)
  have eJ := ev_ofNat_i (n := J) (by omega)
  have em1 := ev_im1
  have hg : ∀ a b, ab_gm T (ab_dst m fo) v N J a b ≤ 12 := fun a b => ab_mcn_le _ _ _ _
  have hgp : ∀ p j, p < N → j < J → ab_gm T (ab_dst m fo) v N J (N - p - 1) (J - j - 1) = ab_mcn T p (ab_dst m fo (10 * v + j)) 4 := by
    intro p j h1 h2
    unfold ab_gm
    have q1 : N - 1 - (N - p - 1) = p := by omega
    have q2 : J - 1 - (J - j - 1) = j := by omega
    rw [q1, q2]
  generalize hgg : ab_gm T (ab_dst m fo) v N J = g at *
  have inner : ∀ (p : Nat), p ≤ N → (∀ (mk : ev_Mem) (o5 o6 : Option Value), (∀ c i, c ≠ 208 → c ≠ 214 → c ≠ 215 → mk c i = m c i) → ab_dn mk g N J p 0 → ev_J w ev_m52 (ev_nd 52) Q 23 [some (.ref 213), some (.ref 209), some (.ref 40), some (.int (Int32.ofNat v)), some (.int (Int32.ofInt ((p : Int) - 1))), o5, o6] [] mk t) →
      ∀ (l : Nat) (mk : ev_Mem) (o6 : Option Value), l ≤ J + 1 → (∀ c i, c ≠ 208 → c ≠ 214 → c ≠ 215 → mk c i = m c i) → ab_dn mk g N J p l → ev_J w ev_m52 (ev_nd 52) Q 34 [some (.ref 213), some (.ref 209), some (.ref 40), some (.int (Int32.ofNat v)), some (.int (Int32.ofNat p)), some (.int (Int32.ofInt ((l : Int) - 1))), o6] [] mk t := by
    intro p hpN kp l
    have ep := ev_ofNat_i (n := p) (by omega)
    induction l with
    | zero =>
      intro mk o6 hl hf hd
      refine ev_gK A hp [23, 100] 10 ?_
      refine And.intro (fun h => ?_) (fun h => ?_)
      · show ev_J w ev_m52 (ev_nd 52) Q 100 [some (.ref 213), some (.ref 209), some (.ref 40), some (.int (Int32.ofNat v)), some (.int (Int32.ofNat p)), some (.int (Int32.ofInt (((0 : Nat) : Int) - 1))), o6] [] mk t
        refine ev_gK A hp [23] 10 ?_
        show ev_J w ev_m52 (ev_nd 52) Q 23 [some (.ref 213), some (.ref 209), some (.ref 40), some (.int (Int32.ofNat v)), some (.int (Int32.ofNat p + Int32.ofInt (-1))), some (.int (Int32.ofInt (((0 : Nat) : Int) - 1))), o6] [] mk t
        rw [ev_dec1 (by omega)]
        exact kp mk _ _ hf hd
      · have h2 : 0 ≤ (Int32.ofInt (((0 : Nat) : Int) - 1)).toInt := h
        rw [ev_ofInt_i (by omega) (by omega)] at h2
        omega
    | succ l ih =>
      intro mk o6 hl hf hd
      rw [ev_inc1 (by omega)]
      have el := ev_ofNat_i (n := l) (by omega)
      have f4 : ∀ mk' : ev_Mem, (∀ c i, c ≠ 208 → c ≠ 214 → c ≠ 215 → mk' c i = m c i) → mk' 213 4 = Int32.ofNat N ∧ mk' 213 5 = Int32.ofNat J := fun mk' hf' => ⟨by rw [hf' _ _ (by decide) (by decide) (by decide)]; exact hm4, by rw [hf' _ _ (by decide) (by decide) (by decide)]; exact hm5⟩
      have h91 : ∀ (mk' : ev_Mem) (o6 : Option Value), (∀ c i, c ≠ 208 → c ≠ 214 → c ≠ 215 → mk' c i = m c i) → ab_dn mk' g N J p (l + 1) → ev_J w ev_m52 (ev_nd 52) Q 91 [some (.ref 213), some (.ref 209), some (.ref 40), some (.int (Int32.ofNat v)), some (.int (Int32.ofNat p)), some (.int (Int32.ofNat l)), o6] [.int (ab_oi (ab_mco g (N - p) (J - l))), .int (Int32.ofNat l), .int (Int32.ofNat p), .ref 213] mk' t := by
        intro mk' o6 hf' hd'
        have c1 := ab_C_le g (N - p - 1) (J - l - 1)
        have c2 := ab_C_le g (N - p - 1) (J - l)
        have c3 := ab_C_le g (N - p) (J - l - 1)
        refine ev_gK A hp [34] 10 ?_
        show ev_K w 54 [.ref 213, .int (Int32.ofNat p), .int (Int32.ofNat l), .int (ab_oi (ab_mco g (N - p) (J - l)))] mk' t _
        refine ev_S54 (N := N) (J := J) (x := ab_C g (N - p - 1) (J - l - 1)) (y := ab_C g (N - p - 1) (J - l)) (z := ab_C g (N - p) (J - l - 1)) A (f4 mk' hf').1 (f4 mk' hf').2 hpN (by omega) hN24 hJ10 (by omega) (by omega) (by omega) (fun c hc => ?_) (fun c hc => ?_) (fun hpl => ?_) (fun hjl => ?_) ?_
        · unfold ab_mco at hc
          split at hc
          · rename_i hab
            cases hc
            have := hg (N - p - 1) (J - l - 1)
            exact ⟨by omega, by omega, by omega⟩
          · cases hc
        · unfold ab_mco at hc
          split at hc
          · rename_i hab
            have q := (hd' (p + 1) (l + 1) (by omega) (by omega) (Or.inl (by omega))).1
            have e1 : 11 * (p + 1) + (l + 1) = 11 * p + l + 12 := by omega
            have e2 : N - (p + 1) = N - p - 1 := by omega
            have e3 : J - (l + 1) = J - l - 1 := by omega
            rw [e1, e2, e3] at q
            exact q
          · cases hc
        · have q := (hd' (p + 1) l (by omega) (by omega) (Or.inl (by omega))).1
          have e1 : 11 * (p + 1) + l = 11 * p + l + 11 := by omega
          have e2 : N - (p + 1) = N - p - 1 := by omega
          rw [e1, e2] at q
          exact q
        · have q := (hd' p (l + 1) hpN (by omega) (Or.inr ⟨rfl, Nat.le_refl _⟩)).1
          have e1 : 11 * p + (l + 1) = 11 * p + l + 1 := by omega
          have e3 : J - (l + 1) = J - l - 1 := by omega
          rw [e1, e3] at q
          exact q
        · show ev_J w ev_m52 (ev_nd 52) Q 34 [some (.ref 213), some (.ref 209), some (.ref 40), some (.int (Int32.ofNat v)), some (.int (Int32.ofNat p)), some (.int (Int32.ofNat l + Int32.ofInt (-1))), o6] [] (ab_m3 mk' p l N J (ab_mco g (N - p) (J - l)) (ab_C g (N - p - 1) (J - l - 1)) (ab_C g (N - p - 1) (J - l)) (ab_C g (N - p) (J - l - 1))) t
          rw [ev_dec1 (by omega)]
          refine ih _ _ (by omega) (fun c i z1 z2 z3 => ?_) (fun p' j' z1 z2 z3 => ?_)
          · rw [ab_m3_fr _ _ _ _ _ _ _ _ _ (by omega)]; exact hf' c i z1 z2 z3
          · by_cases hsame : p' = p ∧ j' = l
            · obtain ⟨rfl, rfl⟩ := hsame
              exact ⟨by rw [ab_m3_c, ab_b3_C g hg z1 z2 hN24 hJ10], fun hne => ab_m3_S mk' g hg z1 z2 hN24 hJ10 hne⟩
            · have hix : 11 * p' + j' ≠ 11 * p + l := by omega
              rw [ab_m3_fr _ _ _ _ _ _ _ _ _ (fun q => hix q.2), ab_m3_fr _ _ _ _ _ _ _ _ _ (fun q => hix q.2)]
              exact hd' p' j' z1 z2 (by omega)
      have h62 : ∀ cm : Bool, cm = decide (p < N ∧ l < J) → ev_J w ev_m52 (ev_nd 52) Q 62 [some (.ref 213), some (.ref 209), some (.ref 40), some (.int (Int32.ofNat v)), some (.int (Int32.ofNat p)), some (.int (Int32.ofNat l)), o6] [.int (ab_bi cm)] mk t := by
        intro cm hcm
        refine ev_gK A hp [91] 20 ?_
        refine And.intro (fun h => ?_) (fun h => ?_)
        · have hc := ab_bi_eq h
          rw [hcm] at hc
          have hc' := of_decide_eq_false hc
          have e1 : ab_mco g (N - p) (J - l) = none := if_neg (by omega)
          have h1 := h91 mk (some (.int (ab_bi cm))) hf hd
          rw [e1] at h1
          exact h1
        · have hc := ab_bi_neq h
          rw [hcm] at hc
          obtain ⟨hc1, hc2⟩ := of_decide_eq_true hc
          have e1 : ab_mco g (N - p) (J - l) = some (ab_mcn T p (ab_dst m fo (10 * v + l)) 4) := by
            unfold ab_mco
            rw [if_pos (by omega), hgp p l hc1 hc2]
          show ev_K w 106 [.int (Int32.ofNat v), .int (Int32.ofNat l)] mk t _
          refine ev_S106 A (by omega) (by omega) ?_
          show ev_K w 53 [.ref 209, .ref 40, .int (Int32.ofNat p), .int (Int32.ofNat (10 * v + l))] mk t _
          have hthk : ∀ z, ab_th mk z = ab_th m z := ab_th_cong (fun j => hf _ _ (by decide) (by decide) (by decide))
          have hFOk : ab_FO mk fo := by
            intro x hx ht
            rw [hthk] at ht
            obtain ⟨a, b⟩ := hFO x hx ht
            exact ⟨ab_F_cong (fun j => hf _ _ (by omega) (by omega) (by omega)) (fun j => hf _ _ (by omega) (by omega) (by omega)) a, b⟩
          refine ev_S53 (fo := fo) (T := T) A (ab_TC_cong (fun k j z1 z2 => hf k j (by omega) (by omega) (by omega)) hT) hok (by omega) (by omega) (by rw [hthk]; exact hth l hc2) hFOk (fun u i hu hi => by rw [hthk]; exact hcell p u i (by omega) hu hi) (fun y k hy ht hk => haz y k hy (by rw [← hthk]; exact ht) hk) (fun m' hf' => ?_)
          have ed : ab_dst mk fo (10 * v + l) = ab_dst m fo (10 * v + l) := by
            funext y
            unfold ab_dst
            rw [hf 205 _ (by decide) (by decide) (by decide), hf 205 _ (by decide) (by decide) (by decide)]
          rw [ed]
          have h1 := h91 m' (some (.int (ab_bi cm))) (fun c i z1 z2 z3 => (hf' c i z1).trans (hf c i z1 z2 z3)) (fun p' j' z1 z2 z3 => by rw [hf' _ _ (by decide), hf' _ _ (by decide)]; exact hd p' j' z1 z2 z3)
          rw [e1] at h1
          exact h1
      obtain ⟨q4, q5⟩ := f4 mk hf
      refine ev_gK A hp [62] 20 ?_
      refine And.intro (fun h => ?_) (fun h => ?_)
      · have h2 : (Int32.ofNat l).toInt < 0 := h
        omega
      refine And.intro (fun h => ?_) (fun h => ?_)
      · have h2 : (mk 213 4).toInt ≤ (Int32.ofNat p).toInt := h
        rw [q4] at h2
        exact h62 false (decide_eq_false (by omega)).symm
      refine And.intro (fun h' => ?_) (fun h' => ?_)
      · have h2 : (mk 213 5).toInt ≤ (Int32.ofNat l).toInt := h'
        rw [q5] at h2
        exact h62 false (decide_eq_false (by omega)).symm
      · have h2 : (Int32.ofNat p).toInt < (mk 213 4).toInt := h
        have h3 : (Int32.ofNat l).toInt < (mk 213 5).toInt := h'
        rw [q4] at h2
        rw [q5] at h3
        exact h62 true (decide_eq_true ⟨by omega, by omega⟩).symm
  have outer : ∀ (k : Nat) (mk : ev_Mem) (o5 o6 : Option Value), k ≤ N + 1 → (∀ c i, c ≠ 208 → c ≠ 214 → c ≠ 215 → mk c i = m c i) → (∀ p' j', p' ≤ N → j' ≤ J → k ≤ p' → mk 214 (11 * p' + j') = Int32.ofNat (ab_C g (N - p') (J - j')) ∧ (¬ (p' = N ∧ j' = J) → mk 215 (11 * p' + j') = Int32.ofNat (ab_S g (N - p') (J - j')))) →
      ev_J w ev_m52 (ev_nd 52) Q 23 [some (.ref 213), some (.ref 209), some (.ref 40), some (.int (Int32.ofNat v)), some (.int (Int32.ofInt ((k : Int) - 1))), o5, o6] [] mk t := by
    intro k
    induction k with
    | zero =>
      intro mk o5 o6 hk hf hd
      refine ev_gK A hp [106] 10 ?_
      refine And.intro (fun h => ?_) (fun h => ?_)
      · exact kont mk o5 o6 hf (fun p' j' z1 z2 _ => hd p' j' z1 z2 (Nat.zero_le _))
      · have h2 : 0 ≤ (Int32.ofInt (((0 : Nat) : Int) - 1)).toInt := h
        rw [ev_ofInt_i (by omega) (by omega)] at h2
        omega
    | succ k ih =>
      intro mk o5 o6 hk hf hd
      rw [ev_inc1 (by omega)]
      have ek := ev_ofNat_i (n := k) (by omega)
      refine ev_gK A hp [34] 10 ?_
      refine And.intro (fun h => ?_) (fun h => ?_)
      · have h2 : (Int32.ofNat k).toInt < 0 := h
        omega
      show ev_J w ev_m52 (ev_nd 52) Q 34 [some (.ref 213), some (.ref 209), some (.ref 40), some (.int (Int32.ofNat v)), some (.int (Int32.ofNat k)), some (.int (mk 213 5)), o6] [] mk t
      have e5 : mk 213 5 = Int32.ofInt (((J + 1 : Nat) : Int) - 1) := by
        rw [hf _ _ (by decide) (by decide) (by decide), hm5, ev_inc1 (by omega)]
      rw [e5]
      refine inner k (by omega) (fun mk' o5 o6 hf' hd' => ih mk' o5 o6 (by omega) hf' (fun p' j' z1 z2 z3 => hd' p' j' z1 z2 (by omega))) (J + 1) mk o6 (Nat.le_refl _) hf (fun p' j' z1 z2 z3 => hd p' j' z1 z2 (by omega))
  refine ev_gK A hp [23] 10 ?_
  show ev_J w ev_m52 (ev_nd 52) Q 23 [some (.ref 213), some (.ref 209), some (.ref 40), some (.int (Int32.ofNat v)), some (.int (m 213 4)), none, none] [] m t
  have e4 : m 213 4 = Int32.ofInt (((N + 1 : Nat) : Int) - 1) := by rw [hm4, ev_inc1 (by omega)]
  rw [e4]
  exact outer (N + 1) m _ _ (Nat.le_refl _) (fun _ _ _ _ _ => rfl) (fun p' j' z1 z2 z3 => by omega)
end EvPlan
end
section
/-! the class's joiner: the way, laid -/
section EvPath
variable {w : ev_W} {Q : ev_QT} {m : ev_Mem} {t : ev_H}
abbrev ev_vr (x : Nat) : Option Value := some (.ref x)
abbrev ev_vi (x : Int32) : Option Value := some (.int x)
abbrev ev_vn (n : Nat) : Option Value := some (.int (Int32.ofNat n))
theorem ev_lup {P : Nat → Prop} (N : Nat) (h : ∀ k, k ≤ N → (k < N → P (k + 1)) → P k) : ∀ k, k ≤ N → P k := by
  have key : ∀ n k, k + n = N → P k := by
    intro n
    induction n with
    | zero => intro k hk; exact h k (by omega) (fun q => by omega)
    | succ n ih => intro k hk; exact h k (by omega) (fun _ => ih (k + 1) (by omega))
  intro k hk
  exact key (N - k) k (by omega)
theorem ev_iin {i : Int32} {k n : Nat} (h : i = Int32.ofNat k) (hk : k < n) (hn : n < 100000) : ev_in i n := by rw [h]; exact ev_oin hk hn
theorem ev_at {i : Int32} {k : Nat} (h : i = Int32.ofNat k) (hk : k < 2147483648) : i.toNatClampNeg = k := by rw [h]; exact ev_on hk
theorem ev_toI {i : Int32} {k : Nat} (h : i = Int32.ofNat k) (hk : k < 2147483648) : i.toInt = (k : Int) := by rw [h]; exact ev_ofNat_i hk
theorem ab_drop_cons {α : Type} {l : List α} {k : Nat} {x d : α} {r : List α} (h : l.drop k = x :: r) : l.getD k d = x ∧ l.drop (k + 1) = r ∧ k < l.length := by
  have hk : k < l.length := by
    apply Nat.lt_of_not_le
    intro hle
    rw [List.drop_of_length_le hle] at h
    cases h
  rw [List.drop_eq_getElem_cons hk] at h
  injection h with h1 h2
  exact ⟨by rw [List.getD_eq_getElem?_getD, List.getElem?_eq_getElem hk]; exact h1, h2, hk⟩
theorem ab_S_cs (g : Nat → Nat → Nat) {a b : Nat} (h : ¬ (a = 0 ∧ b = 0)) : (ab_S g a b = 0 ∧ 0 < a ∧ 0 < b) ∨ (ab_S g a b = 1 ∧ 0 < a) ∨ (ab_S g a b = 2 ∧ 0 < b) := by
  unfold ab_S
  split
  · rename_i q; exact Or.inl ⟨rfl, q.1, q.2.1⟩
  · split
    · rename_i q; exact Or.inr (Or.inl ⟨rfl, q.1⟩)
    · rename_i q2
      refine Or.inr (Or.inr ⟨rfl, ?_⟩)
      cases b with
      | zero =>
        cases a with
        | zero => exact absurd ⟨rfl, rfl⟩ h
        | succ a => exact absurd ⟨by omega, ab_Cs0 g a⟩ q2
      | succ b => omega
def ab_P (g : Nat → Nat → Nat) : Nat → Nat → Nat → List Nat
  | 0, _, _ => []
  | n + 1, a, b => if a = 0 ∧ b = 0 then [] else ab_S g a b :: ab_P g n (if ab_S g a b = 2 then a else a - 1) (if ab_S g a b = 1 then b else b - 1)
def ab_path (g : Nat → Nat → Nat) (a b : Nat) : List Nat := ab_P g (a + b) a b
theorem ab_P_eq (g : Nat → Nat → Nat) : ∀ (n n' a b : Nat), a + b ≤ n → a + b ≤ n' → ab_P g n a b = ab_P g n' a b
  | 0, 0, _, _, _, _ => rfl
  | 0, n' + 1, a, b, h, _ => by rw [ab_P, ab_P, if_pos ⟨by omega, by omega⟩]
  | n + 1, 0, a, b, _, h => by rw [ab_P, ab_P, if_pos ⟨by omega, by omega⟩]
  | n + 1, n' + 1, a, b, h, h' => by
    rw [ab_P, ab_P]
    by_cases hz : a = 0 ∧ b = 0
    · rw [if_pos hz, if_pos hz]
    · rw [if_neg hz, if_neg hz]
      refine congrArg _ (ab_P_eq g n n' _ _ ?_ ?_)
      all_goals
        rcases ab_S_cs g hz with ⟨q, q1, q2⟩ | ⟨q, q1⟩ | ⟨q, q1⟩
        all_goals
          rw [q]
          simp
          omega
theorem ab_path_nil (g : Nat → Nat → Nat) : ab_path g 0 0 = [] := rfl
theorem ab_path_step (g : Nat → Nat → Nat) {a b : Nat} (h : ¬ (a = 0 ∧ b = 0)) : ab_path g a b = ab_S g a b :: ab_path g (if ab_S g a b = 2 then a else a - 1) (if ab_S g a b = 1 then b else b - 1) := by
  have e : ab_path g a b = ab_P g (a + b + 1) a b := ab_P_eq g _ _ _ _ (Nat.le_refl _) (Nat.le_succ _)
  rw [e, ab_P, if_neg h]
  refine congrArg _ (ab_P_eq g _ _ _ _ ?_ (Nat.le_refl _))
  rcases ab_S_cs g h with ⟨q, q1, q2⟩ | ⟨q, q1⟩ | ⟨q, q1⟩ <;> rw [q] <;> simp <;> omega
theorem ab_path_len (g : Nat → Nat → Nat) : ∀ (n a b : Nat), (ab_P g n a b).length ≤ n
  | 0, _, _ => Nat.le_refl _
  | n + 1, a, b => by
    rw [ab_P]
    split
    · exact Nat.zero_le _
    · rw [List.length_cons]; exact Nat.succ_le_succ (ab_path_len g n _ _)
/-- Joiner.layPath -/
theorem ev_S56 {g : Nat → Nat → Nat} {N J : Nat} (A : ev_all w) (h4 : m 213 4 = Int32.ofNat N) (h5 : m 213 5 = Int32.ofNat J) (hN : N ≤ 24) (hJ : J ≤ 10) (hd : ab_dn m g N J 0 0)
    (hQ : ∀ m' : ev_Mem, (∀ c i, c ≠ 216 → ¬ (c = 213 ∧ i = 3) → m' c i = m c i) → m' 213 3 = Int32.ofNat (ab_path g N J).length → (∀ i, i < (ab_path g N J).length → m' 216 i = Int32.ofNat ((ab_path g N J).getD i 0)) → Q (.inl none) m' t) : ev_K w 56 [.ref 213] m t Q := by
  have hp : ev_prog[56]? = some ev_m56 := rfl
  have loop : ∀ (n p j k : Nat) (pp jj kk : Int32) (mk : ev_Mem) (o4 : Option Value), (N - p) + (J - j) = n → p ≤ N → j ≤ J → k + n ≤ 34 → pp = Int32.ofNat p → jj = Int32.ofNat j → kk = Int32.ofNat k → k ≤ (ab_path g N J).length → (∀ c i, c ≠ 216 → ¬ (c = 213 ∧ i = 3) → mk c i = m c i) → mk 213 3 = Int32.ofNat k → (∀ i, i < k → mk 216 i = Int32.ofNat ((ab_path g N J).getD i 0)) → (ab_path g N J).drop k = ab_path g (N - p) (J - j) →
      ev_J w ev_m56 (ev_nd 56) Q 11 [ev_vr 213, ev_vi pp, ev_vi jj, ev_vi kk, o4] [] mk t := by
    intro n
    induction n using Nat.strongRecOn with
    | _ n ih =>
      intro p j k pp jj kk mk o4 hn hpN hjJ hk epp ejj ekk hkl hf h3 hall hdr
      subst epp ejj ekk
      have ep := ev_ofNat_i (n := p) (by omega)
      have ej := ev_ofNat_i (n := j) (by omega)
      have ek := ev_ofNat_i (n := k) (by omega)
      have e34 := ev_ofNat_i (n := 34) (by omega)
      have eN := ev_ofNat_i (n := N) (by omega)
      have eJ := ev_ofNat_i (n := J) (by omega)
      have f4 : mk 213 4 = Int32.ofNat N := by rw [hf _ _ (by decide) (by decide)]; exact h4
      have f5 : mk 213 5 = Int32.ofNat J := by rw [hf _ _ (by decide) (by decide)]; exact h5
      have fin : N - p = 0 ∧ J - j = 0 → Q (.inl none) mk t := by
        rintro ⟨q1, q2⟩
        rw [q1, q2, ab_path_nil] at hdr
        have hl : (ab_path g N J).length = k := by
          have := List.drop_eq_nil_iff.mp hdr
          omega
        exact hQ mk hf (by rw [hl]; exact h3) (fun i hi => hall i (by omega))
      have body : ¬ (N - p = 0 ∧ J - j = 0) → ev_J w ev_m56 (ev_nd 56) Q 36 [ev_vr 213, ev_vn p, ev_vn j, ev_vn k, o4] [] mk t := by
        intro hz
        have e11 : Int32.ofNat p * (Int8.ofInt 11).toInt32 + Int32.ofNat j = Int32.ofNat (11 * p + j) := ev_row11 (by omega) (by omega)
        have hS : mk 215 (11 * p + j) = Int32.ofNat (ab_S g (N - p) (J - j)) := by
          rw [hf _ _ (by decide) (by omega)]
          exact (hd p j hpN hjJ (by omega)).2 (by omega)
        rw [ab_path_step g hz] at hdr
        obtain ⟨d1, d2, d3⟩ := ab_drop_cons (d := 0) hdr
        have b67 : ∀ (s : Int32) (m2 : ev_Mem), s = Int32.ofNat (ab_S g (N - p) (J - j)) → (∀ c i, c ≠ 216 → ¬ (c = 213 ∧ i = 3) → m2 c i = m c i) → m2 213 3 = Int32.ofNat (k + 1) → (∀ i, i < k + 1 → m2 216 i = Int32.ofNat ((ab_path g N J).getD i 0)) → ev_J w ev_m56 (ev_nd 56) Q 67 [ev_vr 213, ev_vn p, ev_vn j, ev_vn k, ev_vi s] [] m2 t := by
          intro s m2 hs hf2 h32 hall2
          have i2 : (Int32.ofInt 2).toInt = 2 := by decide
          have i1 : (Int32.ofInt 1).toInt = 1 := by decide
          refine ev_gK A hp [11] 20 ?_
          rcases ab_S_cs g hz with ⟨q, q1, q2⟩ | ⟨q, q1⟩ | ⟨q, q1⟩
          · rw [q] at hs d2
            have es := ev_toI hs (by omega)
            refine And.intro (fun (h : s.toInt = (Int32.ofInt 2).toInt) => by omega) (fun h => ?_)
            refine And.intro (fun (h : s.toInt = (Int32.ofInt 1).toInt) => by omega) (fun h => ?_)
            exact ih (n - 2) (by omega) (p + 1) (j + 1) (k + 1) _ _ _ _ _ (by omega) (by omega) (by omega) (by omega) (ev_succ (by omega)) (ev_succ (by omega)) (ev_succ (by omega)) (by omega) hf2 h32 hall2 d2
          · rw [q] at hs d2
            have es := ev_toI hs (by omega)
            refine And.intro (fun (h : s.toInt = (Int32.ofInt 2).toInt) => by omega) (fun h => ?_)
            refine And.intro (fun h => ?_) (fun (h : ¬ s.toInt = (Int32.ofInt 1).toInt) => by omega)
            exact ih (n - 1) (by omega) (p + 1) j (k + 1) _ _ _ _ _ (by omega) (by omega) (by omega) (by omega) (ev_succ (by omega)) rfl (ev_succ (by omega)) (by omega) hf2 h32 hall2 d2
          · rw [q] at hs d2
            have es := ev_toI hs (by omega)
            refine And.intro (fun h => ?_) (fun (h : ¬ s.toInt = (Int32.ofInt 2).toInt) => by omega)
            refine And.intro (fun (h : s.toInt = (Int32.ofInt 1).toInt) => by omega) (fun h => ?_)
            exact ih (n - 1) (by omega) p (j + 1) (k + 1) _ _ _ _ _ (by omega) (by omega) (by omega) (by omega) rfl (ev_succ (by omega)) (ev_succ (by omega)) (by omega) hf2 h32 hall2 d2
        refine ev_gK A hp [67] 30 ?_
        refine And.intro (ev_iin e11 (by omega : 11 * p + j < 275) (by decide)) ?_
        refine And.intro (ev_oin (by omega) (by decide)) ?_
        refine b67 _ _ (by rw [ev_at e11 (by omega)]; exact hS) (fun c i z1 z2 => ?_) ?_ (fun i hi => ?_)
        · unfold ev_up
          rw [if_neg (fun q => z2 q), if_neg (fun q => z1 q.1)]
          exact hf c i z1 z2
        · rw [ev_up_same, ev_up_cell _ (by decide), h3]
          exact ev_succ (by omega)
        · rw [ev_up_cell _ (by decide), ev_on (by omega)]
          by_cases hik : i = k
          · rw [hik, ev_up_same, ev_at e11 (by omega), d1]
            exact hS
          · rw [ev_up_idx _ _ hik]
            exact hall i (by omega)
      refine ev_gK A hp [36] 20 ?_
      refine And.intro (fun (h : (Int32.ofNat 34).toInt ≤ (Int32.ofNat k).toInt) => fin (by omega)) (fun h => ?_)
      refine And.intro (fun (h : (Int32.ofNat p).toInt < (mk 213 4).toInt) => body (by rw [f4] at h; omega)) (fun (h2 : (mk 213 4).toInt ≤ (Int32.ofNat p).toInt) => ?_)
      rw [f4] at h2
      refine And.intro (fun (h : (mk 213 5).toInt ≤ (Int32.ofNat j).toInt) => fin (by rw [f5] at h; omega)) (fun (h : (Int32.ofNat j).toInt < (mk 213 5).toInt) => body (by rw [f5] at h; omega))
  refine ⟨Or.inr ⟨213, _, rfl, rfl⟩, ev_m56, rfl, ev_gK A hp [11] 20 ?_⟩
  refine loop _ 0 0 0 _ _ _ _ _ rfl (by omega) (by omega) (by omega) rfl rfl rfl (by omega) (fun c i z1 z2 => if_neg z2) (ev_up_same _ _ _ _) (fun i hi => by omega) rfl
/-- Joiner.plan -/
theorem ev_S52 {v N J : Nat} {T : ab_T} {fo : Nat → Option ab_Ls} (A : ev_all w) (hT : ab_TC m T) (hok : ab_Tok T) (hv : v < 4) (hN : N = T.1) (hJ : (m 203 v).toInt = (J : Int)) (hJ10 : J ≤ 10) (hFO : ab_FO m fo) (hth : ∀ j, j < J → ab_th m (10 * v + j) = true) (hcell : ∀ p v i, p < T.1 → v < 4 → T.2.1 p v = some i → ab_th m (10 * v + i) = true) (haz : ∀ y l, y < 40 → ab_th m y = true → fo y = some l → ab_az l)
    (hQ : ∀ m' : ev_Mem, (∀ c i, c ≠ 208 → (c < 213 ∨ 216 < c) → m' c i = m c i) → m' 213 4 = Int32.ofNat N → m' 213 5 = Int32.ofNat J → m' 213 3 = Int32.ofNat (ab_path (ab_gm T (ab_dst m fo) v N J) N J).length → (∀ i, i < (ab_path (ab_gm T (ab_dst m fo) v N J) N J).length → m' 216 i = Int32.ofNat ((ab_path (ab_gm T (ab_dst m fo) v N J) N J).getD i 0)) → Q (.inl (some (.int (Int32.ofNat (ab_C (ab_gm T (ab_dst m fo) v N J) N J))))) m' t) :
    ev_K w 52 [.ref 213, .ref 209, .ref 40, .int (Int32.ofNat v)] m t Q := by
  have hp : ev_prog[52]? = some ev_m52 := rfl
  have k1 := hok.1
  have e2 : m 209 2 = Int32.ofNat N := by
    apply ev_eq_of
    rw [hT.1, ev_ofNat_i (by omega), hN]
  have e3 : m 203 v = Int32.ofNat J := by
    apply ev_eq_of
    rw [hJ, ev_ofNat_i (by omega)]
  refine ⟨Or.inr ⟨213, _, rfl, rfl⟩, ev_m52, rfl, ev_gK A hp [17] 20 ?_⟩
  refine ev_S36 A ?_
  refine ev_S26 A hv ?_
  have d1 : ∀ c i, c ≠ 213 → ev_up (ev_up m 213 4 (m 209 2)) 213 5 (ev_up m 213 4 (m 209 2) 203 v) c i = m c i := fun c i h => by rw [ev_up_cell _ h, ev_up_cell _ h]
  have d4 : ev_up (ev_up m 213 4 (m 209 2)) 213 5 (ev_up m 213 4 (m 209 2) 203 v) 213 4 = Int32.ofNat N := by rw [ev_up_idx _ _ (by decide), ev_up_same]; exact e2
  have d5 : ev_up (ev_up m 213 4 (m 209 2)) 213 5 (ev_up m 213 4 (m 209 2) 203 v) 213 5 = Int32.ofNat J := by rw [ev_up_same, ev_up_cell _ (by decide)]; exact e3
  show ev_J w ev_m52 (ev_nd 52) Q 17 [ev_vr 213, ev_vr 209, ev_vr 40, ev_vn v, none, none, none] [] (ev_up (ev_up m 213 4 (m 209 2)) 213 5 (ev_up m 213 4 (m 209 2) 203 v)) t
  generalize ev_up (ev_up m 213 4 (m 209 2)) 213 5 (ev_up m 213 4 (m 209 2) 203 v) = m1 at *
  have hthk : ∀ z, ab_th m1 z = ab_th m z := ab_th_cong (fun j => d1 _ _ (by decide))
  have hFO1 : ab_FO m1 fo := by
    intro x hx ht
    rw [hthk] at ht
    obtain ⟨a, b⟩ := hFO x hx ht
    exact ⟨ab_F_cong (fun j => d1 _ _ (by omega)) (fun j => d1 _ _ (by omega)) a, b⟩
  have ed : ab_dst m1 fo = ab_dst m fo := by
    funext x y
    unfold ab_dst
    rw [d1 205 _ (by decide), d1 205 _ (by decide)]
  refine ev_plan (fo := fo) (T := T) (N := N) (J := J) A (ab_TC_cong (fun k j z1 z2 => d1 k j (by omega)) hT) hok hv hN hJ10 hFO1 (fun j hj => by rw [hthk]; exact hth j hj) (fun p u i z1 z2 z3 => by rw [hthk]; exact hcell p u i z1 z2 z3) (fun y l z1 z2 z3 => haz y l z1 (by rw [← hthk]; exact z2) z3) d4 d5 (fun mk o5 o6 hf hdn => ?_)
  rw [ed] at hdn
  refine ev_gK A hp [] 20 ?_
  show ev_K w 56 [.ref 213] mk t _
  refine ev_S56 (g := ab_gm T (ab_dst m fo) v N J) A (by rw [hf _ _ (by decide) (by decide) (by decide)]; exact d4) (by rw [hf _ _ (by decide) (by decide) (by decide)]; exact d5) (by omega) hJ10 hdn (fun m' hf' z3 zp => ?_)
  refine And.intro (ev_oin (by decide) (by decide)) ?_
  show Q (.inl (some (.int (m' 214 0)))) m' t
  have h0 := (hdn 0 0 (by omega) (by omega) (by omega)).1
  rw [hf' 214 0 (by decide) (by decide)]
  have e0 : mk 214 0 = Int32.ofNat (ab_C (ab_gm T (ab_dst m fo) v N J) N J) := h0
  rw [e0]
  refine hQ m' (fun c i z1 z2 => ?_) ?_ ?_ z3 zp
  · rw [hf' c i (by omega) (by omega), hf c i z1 (by omega) (by omega), d1 c i (by omega)]
  · rw [hf' _ _ (by decide) (by decide), hf _ _ (by decide) (by decide) (by decide)]; exact d4
  · rw [hf' _ _ (by decide) (by decide), hf _ _ (by decide) (by decide) (by decide)]; exact d5
end EvPath
end
section
/-! the class's joiner: the way, gone -/
section EvCarry
variable {w : ev_W} {Q : ev_QT} {m : ev_Mem} {t : ev_H}
def ab_cn (f : Nat → Bool) : Nat → Nat
  | 0 => 0
  | k + 1 => ab_cn f k + (if f k = true then 1 else 0)
theorem ab_cn_le (f : Nat → Bool) : ∀ k, ab_cn f k ≤ k
  | 0 => Nat.le_refl _
  | k + 1 => by
    have h := ab_cn_le f k
    rw [ab_cn]
    split <;> omega
theorem ab_cn_succ (f : Nat → Bool) : ∀ n, ab_cn f (n + 1) = (if f 0 = true then 1 else 0) + ab_cn (fun i => f (i + 1)) n
  | 0 => by rw [ab_cn, ab_cn, ab_cn]; omega
  | n + 1 => by
    rw [ab_cn, ab_cn_succ f n, ab_cn]
    omega
def ab_pn (l : List Nat) (k : Nat) : Nat := ab_cn (fun i => decide (¬ l.getD i 0 = 2)) k
def ab_jn (l : List Nat) (k : Nat) : Nat := ab_cn (fun i => decide (¬ l.getD i 0 = 1)) k
def ab_n2 (l : List Nat) (k : Nat) : Nat := ab_cn (fun i => decide (l.getD i 0 = 2)) k
theorem ab_n2_pn (l : List Nat) : ∀ k, ab_n2 l k + ab_pn l k = k
  | 0 => rfl
  | k + 1 => by
    have h := ab_n2_pn l k
    unfold ab_n2 ab_pn at *
    rw [ab_cn, ab_cn]
    by_cases q : l.getD k 0 = 2
    · rw [if_pos (decide_eq_true q), if_neg (by rw [decide_eq_true_eq]; exact fun z => z q)]; omega
    · rw [if_neg (by rw [decide_eq_true_eq]; exact q), if_pos (decide_eq_true q)]; omega
theorem ab_pn_cons (x : Nat) (l : List Nat) (n : Nat) : ab_pn (x :: l) (n + 1) = (if x = 2 then 0 else 1) + ab_pn l n := by
  unfold ab_pn
  rw [ab_cn_succ]
  refine congrArg (fun z => z + _) ?_
  by_cases q : x = 2
  · rw [if_pos q, if_neg (by rw [decide_eq_true_eq]; exact fun z => z q)]
  · rw [if_neg q]; exact if_pos (decide_eq_true q)
theorem ab_jn_cons (x : Nat) (l : List Nat) (n : Nat) : ab_jn (x :: l) (n + 1) = (if x = 1 then 0 else 1) + ab_jn l n := by
  unfold ab_jn
  rw [ab_cn_succ]
  refine congrArg (fun z => z + _) ?_
  by_cases q : x = 1
  · rw [if_pos q, if_neg (by rw [decide_eq_true_eq]; exact fun z => z q)]
  · rw [if_neg q]; exact if_pos (decide_eq_true q)
theorem ab_path_cnt (g : Nat → Nat → Nat) : ∀ (n a b : Nat), a + b ≤ n → ab_pn (ab_path g a b) (ab_path g a b).length = a ∧ ab_jn (ab_path g a b) (ab_path g a b).length = b := by
  intro n
  induction n with
  | zero =>
    intro a b h
    have h1 : a = 0 := by omega
    have h2 : b = 0 := by omega
    subst h1 h2
    exact ⟨rfl, rfl⟩
  | succ n ih =>
    intro a b h
    by_cases hz : a = 0 ∧ b = 0
    · obtain ⟨rfl, rfl⟩ := hz
      exact ⟨rfl, rfl⟩
    · rw [ab_path_step g hz, List.length_cons, ab_pn_cons, ab_jn_cons]
      rcases ab_S_cs g hz with ⟨q, q1, q2⟩ | ⟨q, q1⟩ | ⟨q, q1⟩
      · rw [q]
        have := ih (a - 1) (b - 1) (by omega)
        simp only [(by decide : ¬ (0 : Nat) = 2), (by decide : ¬ (0 : Nat) = 1), if_false]
        rw [this.1, this.2]
        omega
      · rw [q]
        have := ih (a - 1) b (by omega)
        simp only [(by decide : ¬ (1 : Nat) = 2), if_false, if_true]
        rw [this.1, this.2]
        omega
      · rw [q]
        have := ih a (b - 1) (by omega)
        simp only [(by decide : ¬ (2 : Nat) = 1), if_false, if_true]
        rw [this.1, this.2]
        omega
theorem ab_path_le2 (g : Nat → Nat → Nat) : ∀ (n a b : Nat), ∀ s ∈ ab_P g n a b, s ≤ 2
  | 0, _, _, s, h => by cases h
  | n + 1, a, b, s, h => by
    rw [ab_P] at h
    split at h
    · cases h
    · rename_i hz
      rcases List.mem_cons.mp h with h | h
      · rcases ab_S_cs g hz with ⟨q, _⟩ | ⟨q, _⟩ | ⟨q, _⟩ <;> omega
      · exact ab_path_le2 g n _ _ s h
/-- Joiner.plannedPlaces -/
theorem ev_S57 {l : List Nat} {N : Nat} (A : ev_all w) (h4 : m 213 4 = Int32.ofNat N) (h3 : m 213 3 = Int32.ofNat l.length) (hN : N ≤ 24) (hl : l.length ≤ 34) (hpth : ∀ i, i < l.length → m 216 i = Int32.ofNat (l.getD i 0)) (hle : ∀ i, l.getD i 0 ≤ 2) (hQ : Q (.inl (some (.int (Int32.ofNat (N + ab_n2 l l.length))))) m t) : ev_K w 57 [.ref 213] m t Q := by
  have hp : ev_prog[57]? = some ev_m57 := rfl
  have el := ev_ofNat_i (n := l.length) (by omega)
  have i2 : (Int32.ofInt 2).toInt = 2 := by decide
  have loop := ev_lup (P := fun k => ∀ (kk cc : Int32), kk = Int32.ofNat k → cc = Int32.ofNat (N + ab_n2 l k) → ev_J w ev_m57 (ev_nd 57) Q 7 [ev_vr 213, ev_vi cc, ev_vi kk] [] m t) l.length (by
    intro k hk ih kk cc ekk ecc
    have ek := ev_toI ekk (by omega)
    have hc := ab_cn_le (fun i => decide (l.getD i 0 = 2)) k
    have hc2 : ab_n2 l k ≤ k := hc
    refine ev_gK A hp [7] 20 ?_
    refine And.intro (fun (h : (m 213 3).toInt ≤ kk.toInt) => ?_) (fun (h : kk.toInt < (m 213 3).toInt) => ?_)
    · rw [h3] at h
      have e1 : k = l.length := by omega
      rw [ecc, e1]
      exact hQ
    · rw [h3] at h
      have hkl : k < l.length := by omega
      have hs := hpth k hkl
      have hs2 := hle k
      have es := ev_ofNat_i (n := l.getD k 0) (by omega)
      refine And.intro (ev_iin ekk (by omega) (by decide)) ?_
      refine And.intro (fun (h : ¬ (m 216 kk.toNatClampNeg).toInt = (Int32.ofInt 2).toInt) => ?_) (fun (h : (m 216 kk.toNatClampNeg).toInt = (Int32.ofInt 2).toInt) => ?_)
      · rw [ev_at ekk (by omega), hs] at h
        refine ih hkl _ _ (by rw [ekk]; exact ev_succ (by omega)) ?_
        have e1 : ab_n2 l (k + 1) = ab_n2 l k := by unfold ab_n2; rw [ab_cn, if_neg (by rw [decide_eq_true_eq]; omega)]; rfl
        rw [e1]; exact ecc
      · rw [ev_at ekk (by omega), hs] at h
        refine ih hkl _ _ (by rw [ekk]; exact ev_succ (by omega)) ?_
        have e1 : ab_n2 l (k + 1) = ab_n2 l k + 1 := by unfold ab_n2; rw [ab_cn, if_pos (by rw [decide_eq_true_eq]; omega)]
        rw [e1, ecc]; exact ev_succ (by omega))
  refine ⟨Or.inr ⟨213, _, rfl, rfl⟩, ev_m57, rfl, ev_gK A hp [7] 20 ?_⟩
  exact loop 0 (by omega) _ _ rfl h4
theorem ev_decS {k : Nat} (h : k < 50000) : Int32.ofNat (k + 1) + Int32.ofInt (-1) = Int32.ofNat k := by
  rw [ev_dec1 (by omega), ev_inc1 (by omega)]
/-- the table behind a joining -/
def ab_jc (T : ab_T) (v : Nat) (l : List Nat) (q u : Nat) : Option Nat := if ¬ l.getD q 0 = 1 ∧ u = v then some (ab_jn l q) else if l.getD q 0 = 2 then none else T.2.1 (ab_pn l q) u
def ab_jch (T : ab_T) (l : List Nat) (q : Nat) : Option Nat := if l.getD q 0 = 2 then none else T.2.2.1 (ab_pn l q)
def ab_jt (T : ab_T) (v : Nat) (l : List Nat) : ab_T := (l.length, ab_jc T v l, ab_jch T l, T.2.2.2.1 ++ [v], if T.2.2.2.1 = [] then some v else T.2.2.2.2)
/-- Joiner.carryOut -/
theorem ev_S58 {v : Nat} {l : List Nat} {T : ab_T} (A : ev_all w) (hT : ab_TC m T) (hok : ab_Tok T) (hv : v < 4) (hj : T.2.2.2.1.length < 4) (h4 : m 213 4 = Int32.ofNat T.1) (h5 : m 213 5 = Int32.ofNat (ab_jn l l.length)) (h3 : m 213 3 = Int32.ofNat l.length) (hl : l.length ≤ 24) (hpn : ab_pn l l.length = T.1) (hpth : ∀ i, i < l.length → m 216 i = Int32.ofNat (l.getD i 0)) (hle : ∀ i, l.getD i 0 ≤ 2)
    (hQ : ∀ m' : ev_Mem, (∀ k j, ¬ (209 ≤ k ∧ k ≤ 212) → m' k j = m k j) → ab_TC m' (ab_jt T v l) → Q (.inl none) m' t) : ev_K w 58 [.ref 213, .ref 209, .int (Int32.ofNat v)] m t Q := by
  have hp : ev_prog[58]? = some ev_m58 := rfl
  have k1 := hok.1
  obtain ⟨t1, t2, t3, t4, t5, t6⟩ := hT
  have i2 : (Int32.ofInt 2).toInt = 2 := by decide
  have i1 : (Int32.ofInt 1).toInt = 1 := by decide
  have loop : ∀ (k : Nat) (pp jj tt : Int32) (mk : ev_Mem), k ≤ l.length → pp = Int32.ofNat (ab_pn l k) → jj = Int32.ofNat (ab_jn l k) → tt = Int32.ofNat k → (∀ c i, c ≠ 210 → c ≠ 211 → mk c i = m c i) → (∀ q, k ≤ q → q < l.length → (∀ u, u < 4 → mk 210 (4 * q + u) = ab_oi (ab_jc T v l q u)) ∧ mk 211 q = ab_oi (ab_jch T l q)) → (∀ p, p < ab_pn l k → (∀ u, u < 4 → mk 210 (4 * p + u) = ab_oi (T.2.1 p u)) ∧ mk 211 p = ab_oi (T.2.2.1 p)) →
      ev_J w ev_m58 (ev_nd 58) Q 28 [ev_vr 213, ev_vr 209, ev_vn v, ev_vn l.length, ev_vi pp, ev_vi jj, ev_vi tt, ev_vi (Int32.ofInt ((k : Int) - 1))] [] mk t := by
    intro k
    induction k with
    | zero =>
      intro pp jj tt mk hk epp ejj ett hf hnew hold
      refine ev_gK A hp [] 20 ?_
      refine And.intro (fun h => ?_) (fun h => ?_)
      · refine ev_S44 (js := T.2.2.2.1) (bs := T.2.2.2.2) A (by rw [hf _ _ (by decide) (by decide)]; exact t4) (fun k hk => by rw [hf _ _ (by decide) (by decide)]; exact t5 k hk) (by rw [hf _ _ (by decide) (by decide)]; exact t6) hj (fun m' z1 z2 z3 z4 z5 => ?_)
        refine hQ m' (fun c i hc => by rw [z1 c i (by omega)]; exact hf c i (by omega) (by omega)) ⟨?_, fun p hp u hu => ?_, fun p hp => ?_, z3, z4, z5⟩
        · rw [z2]; exact ev_ofNat_i (by show l.length < _; omega)
        · rw [z1 _ _ (by decide)]; exact (hnew p (Nat.zero_le _) hp).1 u hu
        · rw [z1 _ _ (by decide)]; exact (hnew p (Nat.zero_le _) hp).2
      · have h2 : 0 ≤ (Int32.ofInt (((0 : Nat) : Int) - 1)).toInt := h
        rw [ev_ofInt_i (by omega) (by omega)] at h2
        omega
    | succ k ih =>
      intro pp jj tt mk hk epp ejj ett hf hnew hold
      rw [ev_inc1 (by omega)]
      have ek := ev_ofNat_i (n := k) (by omega)
      have hkl : k < l.length := by omega
      have hs2 := hle k
      have es := ev_ofNat_i (n := l.getD k 0) (by omega)
      have hpk : ab_pn l k ≤ k := ab_cn_le _ k
      have hjk : ab_jn l k ≤ k := ab_cn_le _ k
      have hpath : ∀ m2 : ev_Mem, (∀ c i, c ≠ 210 → c ≠ 211 → m2 c i = m c i) → m2 216 (Int32.ofNat k).toNatClampNeg = Int32.ofNat (l.getD k 0) := fun m2 h2 => by rw [ev_on (by omega), h2 _ _ (by decide) (by decide)]; exact hpth k hkl
      have hpns : ab_pn l (k + 1) = if l.getD k 0 = 2 then ab_pn l k else ab_pn l k + 1 := by
        unfold ab_pn
        rw [ab_cn]
        by_cases q : l.getD k 0 = 2
        · rw [if_pos q, if_neg (by rw [decide_eq_true_eq]; exact fun z => z q)]; rfl
        · rw [if_neg q, if_pos (decide_eq_true q)]
      have hjns : ab_jn l (k + 1) = if l.getD k 0 = 1 then ab_jn l k else ab_jn l k + 1 := by
        unfold ab_jn
        rw [ab_cn]
        by_cases q : l.getD k 0 = 1
        · rw [if_pos q, if_neg (by rw [decide_eq_true_eq]; exact fun z => z q)]; rfl
        · rw [if_neg q, if_pos (decide_eq_true q)]
      have b67 : ∀ (p1 t1 : Int32) (m2 : ev_Mem), p1 = Int32.ofNat (ab_pn l k) → t1 = Int32.ofNat k → (∀ c i, c ≠ 210 → c ≠ 211 → m2 c i = m c i) → (∀ q, k + 1 ≤ q → q < l.length → (∀ u, u < 4 → m2 210 (4 * q + u) = ab_oi (ab_jc T v l q u)) ∧ m2 211 q = ab_oi (ab_jch T l q)) → (∀ u, u < 4 → m2 210 (4 * k + u) = ab_oi (if l.getD k 0 = 2 then none else T.2.1 (ab_pn l k) u)) → m2 211 k = ab_oi (ab_jch T l k) → (∀ p, p < ab_pn l k → (∀ u, u < 4 → m2 210 (4 * p + u) = ab_oi (T.2.1 p u)) ∧ m2 211 p = ab_oi (T.2.2.1 p)) →
          ev_J w ev_m58 (ev_nd 58) Q 67 [ev_vr 213, ev_vr 209, ev_vn v, ev_vn l.length, ev_vi p1, ev_vi jj, ev_vi t1, ev_vn k] [] m2 t := by
        intro p1 tk m2 e1 e2 f2 n2 c2 h2 o2
        subst e1 e2
        refine ev_gK A hp [28] 30 ?_
        refine And.intro (ev_oin (by omega) (by decide)) ?_
        refine And.intro (fun (h : (m2 216 (Int32.ofNat k).toNatClampNeg).toInt = (Int32.ofInt 1).toInt) => ?_) (fun (h : ¬ (m2 216 (Int32.ofNat k).toNatClampNeg).toInt = (Int32.ofInt 1).toInt) => ?_)
        · rw [hpath m2 f2] at h
          have hs : l.getD k 0 = 1 := by omega
          rw [if_pos hs] at hjns
          rw [hjns] at ejj
          show ev_J w ev_m58 (ev_nd 58) Q 28 [ev_vr 213, ev_vr 209, ev_vn v, ev_vn l.length, ev_vn (ab_pn l k), ev_vi jj, ev_vn k, ev_vi (Int32.ofNat k + Int32.ofInt (-1))] [] m2 t
          rw [ev_dec1 (by omega)]
          refine ih _ _ _ _ (by omega) rfl ejj rfl f2 (fun q z1 z2 => ?_) o2
          by_cases hqk : q = k
          · subst hqk
            refine ⟨fun u hu => ?_, h2⟩
            have e : ab_jc T v l q u = if l.getD q 0 = 2 then none else T.2.1 (ab_pn l q) u := if_neg (fun z => z.1 hs)
            rw [c2 u hu, e]
          · exact n2 q (by omega) z2
        · rw [hpath m2 f2] at h
          have hs : ¬ l.getD k 0 = 1 := by omega
          rw [if_neg hs] at hjns
          rw [hjns] at ejj
          show ev_K w 42 [.ref 209, .int (Int32.ofNat k), .int (Int32.ofNat v), .int (jj + Int32.ofInt (-1))] m2 t _
          rw [ejj, ev_decS (by omega)]
          refine ev_S42 A (by omega) hv ?_
          show ev_J w ev_m58 (ev_nd 58) Q 28 [ev_vr 213, ev_vr 209, ev_vn v, ev_vn l.length, ev_vn (ab_pn l k), ev_vi (Int32.ofNat (ab_jn l k)), ev_vn k, ev_vi (Int32.ofNat k + Int32.ofInt (-1))] [] (ev_up m2 210 (4 * k + v) (Int32.ofNat (ab_jn l k))) t
          rw [ev_dec1 (by omega)]
          refine ih _ _ _ _ (by omega) rfl rfl rfl (fun c i z1 z2 => by rw [ev_up_cell _ z1]; exact f2 c i z1 z2) (fun q z1 z2 => ?_) (fun p hp => ⟨fun u hu => by rw [ev_up_idx _ _ (by omega)]; exact (o2 p hp).1 u hu, by rw [ev_up_cell _ (by decide)]; exact (o2 p hp).2⟩)
          by_cases hqk : q = k
          · subst hqk
            refine ⟨fun u hu => ?_, by rw [ev_up_cell _ (by decide)]; exact h2⟩
            unfold ab_jc
            by_cases huv : u = v
            · rw [if_pos ⟨hs, huv⟩, huv, ev_up_same]; rfl
            · rw [if_neg (fun z => huv z.2), ev_up_idx _ _ (by omega)]; exact c2 u hu
          · exact ⟨fun u hu => by rw [ev_up_idx _ _ (by omega)]; exact (n2 q (by omega) z2).1 u hu, by rw [ev_up_cell _ (by decide)]; exact (n2 q (by omega) z2).2⟩
      have setf : ∀ (f : Nat → Int32) (c : Int32) (cc i : Nat), cc ≠ 210 → cc ≠ 211 → ab_setp mk k f c cc i = mk cc i := by
        intro f c cc i z1 z2
        unfold ab_setp
        rw [ev_up_cell _ z2]
        exact if_neg (fun q => z1 q.1)
      have setc : ∀ (f : Nat → Int32) (c : Int32) (q u : Nat), q ≠ k → u < 4 → ab_setp mk k f c 210 (4 * q + u) = mk 210 (4 * q + u) := by
        intro f c q u z1 z2
        unfold ab_setp
        rw [ev_up_cell _ (by decide)]
        exact if_neg (fun q => by omega)
      have setk : ∀ (f : Nat → Int32) (c : Int32) (u : Nat), u < 4 → ab_setp mk k f c 210 (4 * k + u) = f u := by
        intro f c u z2
        unfold ab_setp
        rw [ev_up_cell _ (by decide)]
        unfold ab_setn
        rw [if_pos ⟨rfl, by omega, by omega⟩]
        congr 1
        omega
      have sethk : ∀ (f : Nat → Int32) (c : Int32), ab_setp mk k f c 211 k = c := fun f c => ev_up_same _ _ _ _
      have seth : ∀ (f : Nat → Int32) (c : Int32) (q : Nat), q ≠ k → ab_setp mk k f c 211 q = mk 211 q := by
        intro f c q z1
        unfold ab_setp
        rw [ev_up_idx _ _ z1]
        exact if_neg (fun q => absurd q.1 (by decide))
      refine ev_gK A hp [67] 30 ?_
      refine And.intro (fun (h : (Int32.ofNat k).toInt < 0) => by omega) (fun h => ?_)
      refine And.intro (ev_oin (by omega) (by decide)) ?_
      refine And.intro (fun (h : ¬ (mk 216 (Int32.ofNat k).toNatClampNeg).toInt = (Int32.ofInt 2).toInt) => ?_) (fun (h : (mk 216 (Int32.ofNat k).toNatClampNeg).toInt = (Int32.ofInt 2).toInt) => ?_)
      · rw [hpath mk hf] at h
        have hs : ¬ l.getD k 0 = 2 := by omega
        rw [if_neg hs] at hpns
        rw [hpns] at epp hold
        show ev_K w 43 [.ref 209, .int (pp + Int32.ofInt (-1)), .int (tt + Int32.ofInt (-1))] mk t _
        rw [epp, ett, ev_decS (by omega), ev_decS (by omega)]
        refine ev_S43 A (by omega) (by omega) ?_
        refine b67 _ _ _ ?_ ?_ (fun c i z1 z2 => by rw [setf _ _ _ _ z1 z2]; exact hf c i z1 z2) (fun q z1 z2 => ⟨fun u hu => by rw [setc _ _ _ _ (by omega) hu]; exact (hnew q z1 z2).1 u hu, by rw [seth _ _ _ (by omega)]; exact (hnew q z1 z2).2⟩) (fun u hu => ?_) ?_ (fun p hp => ⟨fun u hu => by rw [setc _ _ _ _ (by omega) hu]; exact (hold p (by omega)).1 u hu, by rw [seth _ _ _ (by omega)]; exact (hold p (by omega)).2⟩)
        · rfl
        · rfl
        · rw [setk _ _ _ hu, if_neg hs]; exact (hold _ (by omega)).1 u hu
        · rw [sethk]; unfold ab_jch; rw [if_neg hs]; exact (hold _ (by omega)).2
      · rw [hpath mk hf] at h
        have hs : l.getD k 0 = 2 := by omega
        rw [if_pos hs] at hpns
        rw [hpns] at epp hold
        show ev_K w 41 [.ref 209, .int (tt + Int32.ofInt (-1))] mk t _
        rw [ett, ev_decS (by omega)]
        refine ev_S41 A (by omega) ?_
        refine b67 _ _ _ epp ?_ (fun c i z1 z2 => by rw [setf _ _ _ _ z1 z2]; exact hf c i z1 z2) (fun q z1 z2 => ⟨fun u hu => by rw [setc _ _ _ _ (by omega) hu]; exact (hnew q z1 z2).1 u hu, by rw [seth _ _ _ (by omega)]; exact (hnew q z1 z2).2⟩) (fun u hu => ?_) ?_ (fun p hp => ⟨fun u hu => by rw [setc _ _ _ _ (by omega) hu]; exact (hold p (by omega)).1 u hu, by rw [seth _ _ _ (by omega)]; exact (hold p (by omega)).2⟩)
        · rfl
        · rw [setk _ _ _ hu, if_pos hs]; rfl
        · rw [sethk]; unfold ab_jch; rw [if_pos hs]; rfl
  have hsum := ab_n2_pn l l.length
  rw [hpn] at hsum
  refine ⟨Or.inr ⟨213, _, rfl, rfl⟩, ev_m58, rfl, ev_gK A hp [20] 20 ?_⟩
  refine ev_S57 A h4 h3 k1 (by omega) hpth hle ?_
  show ev_J w ev_m58 (ev_nd 58) Q 20 [ev_vr 213, ev_vr 209, ev_vn v, ev_vn (T.1 + ab_n2 l l.length), ev_vi (m 213 4), ev_vi (m 213 5), ev_vn (T.1 + ab_n2 l l.length), none] [] m t
  have e1 : T.1 + ab_n2 l l.length = l.length := by omega
  rw [e1]
  refine ev_gK A hp [28] 20 ?_
  show ev_J w ev_m58 (ev_nd 58) Q 28 [ev_vr 213, ev_vr 209, ev_vn v, ev_vn l.length, ev_vi (m 213 4), ev_vi (m 213 5), ev_vn l.length, ev_vi (m 213 3 - Int32.ofInt 1)] [] m t
  have e2 : m 213 3 - Int32.ofInt 1 = Int32.ofInt ((l.length : Int) - 1) := by
    rw [h3]
    apply ev_eq_of
    rw [ev_sub_i (by rw [ev_ofNat_i (by omega), i1]; omega) (by rw [ev_ofNat_i (by omega), i1]; omega), ev_ofNat_i (by omega), i1, ev_ofInt_i (by omega) (by omega)]
  rw [e2]
  exact loop l.length _ _ _ m (Nat.le_refl _) (by rw [h4, hpn]) h5 rfl (fun _ _ _ _ => rfl) (fun q z1 z2 => by omega) (fun p hp => ⟨fun u hu => t2 p (by omega) u hu, t3 p (by omega)⟩)
end EvCarry
end
section
/-! the class's sheet: how it is written -/
section EvSheet
variable {w : ev_W} {Q : ev_QT} {m : ev_Mem} {t : ev_H}
theorem ev_i2c0 {n : Nat} (h : n < 65536) : ((Int32.ofNat n).toUInt32 % 65536).toInt32 = Int32.ofNat n := by
  have e : (Int32.ofNat n).toUInt32 = UInt32.ofNat n := rfl
  rw [e]
  have e2 : UInt32.ofNat n % 65536 = UInt32.ofNat n := by
    apply UInt32.toNat_inj.mp
    rw [UInt32.toNat_mod, UInt32.toNat_ofNat']
    have : (65536 : UInt32).toNat = 65536 := by decide
    rw [this]
    omega
  rw [e2]
  rfl
theorem ev_chN {n : Nat} (h : n < 65536) : ev_ch (Int32.ofNat n) := by
  have e : (Int32.ofNat n).toUInt32 = UInt32.ofNat n := rfl
  have e2 : (UInt32.ofNat n).toUInt16.toUInt32 = UInt32.ofNat n := by
    apply UInt32.toNat_inj.mp
    rw [UInt16.toNat_toUInt32, UInt32.toNat_toUInt16, UInt32.toNat_ofNat']
    omega
  show Value.int (Int32.ofNat n).toUInt32.toUInt16.toUInt32.toInt32 = .int (Int32.ofNat n)
  rw [e, e2]
  rfl
theorem ev_i2cr (x : Int32) : ∃ n, n < 65536 ∧ (x.toUInt32 % 65536).toInt32 = Int32.ofNat n := by
  refine ⟨(x.toUInt32 % 65536).toNat, ?_, ?_⟩
  · rw [UInt32.toNat_mod]
    have : (65536 : UInt32).toNat = 65536 := by decide
    rw [this]
    omega
  · have e : ∀ u : UInt32, u.toInt32 = Int32.ofNat u.toNat := by
      intro u
      have h : UInt32.ofNat u.toNat = u := UInt32.ofNat_toNat
      exact (congrArg UInt32.toInt32 h).symm.trans rfl
    exact e _
def ab_c16 (v : Int32) : Prop := 0 ≤ v.toInt ∧ v.toInt < 65536
theorem ab_c16_ch {v : Int32} (h : ab_c16 v) : ev_ch v := by
  have h1 := ev_chN (n := v.toInt.toNat) (by have := h.1; have := h.2; omega)
  rw [ev_ofNat_toNat h.1] at h1
  exact h1
theorem ab_c16N {n : Nat} (h : n < 65536) : ab_c16 (Int32.ofNat n) := by
  have e := ev_ofNat_i (n := n) (by omega)
  exact ⟨by omega, by omega⟩
/-- what stands on the sheet -/
def ab_O (m : ev_Mem) (o : ab_Ls) : Prop := m 217 1 = Int32.ofNat o.length ∧ ∀ k, k < o.length → m 218 k = o.getD k 0
def ab_frs (m m' : ev_Mem) : Prop := ∀ c i, c ≠ 217 → c ≠ 218 → m' c i = m c i
theorem ab_frs_rfl {m : ev_Mem} : ab_frs m m := fun _ _ _ _ => rfl
theorem ab_frs_tr {a b c : ev_Mem} (h1 : ab_frs a b) (h2 : ab_frs b c) : ab_frs a c := fun k i z1 z2 => (h2 k i z1 z2).trans (h1 k i z1 z2)
/-- Sheet.put -/
theorem ev_S64 {c : Int32} {o : ab_Ls} (A : ev_all w) (hO : ab_O m o) (hl : o.length < 1920) (hc : ab_c16 c) (hQ : ∀ m', ab_frs m m' → ab_O m' (o ++ [c]) → Q (.inl none) m' t) : ev_K w 64 [.ref 217, .int c] m t Q := by
  have hp : ev_prog[64]? = some ev_m64 := rfl
  have e1 := hO.1
  have el := ev_toI e1 (by omega)
  have e19 := ev_ofNat_i (n := 1920) (by omega)
  refine ⟨Or.inr ⟨217, _, rfl, rfl⟩, ev_m64, rfl, ev_gK A hp [] 30 ?_⟩
  refine And.intro (fun (h : (Int32.ofNat 1920).toInt ≤ (m 217 1).toInt) => by omega) (fun h => ?_)
  refine And.intro (ev_iin e1 hl (by decide)) ?_
  refine hQ _ (fun k i z1 z2 => by rw [ev_up_cell _ z1, ev_up_cell _ z2]) ⟨?_, fun k hk => ?_⟩
  · rw [ev_up_same, ev_up_cell _ (by decide), e1, List.length_append, List.length_singleton]
    exact ev_succ (by omega)
  · rw [ev_up_cell _ (by decide), ev_at e1 (by omega), ev_ch_nar (ab_c16_ch hc)]
    rw [List.length_append, List.length_singleton] at hk
    by_cases hkl : k = o.length
    · rw [hkl, ev_up_same, List.getD_eq_getElem?_getD, List.getElem?_append_right (Nat.le_refl _), Nat.sub_self]; rfl
    · rw [ev_up_idx _ _ hkl, ab_getD_app1 (by omega)]; exact hO.2 k (by omega)
/-- Sheet.putNumber -/
def ab_nm (p : Nat) : ab_Ls := if 10 ≤ p then [Int32.ofNat (48 + p / 10), Int32.ofNat (48 + p % 10)] else [Int32.ofNat (48 + p % 10)]
theorem ev_S63 {p : Nat} {o : ab_Ls} (A : ev_all w) (hO : ab_O m o) (hp24 : p < 24) (hl : o.length + (ab_nm p).length ≤ 1920) (hQ : ∀ m', ab_frs m m' → ab_O m' (o ++ ab_nm p) → Q (.inl none) m' t) : ev_K w 63 [.ref 217, .int (Int32.ofNat p)] m t Q := by
  have hp : ev_prog[63]? = some ev_m63 := rfl
  have ep := ev_ofNat_i (n := p) (by omega)
  have i10 : ((Int8.ofInt 10).toInt32).toInt = 10 := by decide
  have n10 : ¬ (10 : Int32) = 0 := by decide
  have h18 : ∀ (m1 : ev_Mem) (o1 : ab_Ls), ab_frs m m1 → ab_O m1 o1 → o1.length < 1920 → (∀ m', ab_frs m m' → ab_O m' (o1 ++ [Int32.ofNat (48 + p % 10)]) → Q (.inl none) m' t) → ev_J w ev_m63 (ev_nd 63) Q 18 [ev_vr 217, ev_vn p] [] m1 t := by
    intro m1 o1 hf hO1 hl1 hQ1
    refine ev_gK A hp [] 5 ?_
    refine And.intro n10 ?_
    show ev_J w ev_m63 (ev_nd 63) Q 25 [ev_vr 217, ev_vn p] [.int (Int32.ofNat p - Int32.ofNat p / 10 * 10), .int (Int32.ofNat 48), .ref 217] m1 t
    rw [ev_r10 (by omega)]
    refine ev_gK A hp [] 1 ?_
    show ev_J w ev_m63 (ev_nd 63) Q 26 [ev_vr 217, ev_vn p] [.int (Int32.ofNat 48 + Int32.ofNat (p % 10)), .ref 217] m1 t
    rw [ev_addN (by omega)]
    refine ev_gK A hp [] 1 ?_
    show ev_J w ev_m63 (ev_nd 63) Q 27 [ev_vr 217, ev_vn p] [.int ((Int32.ofNat (48 + p % 10)).toUInt32 % 65536).toInt32, .ref 217] m1 t
    rw [ev_i2c0 (by omega)]
    refine ev_gK A hp [] 10 ?_
    exact ev_S64 A hO1 hl1 (ab_c16N (by omega)) (fun m' z1 z2 => hQ1 m' (ab_frs_tr hf z1) z2)
  unfold ab_nm at hQ hl
  refine ⟨Or.inr ⟨217, _, rfl, rfl⟩, ev_m63, rfl, ev_gK A hp [18, 6] 10 ?_⟩
  refine And.intro (fun (h : (Int32.ofNat p).toInt < ((Int8.ofInt 10).toInt32).toInt) => ?_) (fun (h : ((Int8.ofInt 10).toInt32).toInt ≤ (Int32.ofNat p).toInt) => ?_)
  · rw [if_neg (by omega)] at hQ hl
    have hl1 : o.length + 1 ≤ 1920 := hl
    exact h18 m o ab_frs_rfl hO (by omega) hQ
  · rw [if_pos (by omega)] at hQ hl
    have hl1 : o.length + 2 ≤ 1920 := hl
    show ev_J w ev_m63 (ev_nd 63) Q 6 [ev_vr 217, ev_vn p] [] m t
    refine ev_gK A hp [] 4 ?_
    show ev_J w ev_m63 (ev_nd 63) Q 12 [ev_vr 217, ev_vn p] [.int (Int32.ofInt 10), .int (Int32.ofNat p), .int (Int32.ofNat 48), .ref 217] m t
    refine ev_gK A hp [] 1 ?_
    refine And.intro n10 ?_
    show ev_J w ev_m63 (ev_nd 63) Q 13 [ev_vr 217, ev_vn p] [.int (Int32.ofNat p / 10), .int (Int32.ofNat 48), .ref 217] m t
    rw [ev_d10 (by omega)]
    refine ev_gK A hp [] 1 ?_
    show ev_J w ev_m63 (ev_nd 63) Q 14 [ev_vr 217, ev_vn p] [.int (Int32.ofNat 48 + Int32.ofNat (p / 10)), .ref 217] m t
    rw [ev_addN (by omega)]
    refine ev_gK A hp [] 1 ?_
    show ev_J w ev_m63 (ev_nd 63) Q 15 [ev_vr 217, ev_vn p] [.int ((Int32.ofNat (48 + p / 10)).toUInt32 % 65536).toInt32, .ref 217] m t
    rw [ev_i2c0 (by omega)]
    refine ev_gK A hp [18] 10 ?_
    refine ev_S64 A hO (by omega) (ab_c16N (by omega)) (fun m' z1 z2 => ?_)
    refine h18 m' _ z1 z2 (by rw [List.length_append, List.length_singleton]; omega) (fun m2 y1 y2 => hQ m2 y1 ?_)
    rw [List.append_assoc] at y2
    exact y2
/-- Sheet.putLetters -/
theorem ev_S66 {x c : Nat} {l o : ab_Ls} (A : ev_all w) (hx : ev_isL x c) (hx1 : x + 1 < 217 ∨ 218 < x) (hc : c < 100) (hL : ab_L m x l) (hlc : l.length ≤ c) (hz : ab_az l) (hO : ab_O m o) (hl : o.length + l.length ≤ 1920) (hQ : ∀ m', ab_frs m m' → ab_O m' (o ++ l) → Q (.inl none) m' t) : ev_K w 66 [.ref 217, .ref x] m t Q := by
  have hp : ev_prog[66]? = some ev_m66 := rfl
  have loop := ev_lup (P := fun k => ∀ (kk : Int32) (mk : ev_Mem), kk = Int32.ofNat k → ab_frs m mk → ab_O mk (o ++ l.take k) → ev_J w ev_m66 (ev_nd 66) Q 2 [ev_vr 217, ev_vr x, ev_vi kk] [] mk t) l.length (by
    intro k hk ih kk mk ekk hf hOk
    have ek := ev_toI ekk (by omega)
    have e1 : (mk x 1).toInt = (l.length : Int) := by rw [hf _ _ (by omega) (by omega)]; exact hL.1
    refine ev_gK A hp [2] 20 ?_
    refine ev_S5 A hx ?_
    refine And.intro (fun (h : (mk x 1).toInt ≤ kk.toInt) => ?_) (fun (h : kk.toInt < (mk x 1).toInt) => ?_)
    · rw [List.take_of_length_le (by omega)] at hOk
      exact hQ mk hf hOk
    · have hkl : k < l.length := by omega
      have hv : mk (x + 1) kk.toNatClampNeg = l.getD k 0 := by
        rw [ev_at ekk (by omega), hf _ _ (by omega) (by omega)]
        have := hL.2 k hkl
        rwa [Nat.zero_add] at this
      have haz := hz _ (ab_getD_mem hkl)
      have hc16 : ab_c16 (l.getD k 0) := ⟨by omega, by omega⟩
      refine ev_S6 A hx (ev_iin ekk (by omega) (by omega)) (by rw [hv]; exact ab_c16_ch hc16) ?_
      rw [hv]
      refine ev_S64 A hOk (by rw [List.length_append, List.length_take]; omega) hc16 (fun m' z1 z2 => ?_)
      refine ih hkl _ m' (by rw [ekk]; exact ev_succ (by omega)) (ab_frs_tr hf z1) ?_
      rw [ab_take_succ (d := 0) hkl, ← List.append_assoc]
      exact z2)
  refine ⟨Or.inr ⟨217, _, rfl, rfl⟩, ev_m66, rfl, ev_gK A hp [2] 20 ?_⟩
  exact loop 0 (by omega) _ m rfl ab_frs_rfl (by rw [List.take_zero, List.append_nil]; exact hO)
/-- a reading -/
def ab_rdf (f : Option ab_Ls) : ab_Ls := match f with
  | none => [63]
  | some [] => [46]
  | some (c :: l) => c :: l
def ab_rd (fo : Nat → Option ab_Ls) (x : Option Nat) : ab_Ls := match x with
  | none => [45]
  | some x => ab_rdf (fo x)
theorem ab_rd_len {fo : Nat → Option ab_Ls} {x : Option Nat} (h : ∀ y, x = some y → ab_ol (fo y) ≤ 12) : (ab_rd fo x).length ≤ 12 := by
  unfold ab_rd
  cases x with
  | none => exact (by decide : 1 ≤ 12)
  | some y =>
    have h1 := h y rfl
    show (ab_rdf (fo y)).length ≤ 12
    unfold ab_rdf
    cases hf : fo y with
    | none => exact (by decide : 1 ≤ 12)
    | some l =>
      cases l with
      | nil => exact (by decide : 1 ≤ 12)
      | cons c l => rw [hf] at h1; exact h1
/-- Sheet.putReading -/
theorem ev_S65 {x : Option Nat} {fo : Nat → Option ab_Ls} {o : ab_Ls} (A : ev_all w) (hx : ∀ y, x = some y → y < 40 ∧ ab_th m y = true) (hFO : ab_FO m fo) (haz : ∀ y l, y < 40 → ab_th m y = true → fo y = some l → ab_az l) (hO : ab_O m o) (hl : o.length + (ab_rd fo x).length ≤ 1920) (hQ : ∀ m', ab_frs m m' → ab_O m' (o ++ ab_rd fo x) → Q (.inl none) m' t) : ev_K w 65 [.ref 217, .ref 40, .int (ab_oi x)] m t Q := by
  have hp : ev_prog[65]? = some ev_m65 := rfl
  have em1 := ev_im1
  refine ⟨Or.inr ⟨217, _, rfl, rfl⟩, ev_m65, rfl, ev_gK A hp [14] 20 ?_⟩
  cases x with
  | none =>
    refine And.intro (fun (h : ¬ (-1 : Int32).toInt = (-1 : Int32).toInt) => absurd rfl h) (fun h => ?_)
    have hl1 : o.length + 1 ≤ 1920 := hl
    exact ev_S64 (c := 45) A hO (by omega) (by unfold ab_c16; decide) hQ
  | some y =>
    obtain ⟨hy, hyt⟩ := hx y rfl
    have ey := ev_ofNat_i (n := y) (by omega)
    obtain ⟨hF, hol⟩ := hFO y hy hyt
    refine And.intro (fun h => ?_) (fun (h : (Int32.ofNat y).toInt = (Int32.ofInt (-1)).toInt) => by omega)
    show ev_J w ev_m65 (ev_nd 65) Q 14 [ev_vr 217, ev_vr 40, ev_vn y] [] m t
    refine ev_gK A hp [31] 20 ?_
    refine ev_S21 A hy ?_
    refine And.intro (fun h => ?_) (fun h => ?_)
    · have h2 := of_decide_eq_false (ab_bi_eq h)
      show ev_J w ev_m65 (ev_nd 65) Q 31 [ev_vr 217, ev_vr 40, ev_vn y] [] m t
      cases hfy : fo y with
      | none => rw [hfy] at hF; exact absurd hF h2
      | some l =>
        rw [hfy] at hF hol
        have hL : ab_L m (45 + 4 * y) l := hF
        have hl12 : l.length ≤ 12 := hol
        have hrd : ab_rd fo (some y) = ab_rdf (some l) := by show ab_rdf (fo y) = _; rw [hfy]
        rw [hrd] at hl
        refine ev_gK A hp [51] 20 ?_
        refine ev_S22 A hy ?_
        refine ev_S5 A (ev_isLf hy) ?_
        have hL1 := hL.1
        refine And.intro (fun (h : ¬ (m (45 + 4 * y) 1).toInt = 0) => ?_) (fun (h : (m (45 + 4 * y) 1).toInt = 0) => ?_)
        · show ev_J w ev_m65 (ev_nd 65) Q 51 [ev_vr 217, ev_vr 40, ev_vn y] [] m t
          refine ev_gK A hp [] 20 ?_
          refine ev_S22 A hy ?_
          have e0 : ab_rdf (some l) = l := by
            cases l with
            | nil => exact absurd hL1 h
            | cons c l => rfl
          rw [e0] at hl
          refine ev_S66 A (ev_isLf hy) (by omega) (by decide) hL hl12 (haz y l hy hyt hfy) hO hl ?_
          have e2 : ab_rd fo (some y) = l := hrd.trans e0
          rw [e2] at hQ
          exact hQ
        · have e2 : l = [] := List.eq_nil_of_length_eq_zero (by omega)
          rw [e2] at hl
          have hl1 : o.length + 1 ≤ 1920 := hl
          rw [hrd, e2] at hQ
          exact ev_S64 (c := 46) A hO (by omega) (by unfold ab_c16; decide) hQ
    · have h2 := of_decide_eq_true (ab_bi_neq h)
      have hfy : fo y = none := by
        cases hfy : fo y with
        | none => rfl
        | some l =>
          rw [hfy] at hF
          have := hF.1
          omega
      have hrd : ab_rd fo (some y) = [63] := by show ab_rdf (fo y) = _; rw [hfy]; rfl
      rw [hrd] at hQ hl
      have hl1 : o.length + 1 ≤ 1920 := hl
      exact ev_S64 (c := 63) A hO (by omega) (by unfold ab_c16; decide) hQ
end EvSheet
end
section
/-! the class's sheet: groups, entries, all -/
section EvWrite
variable {w : ev_W} {Q : ev_QT} {m : ev_Mem} {t : ev_H}
def ab_E (m : ev_Mem) (T : ab_T) (fo : Nat → Option ab_Ls) : Prop := ab_TC m T ∧ ab_Tok T ∧ ab_FO m fo ∧ (∀ p v i, p < T.1 → v < 4 → T.2.1 p v = some i → ab_th m (10 * v + i) = true) ∧ (∀ y l, y < 40 → ab_th m y = true → fo y = some l → ab_az l) ∧ (∀ x y, x < 40 → y < 40 → ab_th m x = true → ab_th m y = true → ((m 204 x).toInt = (m 204 y).toInt ↔ fo x = fo y))
theorem ab_E_cong {m m' : ev_Mem} {T : ab_T} {fo : Nat → Option ab_Ls} (h : ∀ c i, 40 ≤ c → c < 213 → m' c i = m c i) (hE : ab_E m T fo) : ab_E m' T fo := by
  obtain ⟨e1, e2, e3, e4, e5, e6⟩ := hE
  have hth : ∀ z, ab_th m' z = ab_th m z := ab_th_cong (fun j => h _ _ (by decide) (by decide))
  refine ⟨ab_TC_cong (fun k j z1 z2 => h k j (by omega) (by omega)) e1, e2, fun x hx ht => ?_, fun p v i z1 z2 z3 => by rw [hth]; exact e4 p v i z1 z2 z3, fun y l z1 z2 z3 => e5 y l z1 (by rw [← hth]; exact z2) z3, fun x y z1 z2 z3 z4 => ?_⟩
  · rw [hth] at ht
    obtain ⟨a, b⟩ := e3 x hx ht
    exact ⟨ab_F_cong (fun j => h _ _ (by omega) (by omega)) (fun j => h _ _ (by omega) (by omega)) a, b⟩
  · rw [hth] at z3 z4
    rw [h 204 x (by decide) (by decide), h 204 y (by decide) (by decide)]
    exact e6 x y z1 z2 z3 z4
theorem ab_E_frs {m m' : ev_Mem} {T : ab_T} {fo : Nat → Option ab_Ls} (h : ab_frs m m') (hE : ab_E m T fo) : ab_E m' T fo := ab_E_cong (fun c i _ z => h c i (by omega) (by omega)) hE
def ab_okx (m : ev_Mem) (x : Option Nat) : Prop := ∀ y, x = some y → y < 40 ∧ ab_th m y = true
theorem ab_okx_frs {m m' : ev_Mem} {x : Option Nat} (h : ab_frs m m') (hx : ab_okx m x) : ab_okx m' x := fun y hy => ⟨(hx y hy).1, by rw [ab_th_cong (fun j => h _ _ (by decide) (by decide))]; exact (hx y hy).2⟩
def ab_nat (T : ab_T) (p v : Nat) : Option Nat := ab_num v (T.2.1 p v)
def ab_alk (fo : Nat → Option ab_Ls) (a b : Option Nat) : Bool := match a, b with
  | none, none => true
  | some x, some y => decide (fo x = fo y)
  | _, _ => false
theorem ab_nat_ok {T : ab_T} {fo : Nat → Option ab_Ls} (hE : ab_E m T fo) {p v : Nat} (hp : p < T.1) (hv : v < 4) : ab_okx m (ab_nat T p v) := by
  intro y hy
  unfold ab_nat ab_num at hy
  cases hc : T.2.1 p v with
  | none => rw [hc] at hy; cases hy
  | some i =>
    rw [hc] at hy
    cases hy
    have h1 := hE.2.1.2.1 p v i hc
    exact ⟨(by show 10 * v + i < 40; omega), hE.2.2.2.1 p v i hp hv hc⟩
theorem ab_lem_ok {T : ab_T} {fo : Nat → Option ab_Ls} (hE : ab_E m T fo) {p : Nat} (hp : p < T.1) : ab_okx m (ab_lem T p) := by
  intro y hy
  have key : ∀ r : Option Nat, (∀ v, r = some v → v < 4) → (match r with | none => none | some v => ab_num v (T.2.1 p v)) = some y → y < 40 ∧ ab_th m y = true := by
    intro r hr h
    cases r with
    | none => cases h
    | some v => exact ab_nat_ok hE hp (hr v rfl) y h
  unfold ab_lem at hy
  cases hch : T.2.2.1 p with
  | none => rw [hch] at hy; exact key _ (fun v hv => hE.2.1.2.2.2.2.2 v hv) hy
  | some v => rw [hch] at hy; exact key (some v) (fun u hu => by cases hu; exact hE.2.1.2.2.1 p v hch) hy
theorem ab_E_alk {T : ab_T} {fo : Nat → Option ab_Ls} (hE : ab_E m T fo) {a b : Option Nat} (ha : ab_okx m a) (hb : ab_okx m b) : ab_eqm m 204 a b = ab_alk fo a b := by
  cases a with
  | none => cases b <;> rfl
  | some x =>
    cases b with
    | none => rfl
    | some y =>
      obtain ⟨x1, x2⟩ := ha x rfl
      obtain ⟨y1, y2⟩ := hb y rfl
      exact decide_eq_decide.mpr (hE.2.2.2.2.2 x y x1 y1 x2 y2)
def ab_rdr (T : ab_T) (fo : Nat → Option ab_Ls) (p : Nat) (x : Option Nat) (v : Nat) : Bool := ab_isJ T.2.2.2.1 (Int32.ofNat v) && ab_alk fo (ab_nat T p v) x
def ab_ff (f : Nat → Bool) : Nat → Nat → Option Nat
  | 0, _ => none
  | n + 1, k => if f k = true then some k else ab_ff f n (k + 1)
theorem ab_ff_next {f : Nat → Bool} {k : Nat} (hk : k < 4) : ab_ff f (4 - k) k = if f k = true then some k else ab_ff f (4 - (k + 1)) (k + 1) := by
  obtain ⟨n, hn⟩ : ∃ n, 4 - k = n + 1 := ⟨4 - k - 1, by omega⟩
  have e : 4 - (k + 1) = n := by omega
  rw [hn, e]
  rfl
/-- Sheet.firstReader -/
theorem ev_S67 {p : Nat} {x : Option Nat} {T : ab_T} {fo : Nat → Option ab_Ls} (A : ev_all w) (hE : ab_E m T fo) (hpT : p < T.1) (hx : ab_okx m x) (hQ : Q (.inl (some (.int (ab_oi (ab_ff (ab_rdr T fo p x) 4 0))))) m t) : ev_K w 67 [.ref 209, .ref 40, .int (Int32.ofNat p), .int (ab_oi x)] m t Q := by
  have hp : ev_prog[67]? = some ev_m67 := rfl
  have k1 := hE.2.1.1
  have i4 := ev_i4
  have loop := ev_lup (P := fun k => ∀ kk : Int32, kk = Int32.ofNat k → ab_ff (ab_rdr T fo p x) 4 0 = ab_ff (ab_rdr T fo p x) (4 - k) k → ev_J w ev_m67 (ev_nd 67) Q 3 [ev_vr 209, ev_vr 40, ev_vn p, ev_vi (ab_oi x), ev_vi kk] [] m t) 4 (by
    intro k hk ih kk ekk hff
    subst ekk
    have ek := ev_ofNat_i (n := k) (by omega)
    refine ev_gK A hp [3] 30 ?_
    refine And.intro (fun (h : (Int32.ofInt 4).toInt ≤ (Int32.ofNat k).toInt) => ?_) (fun (h : (Int32.ofNat k).toInt < (Int32.ofInt 4).toInt) => ?_)
    · have e4 : 4 - k = 0 := by omega
      rw [e4] at hff
      rw [hff] at hQ
      exact hQ
    · have hk4 : k < 4 := by omega
      rw [ab_ff_next hk4] at hff
      refine ev_S40 A hE.1 hE.2.1 ?_
      refine And.intro (fun h => ?_) (fun h => ?_)
      · have h1 := ab_bi_eq h
        refine ih hk4 _ (ev_succ (by omega)) (hff.trans (if_neg ?_))
        unfold ab_rdr
        rw [h1]
        exact Bool.false_ne_true
      · have h1 := ab_bi_neq h
        refine ev_S38 A (by omega) hk4 (hE.1.2.1 p hpT k hk4) (fun i hi => hE.2.1.2.1 p k i hi) ?_
        refine ev_S20 A (fun y hy => (ab_nat_ok hE hpT hk4 y hy).1) (fun y hy => (hx y hy).1) ?_
        have ea := ab_E_alk hE (ab_nat_ok hE hpT hk4) hx
        refine And.intro (fun h => ?_) (fun h => ?_)
        · have h2 := ab_bi_eq h
          refine ih hk4 _ (ev_succ (by omega)) (hff.trans (if_neg ?_))
          unfold ab_rdr
          rw [← ea, h1]
          exact fun z => Bool.false_ne_true (h2.symm.trans z)
        · have h2 := ab_bi_neq h
          rw [hff, if_pos] at hQ
          · exact hQ
          · unfold ab_rdr
            rw [← ea, h1]
            exact h2)
  refine ⟨Or.inl rfl, ev_m67, rfl, ev_gK A hp [3] 20 ?_⟩
  exact loop 0 (by omega) _ rfl rfl
def ab_cat (h : Nat → ab_Ls) : Nat → ab_Ls
  | 0 => []
  | k + 1 => ab_cat h k ++ h k
def ab_sg (T : ab_T) (fo : Nat → Option ab_Ls) (p : Nat) (x : Option Nat) (v : Nat) : ab_Ls := if ab_rdr T fo p x v = true then [Int32.ofNat (65 + v)] else []
def ab_grp (T : ab_T) (fo : Nat → Option ab_Ls) (p : Nat) (x : Option Nat) : ab_Ls := [32] ++ ab_rd fo x ++ [32] ++ ab_cat (ab_sg T fo p x) 4
theorem ab_cat_mono (h : Nat → ab_Ls) : ∀ (n k : Nat), (ab_cat h k).length ≤ (ab_cat h (k + n)).length
  | 0, _ => Nat.le_refl _
  | n + 1, k => by
    have h1 := ab_cat_mono h n k
    rw [← Nat.add_assoc, ab_cat, List.length_append]
    omega
/-- Sheet.putGroup -/
theorem ev_S68 {p : Nat} {x : Option Nat} {T : ab_T} {fo : Nat → Option ab_Ls} {o : ab_Ls} (A : ev_all w) (hE : ab_E m T fo) (hpT : p < T.1) (hx : ab_okx m x) (hO : ab_O m o) (hl : o.length + (ab_grp T fo p x).length ≤ 1920) (hQ : ∀ m', ab_frs m m' → ab_O m' (o ++ ab_grp T fo p x) → Q (.inl none) m' t) : ev_K w 68 [.ref 217, .ref 209, .ref 40, .int (Int32.ofNat p), .int (ab_oi x)] m t Q := by
  have hp : ev_prog[68]? = some ev_m68 := rfl
  have k1 := hE.2.1.1
  have i4 := ev_i4
  have hl2 : o.length + (1 + (ab_rd fo x).length + 1 + (ab_cat (ab_sg T fo p x) 4).length) ≤ 1920 := by
    unfold ab_grp at hl
    rw [List.length_append, List.length_append, List.length_append] at hl
    exact hl
  have loop := ev_lup (P := fun k => ∀ (kk : Int32) (mk : ev_Mem), kk = Int32.ofNat k → ab_frs m mk → ab_O mk (o ++ [32] ++ ab_rd fo x ++ [32] ++ ab_cat (ab_sg T fo p x) k) → ev_J w ev_m68 (ev_nd 68) Q 22 [ev_vr 217, ev_vr 209, ev_vr 40, ev_vn p, ev_vi (ab_oi x), ev_vi kk] [] mk t) 4 (by
    intro k hk ih kk mk ekk hf hOk
    subst ekk
    have ek := ev_ofNat_i (n := k) (by omega)
    have hEk := ab_E_frs hf hE
    refine ev_gK A hp [22, 53] 30 ?_
    refine And.intro (fun (h : (Int32.ofInt 4).toInt ≤ (Int32.ofNat k).toInt) => ?_) (fun (h : (Int32.ofNat k).toInt < (Int32.ofInt 4).toInt) => ?_)
    · have e4 : k = 4 := by omega
      rw [e4] at hOk
      refine hQ mk hf ?_
      unfold ab_grp
      rw [← List.append_assoc, ← List.append_assoc, ← List.append_assoc]
      exact hOk
    · have hk4 : k < 4 := by omega
      have hno : ab_rdr T fo p x k = false → ab_O mk (o ++ [32] ++ ab_rd fo x ++ [32] ++ ab_cat (ab_sg T fo p x) (k + 1)) := by
        intro hr
        have e : ab_cat (ab_sg T fo p x) (k + 1) = ab_cat (ab_sg T fo p x) k := by
          rw [ab_cat, ab_sg, hr]
          exact List.append_nil _
        rw [e]; exact hOk
      refine ev_S40 A hEk.1 hEk.2.1 ?_
      refine And.intro (fun h => ?_) (fun h => ?_)
      · have h1 := ab_bi_eq h
        refine ih hk4 _ _ (ev_succ (by omega)) hf (hno ?_)
        unfold ab_rdr
        rw [h1]; rfl
      · have h1 := ab_bi_neq h
        refine ev_S38 A (by omega) hk4 (hEk.1.2.1 p hpT k hk4) (fun i hi => hEk.2.1.2.1 p k i hi) ?_
        refine ev_S20 A (fun y hy => (ab_nat_ok hEk hpT hk4 y hy).1) (fun y hy => (hx y hy).1) ?_
        have ea := ab_E_alk hEk (ab_nat_ok hEk hpT hk4) (ab_okx_frs hf hx)
        refine And.intro (fun h => ?_) (fun h => ?_)
        · have h2 := ab_bi_eq h
          refine ih hk4 _ _ (ev_succ (by omega)) hf (hno ?_)
          unfold ab_rdr
          rw [← ea, h1]
          exact h2
        · have h2 := ab_bi_neq h
          show ev_J w ev_m68 (ev_nd 68) Q 53 [ev_vr 217, ev_vr 209, ev_vr 40, ev_vn p, ev_vi (ab_oi x), ev_vn k] [] mk t
          have hr : ab_rdr T fo p x k = true := by
            unfold ab_rdr
            rw [← ea, h1]
            exact h2
          have es : ab_sg T fo p x k = [Int32.ofNat (65 + k)] := if_pos hr
          have hmono := ab_cat_mono (ab_sg T fo p x) (4 - (k + 1)) (k + 1)
          rw [(by omega : k + 1 + (4 - (k + 1)) = 4), ab_cat, es, List.length_append, List.length_singleton] at hmono
          refine ev_gK A hp [] 4 ?_
          show ev_J w ev_m68 (ev_nd 68) Q 59 [ev_vr 217, ev_vr 209, ev_vr 40, ev_vn p, ev_vi (ab_oi x), ev_vn k] [.int (Int32.ofNat 65 + Int32.ofNat k), .ref 217] mk t
          rw [ev_addN (by omega)]
          refine ev_gK A hp [] 1 ?_
          show ev_J w ev_m68 (ev_nd 68) Q 60 [ev_vr 217, ev_vr 209, ev_vr 40, ev_vn p, ev_vi (ab_oi x), ev_vn k] [.int ((Int32.ofNat (65 + k)).toUInt32 % 65536).toInt32, .ref 217] mk t
          rw [ev_i2c0 (by omega)]
          refine ev_gK A hp [22] 10 ?_
          refine ev_S64 A hOk ?_ (ab_c16N (by omega)) (fun m' z1 z2 => ?_)
          · rw [List.length_append, List.length_append, List.length_append, List.length_append, List.length_singleton]; omega
          · refine ih hk4 _ _ (ev_succ (by omega)) (ab_frs_tr hf z1) ?_
            rw [ab_cat, es, ← List.append_assoc]
            exact z2)
  refine ⟨Or.inr ⟨217, _, rfl, rfl⟩, ev_m68, rfl, ev_gK A hp [22] 30 ?_⟩
  refine ev_S64 (c := 32) A hO (by omega) (by unfold ab_c16; decide) (fun m1 f1 O1 => ?_)
  refine ev_S65 A (ab_okx_frs f1 hx) (ab_E_frs f1 hE).2.2.1 (ab_E_frs f1 hE).2.2.2.2.1 O1 (by rw [List.length_append, List.length_singleton]; omega) (fun m2 f2 O2 => ?_)
  refine ev_S64 (c := 32) A O2 (by rw [List.length_append, List.length_append, List.length_singleton]; omega) (by unfold ab_c16; decide) (fun m3 f3 O3 => ?_)
  exact loop 0 (by omega) _ _ rfl (ab_frs_tr f1 (ab_frs_tr f2 f3)) (by rw [ab_cat, List.append_nil]; exact O3)
/-- Sheet.needsEntry -/
def ab_need (T : ab_T) (fo : Nat → Option ab_Ls) (p : Nat) : Bool := (ab_ff (fun v => ab_isJ T.2.2.2.1 (Int32.ofNat v) && !(ab_alk fo (ab_nat T p v) (ab_lem T p))) 4 0).isSome
theorem ev_S61 {p : Nat} {T : ab_T} {fo : Nat → Option ab_Ls} (A : ev_all w) (hE : ab_E m T fo) (hpT : p < T.1) (hQ : Q (.inl (some (.int (ab_bi (ab_need T fo p))))) m t) : ev_K w 61 [.ref 209, .ref 40, .int (Int32.ofNat p)] m t Q := by
  have hp : ev_prog[61]? = some ev_m61 := rfl
  have k1 := hE.2.1.1
  have i4 := ev_i4
  have hlem := ab_lem_ok hE hpT
  have loop := ev_lup (P := fun k => ∀ kk : Int32, kk = Int32.ofNat k → ab_need T fo p = (ab_ff (fun v => ab_isJ T.2.2.2.1 (Int32.ofNat v) && !(ab_alk fo (ab_nat T p v) (ab_lem T p))) (4 - k) k).isSome → ev_J w ev_m61 (ev_nd 61) Q 9 [ev_vr 209, ev_vr 40, ev_vn p, ev_vi (ab_oi (ab_lem T p)), ev_vi kk] [] m t) 4 (by
    intro k hk ih kk ekk hff
    subst ekk
    have ek := ev_ofNat_i (n := k) (by omega)
    refine ev_gK A hp [9] 30 ?_
    refine And.intro (fun (h : (Int32.ofInt 4).toInt ≤ (Int32.ofNat k).toInt) => ?_) (fun (h : (Int32.ofNat k).toInt < (Int32.ofInt 4).toInt) => ?_)
    · have e4 : 4 - k = 0 := by omega
      rw [e4] at hff
      rw [hff] at hQ
      exact ⟨rfl, hQ⟩
    · have hk4 : k < 4 := by omega
      rw [ab_ff_next hk4] at hff
      refine ev_S40 A hE.1 hE.2.1 ?_
      refine And.intro (fun h => ?_) (fun h => ?_)
      · have h1 := ab_bi_eq h
        refine ih hk4 _ (ev_succ (by omega)) (hff.trans ?_)
        rw [if_neg (by rw [h1]; exact Bool.false_ne_true)]
      · have h1 := ab_bi_neq h
        refine ev_S38 A (by omega) hk4 (hE.1.2.1 p hpT k hk4) (fun i hi => hE.2.1.2.1 p k i hi) ?_
        refine ev_S20 A (fun y hy => (ab_nat_ok hE hpT hk4 y hy).1) (fun y hy => (hlem y hy).1) ?_
        have ea := ab_E_alk hE (ab_nat_ok hE hpT hk4) hlem
        refine And.intro (fun h => ?_) (fun h => ?_)
        · have h2 := ab_bi_ne h
          refine ih hk4 _ (ev_succ (by omega)) (hff.trans ?_)
          have h3 : ab_alk fo (ab_nat T p k) (ab_lem T p) = true := ea.symm.trans h2
          rw [if_neg (by rw [h1, h3]; exact Bool.false_ne_true)]
        · have h2 := ab_bi_nne h
          have h3 : ab_alk fo (ab_nat T p k) (ab_lem T p) = false := ea.symm.trans h2
          rw [if_pos (by rw [h1, h3]; rfl)] at hff
          rw [hff] at hQ
          exact ⟨rfl, hQ⟩)
  refine ⟨Or.inl rfl, ev_m61, rfl, ev_gK A hp [9] 20 ?_⟩
  refine ev_S37 A hE.1 hE.2.1 hpT ?_
  exact loop 0 (by omega) _ rfl rfl
end EvWrite
end
section
/-! the class's sheet: an entry, all entries -/
section EvEntry
variable {w : ev_W} {Q : ev_QT} {m : ev_Mem} {t : ev_H}
def ab_lg (T : ab_T) (fo : Nat → Option ab_Ls) (p : Nat) (neg : Bool) : Bool := !neg && (ab_ff (ab_rdr T fo p (ab_lem T p)) 4 0).isSome
def ab_e0 (T : ab_T) (fo : Nat → Option ab_Ls) (p : Nat) : ab_Ls := ab_nm p ++ [32] ++ ab_rd fo (ab_lem T p) ++ [93]
def ab_cd (T : ab_T) (fo : Nat → Option ab_Ls) (p k : Nat) : Bool := !(ab_alk fo (ab_nat T p k) (ab_lem T p)) && decide (ab_ff (ab_rdr T fo p (ab_nat T p k)) 4 0 = some k)
def ab_ek (T : ab_T) (fo : Nat → Option ab_Ls) (p : Nat) (neg : Bool) : Nat → ab_Ls × Bool
  | 0 => if ab_lg T fo p neg = true then (ab_e0 T fo p ++ ab_grp T fo p (ab_lem T p), false) else (ab_e0 T fo p, true)
  | k + 1 => if ab_cd T fo p k = true then ((ab_ek T fo p neg k).1 ++ (if (ab_ek T fo p neg k).2 = true then [] else [59]) ++ ab_grp T fo p (ab_nat T p k), false) else ab_ek T fo p neg k
def ab_ent (T : ab_T) (fo : Nat → Option ab_Ls) (p : Nat) (neg : Bool) : ab_Ls := (ab_ek T fo p neg 4).1 ++ [10]
theorem ab_ek_mono (T : ab_T) (fo : Nat → Option ab_Ls) (p : Nat) (neg : Bool) : ∀ (n k : Nat), (ab_ek T fo p neg k).1.length ≤ (ab_ek T fo p neg (k + n)).1.length
  | 0, _ => Nat.le_refl _
  | n + 1, k => by
    have h1 := ab_ek_mono T fo p neg n k
    rw [← Nat.add_assoc, ab_ek]
    split
    · rw [List.length_append, List.length_append]; omega
    · exact h1
theorem ab_e0_le (T : ab_T) (fo : Nat → Option ab_Ls) (p : Nat) (neg : Bool) : (ab_e0 T fo p).length ≤ (ab_ek T fo p neg 0).1.length := by
  rw [ab_ek]
  split
  · rw [List.length_append]; omega
  · exact Nat.le_refl _
/-- Sheet.writeEntry -/
theorem ev_S62 {p : Nat} {neg : Bool} {T : ab_T} {fo : Nat → Option ab_Ls} {o : ab_Ls} (A : ev_all w) (hE : ab_E m T fo) (hpT : p < T.1) (hO : ab_O m o) (hl : o.length + (ab_ent T fo p neg).length ≤ 1920) (hQ : ∀ m', ab_frs m m' → ab_O m' (o ++ ab_ent T fo p neg) → Q (.inl none) m' t) : ev_K w 62 [.ref 217, .ref 209, .ref 40, .int (Int32.ofNat p), .int (ab_bi neg)] m t Q := by
  have hp : ev_prog[62]? = some ev_m62 := rfl
  have k1 := hE.2.1.1
  have i4 := ev_i4
  have em1 := ev_im1
  have hlem := ab_lem_ok hE hpT
  have hl4 : o.length + (ab_ek T fo p neg 4).1.length + 1 ≤ 1920 := by
    unfold ab_ent at hl
    rw [List.length_append, List.length_singleton] at hl
    omega
  have hek : ∀ k, k ≤ 4 → o.length + (ab_ek T fo p neg k).1.length + 1 ≤ 1920 := by
    intro k hk
    have h1 := ab_ek_mono T fo p neg (4 - k) k
    rw [(by omega : k + (4 - k) = 4)] at h1
    omega
  have loop := ev_lup (P := fun k => ∀ (kk bb : Int32) (mk : ev_Mem) (o8 : Option Value), kk = Int32.ofNat k → bb = ab_bi (ab_ek T fo p neg k).2 → ab_frs m mk → ab_O mk (o ++ (ab_ek T fo p neg k).1) → ev_J w ev_m62 (ev_nd 62) Q 66 [ev_vr 217, ev_vr 209, ev_vr 40, ev_vn p, ev_vi (ab_bi neg), ev_vi (ab_oi (ab_lem T p)), ev_vi bb, ev_vi kk, o8] [] mk t) 4 (by
    intro k hk ih kk bb mk o8 ekk ebb hf hOk
    subst ekk ebb
    have ek := ev_ofNat_i (n := k) (by omega)
    have hEk := ab_E_frs hf hE
    refine ev_gK A hp [81, 134] 30 ?_
    refine And.intro (fun (h : (Int32.ofInt 4).toInt ≤ (Int32.ofNat k).toInt) => ?_) (fun (h : (Int32.ofNat k).toInt < (Int32.ofInt 4).toInt) => ?_)
    · have e4 : k = 4 := by omega
      subst e4
      refine ev_gK A hp [] 10 ?_
      refine ev_S64 (c := 10) A hOk (by rw [List.length_append]; omega) (by unfold ab_c16; decide) (fun m' f' O' => ?_)
      refine hQ m' (ab_frs_tr hf f') ?_
      unfold ab_ent
      rw [← List.append_assoc]
      exact O'
    · have hk4 : k < 4 := by omega
      have hnok := ab_nat_ok hEk hpT hk4
      have h128 : ∀ (bb x8 : Int32) (m2 : ev_Mem), bb = ab_bi (ab_ek T fo p neg (k + 1)).2 → ab_frs m m2 → ab_O m2 (o ++ (ab_ek T fo p neg (k + 1)).1) → ev_J w ev_m62 (ev_nd 62) Q 128 [ev_vr 217, ev_vr 209, ev_vr 40, ev_vn p, ev_vi (ab_bi neg), ev_vi (ab_oi (ab_lem T p)), ev_vi bb, ev_vn k, ev_vi x8] [] m2 t := by
        intro bb x8 m2 hb f2 O2
        refine ev_gK A hp [66] 10 ?_
        exact ih hk4 _ _ _ _ (ev_succ (by omega)) hb f2 O2
      have hsame : ab_cd T fo p k = false → ab_ek T fo p neg (k + 1) = ab_ek T fo p neg k := fun hc => by rw [ab_ek, hc]; exact if_neg Bool.false_ne_true
      refine ev_S38 A (by omega) hk4 (hEk.1.2.1 p hpT k hk4) (fun i hi => hEk.2.1.2.1 p k i hi) ?_
      show ev_J w ev_m62 (ev_nd 62) Q 81 [ev_vr 217, ev_vr 209, ev_vr 40, ev_vn p, ev_vi (ab_bi neg), ev_vi (ab_oi (ab_lem T p)), ev_vi (ab_bi (ab_ek T fo p neg k).2), ev_vn k, ev_vi (ab_oi (ab_nat T p k))] [] mk t
      refine ev_gK A hp [105, 128] 30 ?_
      refine ev_S20 A (fun y hy => (hnok y hy).1) (fun y hy => (hlem y hy).1) ?_
      have ea := ab_E_alk hEk hnok (ab_okx_frs hf hlem)
      refine And.intro (fun h => ?_) (fun h => ?_)
      · have h2 := ab_bi_ne h
        have h3 : ab_alk fo (ab_nat T p k) (ab_lem T p) = true := ea.symm.trans h2
        have hc : ab_cd T fo p k = false := by unfold ab_cd; rw [h3]; rfl
        exact h128 _ _ mk (by rw [hsame hc]) hf (by rw [hsame hc]; exact hOk)
      · have h2 := ab_bi_nne h
        have h3 : ab_alk fo (ab_nat T p k) (ab_lem T p) = false := ea.symm.trans h2
        refine ev_S67 A hEk hpT hnok ?_
        have ffb : ∀ v, ab_ff (ab_rdr T fo p (ab_nat T p k)) 4 0 = some v → v < 100000 := by
          intro v hv
          unfold ab_ff at hv
          simp only [ab_ff] at hv
          repeat' split at hv
          all_goals first | (cases hv; decide) | cases hv
        refine And.intro (fun (h : ¬ (ab_oi (ab_ff (ab_rdr T fo p (ab_nat T p k)) 4 0)).toInt = (Int32.ofNat k).toInt) => ?_) (fun (h : (ab_oi (ab_ff (ab_rdr T fo p (ab_nat T p k)) 4 0)).toInt = (Int32.ofNat k).toInt) => ?_)
        · have hc : ab_cd T fo p k = false := by
            unfold ab_cd
            rw [decide_eq_false (fun z => h (by rw [z]; rfl)), Bool.and_false]
          exact h128 _ _ mk (by rw [hsame hc]) hf (by rw [hsame hc]; exact hOk)
        · have h4 : ab_ff (ab_rdr T fo p (ab_nat T p k)) 4 0 = some k := ab_oi_inj ffb (fun x hx => by cases hx; omega) (h.trans rfl)
          have hc : ab_cd T fo p k = true := by unfold ab_cd; rw [h3, decide_eq_true h4]; rfl
          have hn : ab_ek T fo p neg (k + 1) = ((ab_ek T fo p neg k).1 ++ (if (ab_ek T fo p neg k).2 = true then [] else [59]) ++ ab_grp T fo p (ab_nat T p k), false) := by rw [ab_ek]; exact if_pos hc
          have hln := hek (k + 1) (by omega)
          rw [hn] at hln
          rw [List.length_append, List.length_append] at hln
          have h116 : ∀ m2 : ev_Mem, ab_frs m m2 → ab_O m2 (o ++ (ab_ek T fo p neg k).1 ++ (if (ab_ek T fo p neg k).2 = true then [] else [59])) → ev_J w ev_m62 (ev_nd 62) Q 116 [ev_vr 217, ev_vr 209, ev_vr 40, ev_vn p, ev_vi (ab_bi neg), ev_vi (ab_oi (ab_lem T p)), ev_vi (ab_bi (ab_ek T fo p neg k).2), ev_vn k, ev_vi (ab_oi (ab_nat T p k))] [] m2 t := by
            intro m2 f2 O2
            refine ev_gK A hp [128] 20 ?_
            refine ev_S68 A (ab_E_frs f2 hE) hpT (ab_nat_ok (ab_E_frs f2 hE) hpT hk4) O2 (by rw [List.length_append, List.length_append]; omega) (fun m3 f3 O3 => ?_)
            refine h128 _ _ m3 (by rw [hn]; rfl) (ab_frs_tr f2 f3) ?_
            rw [hn]
            rw [List.append_assoc, List.append_assoc] at O3
            rw [List.append_assoc]
            exact O3
          show ev_J w ev_m62 (ev_nd 62) Q 105 [ev_vr 217, ev_vr 209, ev_vr 40, ev_vn p, ev_vi (ab_bi neg), ev_vi (ab_oi (ab_lem T p)), ev_vi (ab_bi (ab_ek T fo p neg k).2), ev_vn k, ev_vi (ab_oi (ab_nat T p k))] [] mk t
          refine ev_gK A hp [116] 20 ?_
          refine And.intro (fun h => ?_) (fun h => ?_)
          · have hb := ab_bi_ne h
            refine h116 mk hf ?_
            rw [if_pos hb, List.append_nil]
            exact hOk
          · have hb := ab_bi_nne h
            rw [if_neg (by rw [hb]; exact Bool.false_ne_true)] at hln h116
            have hln' : o.length + ((ab_ek T fo p neg k).1.length + 1 + (ab_grp T fo p (ab_nat T p k)).length) + 1 ≤ 1920 := hln
            refine ev_S64 (c := 59) A hOk (by rw [List.length_append]; omega) (by unfold ab_c16; decide) (fun m' f' O' => ?_)
            exact h116 m' (ab_frs_tr hf f') O')
  have h00 := hek 0 (by omega)
  have he0 := ab_e0_le T fo p neg
  have hle0 : (ab_e0 T fo p).length = (ab_nm p).length + 1 + (ab_rd fo (ab_lem T p)).length + 1 := by
    unfold ab_e0
    rw [List.length_append, List.length_append, List.length_append]; rfl
  have h63 : ∀ (bb : Int32) (mk : ev_Mem), bb = ab_bi (ab_ek T fo p neg 0).2 → ab_frs m mk → ab_O mk (o ++ (ab_ek T fo p neg 0).1) → ev_J w ev_m62 (ev_nd 62) Q 63 [ev_vr 217, ev_vr 209, ev_vr 40, ev_vn p, ev_vi (ab_bi neg), ev_vi (ab_oi (ab_lem T p)), ev_vi bb, none, none] [] mk t := by
    intro bb mk hb f O
    refine ev_gK A hp [66] 10 ?_
    exact loop 0 (by omega) _ _ mk _ rfl hb f O
  refine ⟨Or.inr ⟨217, _, rfl, rfl⟩, ev_m62, rfl, ev_gK A hp [31] 60 ?_⟩
  refine ev_S37 A hE.1 hE.2.1 hpT ?_
  refine ev_S63 A hO (by omega) (by omega) (fun m1 f1 O1 => ?_)
  refine ev_S64 (c := 32) A O1 (by rw [List.length_append]; omega) (by unfold ab_c16; decide) (fun m2 f2 O2 => ?_)
  have f12 := ab_frs_tr f1 f2
  refine ev_S65 A (ab_okx_frs f12 hlem) (ab_E_frs f12 hE).2.2.1 (ab_E_frs f12 hE).2.2.2.2.1 O2 (by rw [List.length_append, List.length_append, List.length_singleton]; omega) (fun m3 f3 O3 => ?_)
  refine ev_S64 (c := 93) A O3 (by rw [List.length_append, List.length_append, List.length_append, List.length_singleton]; omega) (by unfold ab_c16; decide) (fun m4 f4 O4 => ?_)
  have f14 := ab_frs_tr f12 (ab_frs_tr f3 f4)
  have O5 : ab_O m4 (o ++ ab_e0 T fo p) := by
    unfold ab_e0
    rw [← List.append_assoc, ← List.append_assoc, ← List.append_assoc]
    exact O4
  have hE4 := ab_E_frs f14 hE
  show ev_J w ev_m62 (ev_nd 62) Q 31 [ev_vr 217, ev_vr 209, ev_vr 40, ev_vn p, ev_vi (ab_bi neg), ev_vi (ab_oi (ab_lem T p)), none, none, none] [] m4 t
  refine ev_gK A hp [63, 51] 30 ?_
  refine And.intro (fun h => ?_) (fun h => ?_)
  · have hb := ab_bi_ne h
    have hg : ab_lg T fo p neg = false := by unfold ab_lg; rw [hb]; rfl
    have e0 : ab_ek T fo p neg 0 = (ab_e0 T fo p, true) := by rw [ab_ek, hg]; exact if_neg Bool.false_ne_true
    exact h63 _ m4 (by rw [e0]; rfl) f14 (by rw [e0]; exact O5)
  · have hb := ab_bi_nne h
    refine ev_S67 A hE4 hpT (ab_okx_frs f14 hlem) ?_
    refine And.intro (fun (h : (ab_oi (ab_ff (ab_rdr T fo p (ab_lem T p)) 4 0)).toInt = (Int32.ofInt (-1)).toInt) => ?_) (fun (h : ¬ (ab_oi (ab_ff (ab_rdr T fo p (ab_lem T p)) 4 0)).toInt = (Int32.ofInt (-1)).toInt) => ?_)
    · have hg : ab_lg T fo p neg = false := by
        unfold ab_lg
        rw [em1] at h
        cases hff : ab_ff (ab_rdr T fo p (ab_lem T p)) 4 0 with
        | none => rw [hb]; rfl
        | some v =>
          have hv : v < 4 := by
            unfold ab_ff at hff
            simp only [ab_ff] at hff
            repeat' split at hff
            all_goals first | (cases hff; decide) | cases hff
          rw [hff] at h
          have e1 : (ab_oi (some v)).toInt = (v : Int) := ev_ofNat_i (by omega)
          omega
      have e0 : ab_ek T fo p neg 0 = (ab_e0 T fo p, true) := by rw [ab_ek, hg]; exact if_neg Bool.false_ne_true
      exact h63 _ m4 (by rw [e0]; rfl) f14 (by rw [e0]; exact O5)
    · have hg : ab_lg T fo p neg = true := by
        unfold ab_lg
        cases hff : ab_ff (ab_rdr T fo p (ab_lem T p)) 4 0 with
        | none => rw [hff] at h; exact absurd rfl h
        | some v => rw [hb]; rfl
      have e0 : ab_ek T fo p neg 0 = (ab_e0 T fo p ++ ab_grp T fo p (ab_lem T p), false) := by rw [ab_ek, hg]; exact if_pos rfl
      rw [e0] at h00
      rw [List.length_append] at h00
      show ev_J w ev_m62 (ev_nd 62) Q 51 [ev_vr 217, ev_vr 209, ev_vr 40, ev_vn p, ev_vi (ab_bi neg), ev_vi (ab_oi (ab_lem T p)), ev_vi 1, none, none] [] m4 t
      refine ev_gK A hp [63] 20 ?_
      refine ev_S68 A hE4 hpT (ab_okx_frs f14 hlem) O5 (by rw [List.length_append]; omega) (fun m5 f5 O6 => ?_)
      refine h63 _ m5 (by rw [e0]; rfl) (ab_frs_tr f14 f5) ?_
      rw [e0]
      rw [List.append_assoc] at O6
      exact O6
/-- Sheet.write -/
def ab_wr (T : ab_T) (fo : Nat → Option ab_Ls) (neg : Bool) (n : Nat) : ab_Ls := ab_cat (fun p => if ab_need T fo p = true then ab_ent T fo p neg else []) n
theorem ev_S60 {neg : Bool} {T : ab_T} {fo : Nat → Option ab_Ls} (A : ev_all w) (hE : ab_E m T fo) (hl : (ab_wr T fo neg T.1).length ≤ 1920) (hQ : ∀ m', ab_frs m m' → ab_O m' (ab_wr T fo neg T.1) → Q (.inl none) m' t) : ev_K w 60 [.ref 217, .ref 209, .ref 40, .int (ab_bi neg)] m t Q := by
  have hp : ev_prog[60]? = some ev_m60 := rfl
  have k1 := hE.2.1.1
  have loop := ev_lup (P := fun k => ∀ (kk : Int32) (mk : ev_Mem), kk = Int32.ofNat k → ab_frs m mk → ab_O mk (ab_wr T fo neg k) → ev_J w ev_m60 (ev_nd 60) Q 8 [ev_vr 217, ev_vr 209, ev_vr 40, ev_vi (ab_bi neg), ev_vi kk] [] mk t) T.1 (by
    intro k hk ih kk mk ekk hf hOk
    subst ekk
    have ek := ev_ofNat_i (n := k) (by omega)
    have hEk := ab_E_frs hf hE
    have e1 := hEk.1.1
    refine ev_gK A hp [8] 30 ?_
    refine ev_S36 A ?_
    refine And.intro (fun (h : (mk 209 2).toInt ≤ (Int32.ofNat k).toInt) => ?_) (fun (h : (Int32.ofNat k).toInt < (mk 209 2).toInt) => ?_)
    · have e : k = T.1 := by omega
      rw [e] at hOk
      exact hQ mk hf hOk
    · have hkT : k < T.1 := by omega
      refine ev_S61 A hEk hkT ?_
      refine And.intro (fun h => ?_) (fun h => ?_)
      · have hn := ab_bi_eq h
        refine ih hkT _ mk (ev_succ (by omega)) hf ?_
        have e : ab_wr T fo neg (k + 1) = ab_wr T fo neg k := by
          unfold ab_wr
          rw [ab_cat, hn]
          exact List.append_nil _
        rw [e]; exact hOk
      · have hn := ab_bi_neq h
        have e : ab_wr T fo neg (k + 1) = ab_wr T fo neg k ++ ab_ent T fo k neg := by
          unfold ab_wr
          rw [ab_cat, hn]
          rfl
        have hm := ab_cat_mono (fun p => if ab_need T fo p = true then ab_ent T fo p neg else []) (T.1 - (k + 1)) (k + 1)
        rw [(by omega : k + 1 + (T.1 - (k + 1)) = T.1)] at hm
        have hm2 : (ab_wr T fo neg (k + 1)).length ≤ (ab_wr T fo neg T.1).length := hm
        rw [e, List.length_append] at hm2
        refine ev_S62 A hEk hkT hOk (by omega) (fun m' f' O' => ?_)
        refine ih hkT _ m' (ev_succ (by omega)) (ab_frs_tr hf f') ?_
        rw [e]; exact O')
  refine ⟨Or.inr ⟨217, _, rfl, rfl⟩, ev_m60, rfl, ev_gK A hp [8] 20 ?_⟩
  refine loop 0 (by omega) _ _ rfl (fun c i z1 z2 => ev_up_cell _ z1 _ _ _) ⟨ev_up_same _ _ _ _, fun k hk => absurd hk (Nat.not_lt_zero _)⟩
/-- Sheet.size -/
theorem ev_S69 (A : ev_all w) (hQ : Q (.inl (some (.int (m 217 1)))) m t) : ev_K w 69 [.ref 217] m t Q :=
  ⟨Or.inr ⟨217, [], rfl, rfl⟩, ev_m69, rfl, ev_gK A (k := 69) rfl [] 20 hQ⟩
/-- Sheet.sign -/
theorem ev_S70 {k : Nat} {o : ab_Ls} (A : ev_all w) (hO : ab_O m o) (hl : o.length ≤ 1920) (hch : ∀ v ∈ o, ab_c16 v) (hk : k < o.length) (hQ : Q (.inl (some (.int (o.getD k 0)))) m t) : ev_K w 70 [.ref 217, .int (Int32.ofNat k)] m t Q := by
  have hp : ev_prog[70]? = some ev_m70 := rfl
  refine ⟨Or.inr ⟨217, _, rfl, rfl⟩, ev_m70, rfl, ev_gK A hp [] 20 ?_⟩
  refine And.intro (ev_oin (by omega) (by decide)) ?_
  show narrow .char (.int (m 218 (Int32.ofNat k).toNatClampNeg)) = .int (m 218 (Int32.ofNat k).toNatClampNeg) ∧ Q (.inl (some (.int (m 218 (Int32.ofNat k).toNatClampNeg)))) m t
  rw [ev_on (by omega), hO.2 k hk]
  exact ⟨ab_c16_ch (hch _ (ab_getD_mem hk)), hQ⟩
/-- Sheet.change -/
theorem ev_S71 {k : Nat} {c : Int32} {o : ab_Ls} (A : ev_all w) (hO : ab_O m o) (hl : o.length ≤ 1920) (hc : ab_c16 c) (hk : k < o.length) (hQ : ∀ m', ab_frs m m' → ab_O m' (o.set k c) → Q (.inl none) m' t) : ev_K w 71 [.ref 217, .int (Int32.ofNat k), .int c] m t Q := by
  have hp : ev_prog[71]? = some ev_m71 := rfl
  refine ⟨Or.inr ⟨217, _, rfl, rfl⟩, ev_m71, rfl, ev_gK A hp [] 20 ?_⟩
  refine And.intro (ev_oin (by omega) (by decide)) ?_
  show Q (.inl none) (ev_up m 218 (Int32.ofNat k).toNatClampNeg (vp_nar .char c)) t
  rw [ev_on (by omega), ev_ch_nar (ab_c16_ch hc)]
  refine hQ _ (fun c i _ z => ev_up_cell _ z _ _ _) ⟨?_, fun i hi => ?_⟩
  · rw [ev_up_cell _ (by decide), List.length_set]; exact hO.1
  · rw [List.length_set] at hi
    rw [List.getD_eq_getElem?_getD, List.getElem?_set]
    by_cases hik : k = i
    · subst hik
      rw [ev_up_same, if_pos rfl, if_pos hk]; rfl
    · rw [ev_up_idx _ _ (fun q => hik q.symm), if_neg hik, ← List.getD_eq_getElem?_getD]; exact hO.2 i hi
/-- Sheet.run -/
def ab_run (o : ab_Ls) (f : Nat) (a b : Int) : Nat → Nat
  | 0 => 0
  | n + 1 => if f < o.length ∧ a ≤ (o.getD f 0).toInt ∧ (o.getD f 0).toInt ≤ b then ab_run o (f + 1) a b n + 1 else 0
theorem ev_S72 {f n : Nat} {a b : Int32} {o : ab_Ls} (A : ev_all w) (hO : ab_O m o) (hl : o.length ≤ 1920) (hf : f ≤ o.length) (hn : n < 100) (hQ : Q (.inl (some (.int (Int32.ofNat (ab_run o f a.toInt b.toInt n))))) m t) : ev_K w 72 [.ref 217, .int (Int32.ofNat f), .int a, .int b, .int (Int32.ofNat n)] m t Q := by
  have hp : ev_prog[72]? = some ev_m72 := rfl
  have en := ev_ofNat_i (n := n) (by omega)
  have e1 := ev_toI hO.1 (by omega)
  have loop := ev_lup (P := fun k => ∀ kk : Int32, kk = Int32.ofNat k → f + k ≤ o.length → ab_run o f a.toInt b.toInt n = k + ab_run o (f + k) a.toInt b.toInt (n - k) → ev_J w ev_m72 (ev_nd 72) Q 3 [ev_vr 217, ev_vn f, ev_vi a, ev_vi b, ev_vn n, ev_vi kk] [] m t) n (by
    intro k hk ih kk ekk hfk hr
    subst ekk
    have ek := ev_ofNat_i (n := k) (by omega)
    have efk : Int32.ofNat f + Int32.ofNat k = Int32.ofNat (f + k) := ev_addN (by omega)
    have efi := ev_toI efk (by omega)
    have fin : ab_run o (f + k) a.toInt b.toInt (n - k) = 0 → Q (.inl (some (.int (Int32.ofNat k)))) m t := by
      intro h
      rw [h] at hr
      rw [hr] at hQ
      exact hQ
    have hv : ∀ h : f + k < o.length, m 218 (Int32.ofNat f + Int32.ofNat k).toNatClampNeg = o.getD (f + k) 0 := fun h => by rw [ev_at efk (by omega)]; exact hO.2 _ h
    refine ev_gK A hp [3] 40 ?_
    refine And.intro (fun (h : (Int32.ofNat n).toInt ≤ (Int32.ofNat k).toInt) => ?_) (fun (h : (Int32.ofNat k).toInt < (Int32.ofNat n).toInt) => ?_)
    · refine fin ?_
      rw [(by omega : n - k = 0), ab_run]
    · obtain ⟨j, hj⟩ : ∃ j, n - k = j + 1 := ⟨n - k - 1, by omega⟩
      rw [hj] at hr fin
      rw [ab_run] at hr fin
      refine And.intro (fun (h : (m 217 1).toInt ≤ (Int32.ofNat f + Int32.ofNat k).toInt) => fin (if_neg (by omega))) (fun (h : (Int32.ofNat f + Int32.ofNat k).toInt < (m 217 1).toInt) => ?_)
      have hlt : f + k < o.length := by omega
      refine And.intro (ev_iin efk (by omega) (by decide)) ?_
      refine And.intro (fun (h : (m 218 (Int32.ofNat f + Int32.ofNat k).toNatClampNeg).toInt < a.toInt) => fin (by rw [hv hlt] at h; exact if_neg (by omega))) (fun (h : a.toInt ≤ (m 218 (Int32.ofNat f + Int32.ofNat k).toNatClampNeg).toInt) => ?_)
      refine And.intro (ev_iin efk (by omega) (by decide)) ?_
      refine And.intro (fun (h : b.toInt < (m 218 (Int32.ofNat f + Int32.ofNat k).toNatClampNeg).toInt) => fin (by rw [hv hlt] at h; exact if_neg (by omega))) (fun (h2 : (m 218 (Int32.ofNat f + Int32.ofNat k).toNatClampNeg).toInt ≤ b.toInt) => ?_)
      rw [hv hlt] at h h2
      rw [if_pos ⟨hlt, h, h2⟩] at hr
      refine ih (by omega) _ (ev_succ (by omega)) (by omega) ?_
      rw [hr, (by omega : n - (k + 1) = j), (by omega : f + (k + 1) = f + k + 1)]
      omega)
  refine ⟨Or.inr ⟨217, _, rfl, rfl⟩, ev_m72, rfl, ev_gK A hp [3] 20 ?_⟩
  exact loop 0 (by omega) _ rfl (by omega) (by rw [Nat.zero_add]; rfl)
end EvEntry
end
section
/-! the class's reader: tokens -/
section EvReader
variable {w : ev_W} {Q : ev_QT} {m : ev_Mem} {t : ev_H}
def ab_RS (m : ev_Mem) (n pm sn : Nat) (R : Nat → Option Nat) (v : Nat) : Prop := m 219 3 = Int32.ofNat v ∧ m 219 4 = Int32.ofNat n ∧ m 219 5 = Int32.ofInt ((pm : Int) - 1) ∧ m 219 6 = Int32.ofNat sn ∧ ∀ p, p < 24 → m 269 p = ab_oi (R p)
def ab_frd (m m' : ev_Mem) : Prop := ∀ c i, c ≠ 269 → ¬ (c = 219 ∧ 3 ≤ i) → m' c i = m c i
theorem ab_frd_rfl {m : ev_Mem} : ab_frd m m := fun _ _ _ _ => rfl
theorem ab_frd_tr {a b c : ev_Mem} (h1 : ab_frd a b) (h2 : ab_frd b c) : ab_frd a c := fun k i z1 z2 => (h2 k i z1 z2).trans (h1 k i z1 z2)
theorem ab_O_frd {m m' : ev_Mem} {o : ab_Ls} (h : ab_frd m m') (hO : ab_O m o) : ab_O m' o := ⟨by rw [h _ _ (by decide) (by decide)]; exact hO.1, fun k hk => by rw [h _ _ (by decide) (by omega)]; exact hO.2 k hk⟩
theorem ab_E_frd {m m' : ev_Mem} {T : ab_T} {fo : Nat → Option ab_Ls} (h : ab_frd m m') (hE : ab_E m T fo) : ab_E m' T fo := ab_E_cong (fun c i _ z => h c i (by omega) (by omega)) hE
/-- the sheet, as it may be -/
def ab_Ook (o : ab_Ls) : Prop := o.length ≤ 1920 ∧ ∀ v ∈ o, ab_c16 v
def ab_is (o : ab_Ls) (c : Int32) (n : Nat) : Bool := decide (n < o.length ∧ o.getD n 0 = c)
theorem ab_is_lt {o : ab_Ls} {c : Int32} {n : Nat} (h : ab_is o c n = true) : n < o.length := (of_decide_eq_true h).1
theorem ab_RS_next {n pm sn v k : Nat} {R : Nat → Option Nat} (h : ab_RS m n pm sn R v) : ab_RS (ev_up m 219 4 (Int32.ofNat k)) k pm sn R v := by
  obtain ⟨a, b, c, d, e⟩ := h
  exact ⟨by rw [ev_up_idx _ _ (by decide)]; exact a, ev_up_same _ _ _ _, by rw [ev_up_idx _ _ (by decide)]; exact c, by rw [ev_up_idx _ _ (by decide)]; exact d, fun p hp => by rw [ev_up_cell _ (by decide)]; exact e p hp⟩
theorem ab_frd_up {m : ev_Mem} {i : Nat} {x : Int32} (h : 3 ≤ i) : ab_frd m (ev_up m 219 i x) := fun c k _ z2 => if_neg (fun q => z2 ⟨q.1, by omega⟩)
/-- Reader.readSign -/
theorem ev_S78 {n pm sn v : Nat} {R : Nat → Option Nat} {c : Int32} {o : ab_Ls} (A : ev_all w) (hO : ab_O m o) (ho : ab_Ook o) (hS : ab_RS m n pm sn R v) (hn : n ≤ o.length)
    (h1 : ab_is o c n = true → ∀ m', ab_frd m m' → ab_RS m' (n + 1) pm sn R v → Q (.inl (some (.int 1))) m' t) (h0 : ab_is o c n = false → Q (.inl (some (.int 0))) m t) : ev_K w 78 [.ref 219, .ref 217, .int c] m t Q := by
  have hp : ev_prog[78]? = some ev_m78 := rfl
  have hlen := ho.1
  have e4 := hS.2.1
  have i4 := ev_toI e4 (by omega)
  have el := ev_toI hO.1 (by omega)
  refine ⟨Or.inr ⟨219, _, rfl, rfl⟩, ev_m78, rfl, ev_gK A hp [] 10 ?_⟩
  refine ev_S69 A ?_
  refine And.intro (fun (h : (m 217 1).toInt ≤ (m 219 4).toInt) => ?_) (fun (h : (m 219 4).toInt < (m 217 1).toInt) => ?_)
  · exact ⟨rfl, h0 (decide_eq_false (by omega))⟩
  · have hlt : n < o.length := by omega
    show ev_K w 70 [.ref 217, .int (m 219 4)] m t _
    rw [e4]
    refine ev_S70 A hO hlen ho.2 hlt ?_
    refine ev_gK A hp [25] 10 ?_
    refine And.intro (fun (h : (o.getD n 0).toInt = c.toInt) => ?_) (fun (h : ¬ (o.getD n 0).toInt = c.toInt) => ?_)
    · show ev_J w ev_m78 (ev_nd 78) Q 25 [ev_vr 219, ev_vr 217, ev_vi c] [] m t
      refine ev_gK A hp [] 10 ?_
      show narrow .boolean (.int 1) = .int 1 ∧ Q (.inl (some (.int 1))) (ev_up m 219 4 (m 219 4 + 1)) t
      rw [e4, ev_succ (by omega)]
      exact ⟨rfl, h1 (decide_eq_true ⟨hlt, ev_eq_of h⟩) _ (ab_frd_up (by decide)) (ab_RS_next hS)⟩
    · exact ⟨rfl, h0 (decide_eq_false (fun q => h (by rw [q.2])))⟩
theorem ab_run_le (o : ab_Ls) (a b : Int) : ∀ (n f : Nat), ab_run o f a b n ≤ n
  | 0, _ => Nat.le_refl _
  | n + 1, f => by
    have h := ab_run_le o a b n (f + 1)
    rw [ab_run]
    split <;> omega
theorem ab_run_in (o : ab_Ls) (a b : Int) : ∀ (n f k : Nat), k < ab_run o f a b n → f + k < o.length ∧ a ≤ (o.getD (f + k) 0).toInt ∧ (o.getD (f + k) 0).toInt ≤ b
  | 0, _, _, h => by rw [ab_run] at h; omega
  | n + 1, f, k, h => by
    rw [ab_run] at h
    split at h
    · rename_i q
      cases k with
      | zero => exact q
      | succ k =>
        have h1 := ab_run_in o a b n (f + 1) k (by omega)
        rw [(by omega : f + 1 + k = f + (k + 1))] at h1
        exact h1
    · omega
def ab_dg (o : ab_Ls) (n : Nat) : Nat := ((o.getD n 0).toInt - 48).toNat
def ab_pv (o : ab_Ls) (n d : Nat) : Nat := if d = 1 then ab_dg o n else 10 * ab_dg o n + ab_dg o (n + 1)
def ab_pl (o : ab_Ls) (N pm n : Nat) : Option (Nat × Nat) := if ab_run o n 48 57 2 = 0 ∨ (1 < ab_run o n 48 57 2 ∧ (o.getD n 0).toInt = 48) ∨ ab_pv o n (ab_run o n 48 57 2) < pm ∨ N ≤ ab_pv o n (ab_run o n 48 57 2) then none else some (ab_run o n 48 57 2, ab_pv o n (ab_run o n 48 57 2))
theorem ev_subN {x : Int32} {c : Nat} (h : (c : Int) ≤ x.toInt) (h2 : x.toInt < 65536) : x - Int32.ofNat c = Int32.ofNat (x.toInt - (c : Int)).toNat := by
  apply ev_eq_of
  have ec := ev_ofNat_i (n := c) (by omega)
  rw [ev_sub_i (by omega) (by omega), ec, ev_ofNat_i (by omega)]
  omega
/-- Reader.readPlace -/
theorem ev_S77 {n pm sn v : Nat} {R : Nat → Option Nat} {o : ab_Ls} {T : ab_T} (A : ev_all w) (hT : ab_TC m T) (hok : ab_Tok T) (hO : ab_O m o) (ho : ab_Ook o) (hS : ab_RS m n pm sn R v) (hn : n ≤ o.length) (hpm : pm ≤ 24)
    (h1 : ∀ d q, ab_pl o T.1 pm n = some (d, q) → ∀ m', ab_frd m m' → ab_RS m' (n + d) (q + 1) sn R v → Q (.inl (some (.int 1))) m' t) (h0 : ab_pl o T.1 pm n = none → Q (.inl (some (.int 0))) m t) : ev_K w 77 [.ref 219, .ref 217, .ref 209] m t Q := by
  have hp : ev_prog[77]? = some ev_m77 := rfl
  have hlen := ho.1
  have k1 := hok.1
  have t1 := hT.1
  obtain ⟨s3, e4, e5, e6, e7⟩ := id hS
  have i1 : (Int32.ofInt 1).toInt = 1 := by decide
  have i48 : ((Int8.ofInt 48).toInt32).toInt = 48 := by decide
  have hrl := ab_run_le o 48 57 2 n
  have hri := ab_run_in o 48 57 2 n
  have e5i : (m 219 5).toInt = (pm : Int) - 1 := by rw [e5, ev_ofInt_i (by omega) (by omega)]
  unfold ab_pl at h1 h0
  -- behind the digits
  have h78 : ∀ (d : Nat) (nn : Int32) (o5 : Option Value), ab_run o n 48 57 2 = d → ¬ d = 0 → ¬ (1 < d ∧ (o.getD n 0).toInt = 48) → nn = Int32.ofNat (ab_pv o n d) → ab_pv o n d < 1000 → ev_J w ev_m77 (ev_nd 77) Q 78 [ev_vr 219, ev_vr 217, ev_vr 209, ev_vn d, ev_vi nn, o5] [] m t := by
    intro d nn o5 hd hd0 hd1 hnn hlt
    rw [hd] at h1 h0
    have hnd : n + d ≤ o.length := by
      have := (hri (d - 1) (by omega)).1
      omega
    subst hnn
    have eq := ev_ofNat_i (n := ab_pv o n d) (by omega)
    refine ev_gK A hp [98] 20 ?_
    refine And.intro (fun (h : (Int32.ofNat (ab_pv o n d)).toInt ≤ (m 219 5).toInt) => ⟨rfl, h0 (if_pos (Or.inr (Or.inr (Or.inl (by omega)))))⟩) (fun (h : (m 219 5).toInt < (Int32.ofNat (ab_pv o n d)).toInt) => ?_)
    refine ev_S36 A ?_
    refine And.intro (fun (h : (Int32.ofNat (ab_pv o n d)).toInt < (m 209 2).toInt) => ?_) (fun (h : (m 209 2).toInt ≤ (Int32.ofNat (ab_pv o n d)).toInt) => ⟨rfl, h0 (if_pos (Or.inr (Or.inr (Or.inr (by omega)))))⟩)
    refine ev_gK A hp [] 20 ?_
    show narrow .boolean (.int 1) = .int 1 ∧ Q (.inl (some (.int 1))) (ev_up (ev_up m 219 5 (Int32.ofNat (ab_pv o n d))) 219 4 (ev_up m 219 5 (Int32.ofNat (ab_pv o n d)) 219 4 + Int32.ofNat d)) t
    rw [ev_up_idx _ _ (by decide), e4, ev_addN (by omega)]
    refine ⟨rfl, h1 d (ab_pv o n d) (if_neg (by omega)) _ (ab_frd_tr (ab_frd_up (by decide)) (ab_frd_up (by decide))) (ab_RS_next (n := n) ?_)⟩
    refine ⟨by rw [ev_up_idx _ _ (by decide)]; exact s3, by rw [ev_up_idx _ _ (by decide)]; exact e4, ?_, by rw [ev_up_idx _ _ (by decide)]; exact e6, fun p hp => by rw [ev_up_cell _ (by decide)]; exact e7 p hp⟩
    rw [ev_up_same]
    apply ev_eq_of
    rw [eq, ev_ofInt_i (by omega) (by omega)]
    omega
  -- one digit
  have sgn : ∀ k, k < ab_run o n 48 57 2 → (o.getD (n + k) 0 - Int32.ofNat 48 = Int32.ofNat (ab_dg o (n + k)) ∧ ab_dg o (n + k) ≤ 9) := by
    intro k hk
    obtain ⟨a, b, c⟩ := hri k hk
    refine ⟨ev_subN b (by omega), ?_⟩
    unfold ab_dg
    omega
  have e10 : ∀ a b : Nat, a ≤ 9 → b ≤ 9 → (Int8.ofInt 10).toInt32 * Int32.ofNat a + Int32.ofNat b = Int32.ofNat (10 * a + b) := by
    intro a b ha hb
    have ea := ev_ofNat_i (n := a) (by omega)
    have eb := ev_ofNat_i (n := b) (by omega)
    have i10 : ((Int8.ofInt 10).toInt32).toInt = 10 := by decide
    apply ev_eq_of
    have em : ((Int8.ofInt 10).toInt32 * Int32.ofNat a).toInt = 10 * (a : Int) := by rw [ev_mul_i (by rw [ea, i10]; omega) (by rw [ea, i10]; omega), ea, i10]
    rw [ev_add_i (by omega) (by omega), em, eb, ev_ofNat_i (by omega)]
    omega
  have body : ∀ (d k a : Nat) (aa kk : Int32), ab_run o n 48 57 2 = d → k < d → a ≤ 9 → aa = Int32.ofNat a → kk = Int32.ofNat k → (∀ (a' k' : Int32), a' = Int32.ofNat (10 * a + ab_dg o (n + k)) → k' = Int32.ofNat (k + 1) → ev_J w ev_m77 (ev_nd 77) Q 44 [ev_vr 219, ev_vr 217, ev_vr 209, ev_vn d, ev_vi a', ev_vi k'] [] m t) → ev_J w ev_m77 (ev_nd 77) Q 44 [ev_vr 219, ev_vr 217, ev_vr 209, ev_vn d, ev_vi aa, ev_vi kk] [] m t := by
    intro d k a aa kk hd hk ha haa hkk kont
    subst haa hkk
    have ek := ev_ofNat_i (n := k) (by omega)
    have ed := ev_ofNat_i (n := d) (by omega)
    refine ev_gK A hp [50] 10 ?_
    refine And.intro (fun (h : (Int32.ofNat d).toInt ≤ (Int32.ofNat k).toInt) => by omega) (fun _ => ?_)
    refine ev_gK A hp [] 8 ?_
    show ev_J w ev_m77 (ev_nd 77) Q 63 [ev_vr 219, ev_vr 217, ev_vr 209, ev_vn d, ev_vn a, ev_vn k] [.int (m 219 4 + Int32.ofNat k), .ref 217, .int ((Int8.ofInt 10).toInt32 * Int32.ofNat a)] m t
    rw [e4, ev_addN (by omega)]
    refine ev_gK A hp [] 1 ?_
    show ev_K w 70 [.ref 217, .int (Int32.ofNat (n + k))] m t _
    refine ev_S70 A hO hlen ho.2 (hri k (by omega)).1 ?_
    refine ev_gK A hp [] 2 ?_
    show ev_J w ev_m77 (ev_nd 77) Q 69 [ev_vr 219, ev_vr 217, ev_vr 209, ev_vn d, ev_vn a, ev_vn k] [.int (o.getD (n + k) 0 - Int32.ofNat 48), .int ((Int8.ofInt 10).toInt32 * Int32.ofNat a)] m t
    rw [(sgn k (by omega)).1]
    refine ev_gK A hp [44] 10 ?_
    exact kont _ _ (e10 _ _ ha (sgn k (by omega)).2) (ev_succ (by omega))
  have last : ∀ (d : Nat) (aa kk : Int32), ab_run o n 48 57 2 = d → kk = Int32.ofNat d → ¬ d = 0 → ¬ (1 < d ∧ (o.getD n 0).toInt = 48) → aa = Int32.ofNat (ab_pv o n d) → ab_pv o n d < 1000 → ev_J w ev_m77 (ev_nd 77) Q 44 [ev_vr 219, ev_vr 217, ev_vr 209, ev_vn d, ev_vi aa, ev_vi kk] [] m t := by
    intro d aa kk hd hkk y1 y2 haa y3
    subst hkk
    have ed := ev_ofNat_i (n := d) (by omega)
    refine ev_gK A hp [78] 10 ?_
    refine And.intro (fun _ => h78 d _ _ hd y1 y2 haa y3) (fun (h : (Int32.ofNat d).toInt < (Int32.ofNat d).toInt) => by omega)
  have h38 : ∀ d, ab_run o n 48 57 2 = d → ¬ d = 0 → ¬ (1 < d ∧ (o.getD n 0).toInt = 48) → ev_J w ev_m77 (ev_nd 77) Q 38 [ev_vr 219, ev_vr 217, ev_vr 209, ev_vn d, none, none] [] m t := by
    intro d hd y1 y2
    refine ev_gK A hp [44] 10 ?_
    refine body d 0 0 _ _ hd (by omega) (by omega) rfl rfl (fun a1 k1 ha1 hk1 => ?_)
    have g0 := (sgn 0 (by omega)).2
    rw [Nat.add_zero] at g0
    rw [Nat.add_zero, Nat.mul_zero, Nat.zero_add] at ha1
    by_cases hd1 : d = 1
    · subst hd1
      have ep : ab_pv o n 1 = ab_dg o n := if_pos rfl
      refine last 1 _ _ hd hk1 y1 y2 (by rw [ha1, ep]) (by rw [ep]; omega)
    · have hd2 : d = 2 := by omega
      subst hd2
      have g1 := (sgn 1 (by omega)).2
      have ep : ab_pv o n 2 = 10 * ab_dg o n + ab_dg o (n + 1) := if_neg (by decide)
      refine body 2 1 (ab_dg o n) _ _ hd (by omega) (by omega) ha1 hk1 (fun a2 k2 ha2 hk2 => ?_)
      refine last 2 _ _ hd hk2 y1 y2 (by rw [ha2, ep]) (by rw [ep]; omega)
  refine ⟨Or.inr ⟨219, _, rfl, rfl⟩, ev_m77, rfl, ev_gK A hp [] 7 ?_⟩
  show ev_K w 72 [.ref 217, .int (m 219 4), .int (Int32.ofNat 48), .int (Int32.ofNat 57), .int (Int32.ofNat 2)] m t _
  rw [e4]
  refine ev_S72 A hO hlen hn (by decide) ?_
  obtain ⟨d, hd⟩ : ∃ d, ab_run o n 48 57 2 = d := ⟨_, rfl⟩
  have hdd : ab_run o n (Int32.ofNat 48).toInt (Int32.ofNat 57).toInt 2 = d := hd
  have ed := ev_ofNat_i (n := d) (by omega)
  refine ev_gK A hp [38, 18] 10 ?_
  rw [hdd]
  refine And.intro (fun (h : (Int32.ofNat d).toInt = 0) => ⟨rfl, h0 (if_pos (Or.inl (by omega)))⟩) (fun (h : ¬ (Int32.ofNat d).toInt = 0) => ?_)
  show ev_J w ev_m77 (ev_nd 77) Q 18 [ev_vr 219, ev_vr 217, ev_vr 209, ev_vn d, none, none] [] m t
  refine ev_gK A hp [38, 23] 10 ?_
  refine And.intro (fun (h2 : (Int32.ofNat d).toInt ≤ (Int32.ofInt 1).toInt) => h38 d hd (by omega) (by omega)) (fun (h2 : (Int32.ofInt 1).toInt < (Int32.ofNat d).toInt) => ?_)
  refine ev_gK A hp [] 4 ?_
  show ev_K w 70 [.ref 217, .int (m 219 4)] m t _
  rw [e4]
  refine ev_S70 A hO hlen ho.2 (by have := (hri 0 (by omega)).1; omega) ?_
  refine ev_gK A hp [38] 10 ?_
  refine And.intro (fun (h3 : ¬ (o.getD n 0).toInt = ((Int8.ofInt 48).toInt32).toInt) => h38 d hd (by omega) (by omega)) (fun (h3 : (o.getD n 0).toInt = ((Int8.ofInt 48).toInt32).toInt) => ⟨rfl, h0 (if_pos (Or.inr (Or.inl ⟨by omega, by omega⟩)))⟩)
end EvReader
end
section
/-! the class's reader: lemmas, readings, witnesses, groups -/
section EvReader2
variable {w : ev_W} {Q : ev_QT} {m : ev_Mem} {t : ev_H}
def ab_si (o : ab_Ls) (c : Int32) (n : Nat) : Option Nat := if ab_is o c n = true then some (n + 1) else none
def ab_lt (o l : ab_Ls) (n : Nat) : Option Nat := if ab_run o n 97 122 12 = l.length ∧ (∀ k, k < l.length → o.getD (n + k) 0 = l.getD k 0) then some (n + l.length) else none
/-- Reader.readLetters -/
theorem ev_S80 {n pm sn v x c : Nat} {R : Nat → Option Nat} {o l : ab_Ls} (A : ev_all w) (hO : ab_O m o) (ho : ab_Ook o) (hS : ab_RS m n pm sn R v) (hn : n ≤ o.length) (hx : ev_isL x c) (hc : c < 100) (hL : ab_L m x l) (hlc : l.length ≤ c) (hz : ab_az l)
    (h1 : ∀ n', ab_lt o l n = some n' → ∀ m', ab_frd m m' → ab_RS m' n' pm sn R v → Q (.inl (some (.int 1))) m' t) (h0 : ab_lt o l n = none → Q (.inl (some (.int 0))) m t) : ev_K w 80 [.ref 219, .ref 217, .ref x] m t Q := by
  have hp : ev_prog[80]? = some ev_m80 := rfl
  have hlen := ho.1
  have e4 := hS.2.1
  have hri := ab_run_in o 97 122 12 n
  have hrl := ab_run_le o 97 122 12 n
  unfold ab_lt at h1 h0
  refine ⟨Or.inr ⟨219, _, rfl, rfl⟩, ev_m80, rfl, ev_gK A hp [] 7 ?_⟩
  show ev_K w 72 [.ref 217, .int (m 219 4), .int (Int32.ofNat 97), .int (Int32.ofNat 122), .int (Int32.ofNat 12)] m t _
  rw [e4]
  refine ev_S72 A hO hlen hn (by decide) ?_
  obtain ⟨d, hd⟩ : ∃ d, ab_run o n 97 122 12 = d := ⟨_, rfl⟩
  have hdd : ab_run o n (Int32.ofNat 97).toInt (Int32.ofNat 122).toInt 12 = d := hd
  rw [hd] at h1 h0 hri hrl
  have ed := ev_ofNat_i (n := d) (by omega)
  have loop : d = l.length → ∀ k, k ≤ d → ∀ kk : Int32, kk = Int32.ofNat k → (∀ j, j < k → o.getD (n + j) 0 = l.getD j 0) → ev_J w ev_m80 (ev_nd 80) Q 28 [ev_vr 219, ev_vr 217, ev_vr x, ev_vn d, ev_vi kk] [] m t := by
    intro hdl
    refine ev_lup (P := fun k => ∀ kk : Int32, kk = Int32.ofNat k → (∀ j, j < k → o.getD (n + j) 0 = l.getD j 0) → ev_J w ev_m80 (ev_nd 80) Q 28 [ev_vr 219, ev_vr 217, ev_vr x, ev_vn d, ev_vi kk] [] m t) d (fun k hk ih kk ekk hall => ?_)
    subst ekk
    have ek := ev_ofNat_i (n := k) (by omega)
    refine ev_gK A hp [34, 62] 10 ?_
    refine And.intro (fun (h : (Int32.ofNat d).toInt ≤ (Int32.ofNat k).toInt) => ?_) (fun (h : (Int32.ofNat k).toInt < (Int32.ofNat d).toInt) => ?_)
    · refine ev_gK A hp [] 20 ?_
      show narrow .boolean (.int 1) = .int 1 ∧ Q (.inl (some (.int 1))) (ev_up m 219 4 (m 219 4 + Int32.ofNat d)) t
      have hnd : n + d ≤ o.length := by
        rcases Nat.eq_zero_or_pos d with z | z
        · omega
        · have := (hri (d - 1) (by omega)).1; omega
      rw [e4, ev_addN (by omega)]
      exact ⟨rfl, h1 (n + d) (by rw [hdl]; exact if_pos ⟨rfl, fun j hj => hall j (by omega)⟩) _ (ab_frd_up (by decide)) (ab_RS_next hS)⟩
    · have hkd : k < d := by omega
      obtain ⟨r1, r2, r3⟩ := hri k hkd
      have haz := hz _ (ab_getD_mem (l := l) (k := k) (by omega))
      have hv : m (x + 1) (Int32.ofNat k).toNatClampNeg = l.getD k 0 := by
        rw [ev_on (by omega)]
        have := hL.2 k (by omega)
        rwa [Nat.zero_add] at this
      refine ev_gK A hp [] 5 ?_
      show ev_J w ev_m80 (ev_nd 80) Q 42 [ev_vr 219, ev_vr 217, ev_vr x, ev_vn d, ev_vn k] [.int (m 219 4 + Int32.ofNat k), .ref 217] m t
      rw [e4, ev_addN (by omega)]
      refine ev_gK A hp [28] 20 ?_
      refine ev_S70 A hO hlen ho.2 r1 ?_
      refine ev_S6 A hx (ev_oin (by omega) (by omega)) (by rw [hv]; exact ab_c16_ch ⟨by omega, by omega⟩) ?_
      rw [hv]
      refine And.intro (fun (h : (o.getD (n + k) 0).toInt = (l.getD k 0).toInt) => ?_) (fun (h : ¬ (o.getD (n + k) 0).toInt = (l.getD k 0).toInt) => ?_)
      · refine ih hkd _ (ev_succ (by omega)) (fun j hj => ?_)
        by_cases hjk : j = k
        · rw [hjk]; exact ev_eq_of h
        · exact hall j (by omega)
      · exact ⟨rfl, h0 (if_neg (fun q => h (by rw [q.2 k (by omega)])))⟩
  refine ev_gK A hp [25] 10 ?_
  rw [hdd]
  refine ev_S5 A hx ?_
  have hL1 := hL.1
  refine And.intro (fun (h : (Int32.ofNat d).toInt = (m x 1).toInt) => ?_) (fun (h : ¬ (Int32.ofNat d).toInt = (m x 1).toInt) => ⟨rfl, h0 (if_neg (fun q => by omega))⟩)
  refine ev_gK A hp [28] 10 ?_
  exact loop (by omega) 0 (by omega) _ rfl (fun j hj => by omega)
def ab_lm (fo : Nat → Option ab_Ls) (x : Option Nat) (o : ab_Ls) (n : Nat) : Option Nat := match x with
  | none => ab_si o 45 n
  | some y => match fo y with
    | none => ab_si o 63 n
    | some [] => ab_si o 46 n
    | some (c :: l) => ab_lt o (c :: l) n
/-- Reader.readLemma -/
theorem ev_S79 {n q sn v : Nat} {R : Nat → Option Nat} {o : ab_Ls} {T : ab_T} {fo : Nat → Option ab_Ls} (A : ev_all w) (hE : ab_E m T fo) (hO : ab_O m o) (ho : ab_Ook o) (hS : ab_RS m n (q + 1) sn R v) (hn : n ≤ o.length) (hq : q < T.1)
    (h1 : ∀ n', ab_lm fo (ab_lem T q) o n = some n' → ∀ m', ab_frd m m' → ab_RS m' n' (q + 1) sn R v → Q (.inl (some (.int 1))) m' t) (h0 : ab_lm fo (ab_lem T q) o n = none → Q (.inl (some (.int 0))) m t) : ev_K w 79 [.ref 219, .ref 217, .ref 209, .ref 40] m t Q := by
  have hp : ev_prog[79]? = some ev_m79 := rfl
  have k1 := hE.2.1.1
  have em1 := ev_im1
  have e5 : m 219 5 = Int32.ofNat q := by rw [hS.2.2.1]; exact ev_inc1 (by omega)
  have hlem := ab_lem_ok hE hq
  refine ⟨Or.inr ⟨219, _, rfl, rfl⟩, ev_m79, rfl, ev_gK A hp [] 4 ?_⟩
  show ev_K w 37 [.ref 209, .int (m 219 5)] m t _
  rw [e5]
  refine ev_S37 A hE.1 hE.2.1 hq ?_
  refine ev_gK A hp [24] 20 ?_
  cases hx : ab_lem T q with
  | none =>
    rw [hx] at h1 h0
    refine And.intro (fun (h : ¬ (-1 : Int32).toInt = (-1 : Int32).toInt) => absurd rfl h) (fun _ => ?_)
    refine ev_S78 (c := 45) A hO ho hS hn (fun hi m' f' S' => ⟨rfl, h1 (n + 1) (if_pos hi) m' f' S'⟩) (fun hi => ⟨rfl, h0 (if_neg (by rw [hi]; exact Bool.false_ne_true))⟩)
  | some y =>
    obtain ⟨hy, hyt⟩ := hlem y hx
    have ey := ev_ofNat_i (n := y) (by omega)
    obtain ⟨hF, hol⟩ := hE.2.2.1 y hy hyt
    rw [hx] at h1 h0
    unfold ab_lm at h1 h0
    refine And.intro (fun _ => ?_) (fun (h : (Int32.ofNat y).toInt = (Int32.ofInt (-1)).toInt) => by omega)
    show ev_J w ev_m79 (ev_nd 79) Q 24 [ev_vr 219, ev_vr 217, ev_vr 209, ev_vr 40, ev_vn y, none] [] m t
    refine ev_gK A hp [41] 20 ?_
    refine ev_S21 A hy ?_
    cases hfy : fo y with
    | none =>
      rw [hfy] at hF
      simp only [hfy] at h1 h0
      have hF2 : (m (45 + 4 * y) 1).toInt = -1 := hF
      refine And.intro (fun h => absurd hF2 (of_decide_eq_false (ab_bi_eq h))) (fun _ => ?_)
      refine ev_S78 (c := 63) A hO ho hS hn (fun hi m' f' S' => ⟨rfl, h1 (n + 1) (if_pos hi) m' f' S'⟩) (fun hi => ⟨rfl, h0 (if_neg (by rw [hi]; exact Bool.false_ne_true))⟩)
    | some l =>
      rw [hfy] at hF hol
      have hL : ab_L m (45 + 4 * y) l := hF
      have hL1 := hL.1
      have hl12 : l.length ≤ 12 := hol
      refine And.intro (fun _ => ?_) (fun h => by have := of_decide_eq_true (ab_bi_neq h); omega)
      refine ev_gK A hp [] 3 ?_
      refine ev_S22 A hy ?_
      show ev_J w ev_m79 (ev_nd 79) Q 47 [ev_vr 219, ev_vr 217, ev_vr 209, ev_vr 40, ev_vn y, none] [.ref (45 + 4 * y)] m t
      refine ev_gK A hp [57, 67] 10 ?_
      refine ev_S5 A (ev_isLf hy) ?_
      refine And.intro (fun (h : ¬ (m (45 + 4 * y) 1).toInt = 0) => ?_) (fun (h : (m (45 + 4 * y) 1).toInt = 0) => ?_)
      · refine ev_gK A hp [] 20 ?_
        have haz := hE.2.2.2.2.1 y l hy hyt hfy
        cases l with
        | nil => exact absurd hL1 h
        | cons c l =>
          simp only [hfy] at h1 h0
          exact ev_S80 A hO ho hS hn (ev_isLf hy) (by decide) hL hl12 haz (fun n' z m' f' S' => ⟨rfl, h1 n' z m' f' S'⟩) (fun z => ⟨rfl, h0 z⟩)
      · refine ev_gK A hp [] 20 ?_
        cases l with
        | cons c l => rw [List.length_cons] at hL1; omega
        | nil =>
          simp only [hfy] at h1 h0
          exact ev_S78 (c := 46) A hO ho hS hn (fun hi m' f' S' => ⟨rfl, h1 (n + 1) (if_pos hi) m' f' S'⟩) (fun hi => ⟨rfl, h0 (if_neg (by rw [hi]; exact Bool.false_ne_true))⟩)
def ab_rr (o : ab_Ls) (n : Nat) : Option Nat := if ab_run o n 97 122 12 = 0 then (if (ab_is o 45 n || ab_is o 63 n || ab_is o 46 n) = true then some (n + 1) else none) else some (n + ab_run o n 97 122 12)
/-- Reader.readReading -/
theorem ev_S82 {n pm sn v : Nat} {R : Nat → Option Nat} {o : ab_Ls} (A : ev_all w) (hO : ab_O m o) (ho : ab_Ook o) (hS : ab_RS m n pm sn R v) (hn : n ≤ o.length)
    (h1 : ∀ n', ab_rr o n = some n' → ∀ m', ab_frd m m' → ab_RS m' n' pm sn R v → Q (.inl (some (.int 1))) m' t) (h0 : ab_rr o n = none → Q (.inl (some (.int 0))) m t) : ev_K w 82 [.ref 219, .ref 217] m t Q := by
  have hp : ev_prog[82]? = some ev_m82 := rfl
  have hlen := ho.1
  have e4 := hS.2.1
  have hri := ab_run_in o 97 122 12 n
  have hrl := ab_run_le o 97 122 12 n
  unfold ab_rr at h1 h0
  refine ⟨Or.inr ⟨219, _, rfl, rfl⟩, ev_m82, rfl, ev_gK A hp [] 7 ?_⟩
  show ev_K w 72 [.ref 217, .int (m 219 4), .int (Int32.ofNat 97), .int (Int32.ofNat 122), .int (Int32.ofNat 12)] m t _
  rw [e4]
  refine ev_S72 A hO hlen hn (by decide) ?_
  obtain ⟨d, hd⟩ : ∃ d, ab_run o n 97 122 12 = d := ⟨_, rfl⟩
  have hdd : ab_run o n (Int32.ofNat 97).toInt (Int32.ofNat 122).toInt 12 = d := hd
  rw [hd] at h1 h0 hri hrl
  have ed := ev_ofNat_i (n := d) (by omega)
  refine ev_gK A hp [19, 55] 10 ?_
  rw [hdd]
  refine And.intro (fun (h : ¬ (Int32.ofNat d).toInt = 0) => ?_) (fun (h : (Int32.ofNat d).toInt = 0) => ?_)
  · have hd0 : ¬ d = 0 := by omega
    rw [if_neg hd0] at h1
    refine ev_gK A hp [] 20 ?_
    show narrow .boolean (.int 1) = .int 1 ∧ Q (.inl (some (.int 1))) (ev_up m 219 4 (m 219 4 + Int32.ofNat d)) t
    have hnd := (hri (d - 1) (by omega)).1
    rw [e4, ev_addN (by omega)]
    exact ⟨rfl, h1 (n + d) rfl _ (ab_frd_up (by decide)) (ab_RS_next hS)⟩
  · have hd0 : d = 0 := by omega
    rw [if_pos hd0] at h1 h0
    show ev_J w ev_m82 (ev_nd 82) Q 19 [ev_vr 219, ev_vr 217, ev_vn d] [] m t
    have yes : (ab_is o 45 n || ab_is o 63 n || ab_is o 46 n) = true → ∀ m', ab_frd m m' → ab_RS m' (n + 1) pm sn R v → Q (.inl (some (.int 1))) m' t := fun z m' f' S' => h1 (n + 1) (if_pos z) m' f' S'
    refine ev_gK A hp [] 20 ?_
    refine ev_S78 (c := 45) A hO ho hS hn (fun hi m' f' S' => ?_) (fun hi => ?_)
    · refine And.intro (fun _ => ⟨rfl, yes (by rw [hi]; rfl) m' f' S'⟩) (fun h => absurd (h : (1 : Int32).toInt = 0) ev_ne10)
    refine And.intro (fun h => absurd ev_eq00 h) (fun _ => ?_)
    refine ev_S78 (c := 63) A hO ho hS hn (fun hi2 m' f' S' => ?_) (fun hi2 => ?_)
    · refine And.intro (fun _ => ⟨rfl, yes (by rw [hi, hi2]; rfl) m' f' S'⟩) (fun h => absurd (h : (1 : Int32).toInt = 0) ev_ne10)
    refine And.intro (fun h => absurd ev_eq00 h) (fun _ => ?_)
    refine ev_S78 (c := 46) A hO ho hS hn (fun hi3 m' f' S' => ?_) (fun hi3 => ?_)
    · refine And.intro (fun h => absurd (h : (1 : Int32).toInt = 0) ev_ne10) (fun _ => ⟨rfl, yes (by rw [hi, hi2, hi3]; rfl) m' f' S'⟩)
    · refine And.intro (fun _ => ⟨rfl, h0 (if_neg (by rw [hi, hi2, hi3]; exact Bool.false_ne_true))⟩) (fun h => absurd ev_eq00 h)
theorem ev_bt {s v : Nat} (hs : s < 16) (hv : v < 4) : (Int32.ofNat s >>> (Int32.ofNat v &&& 31)) &&& 1 = ab_bi (s.testBit v) := (by decide +kernel : ∀ s, s < 16 → ∀ v, v < 4 → (Int32.ofNat s >>> (Int32.ofNat v &&& 31)) &&& 1 = ab_bi (s.testBit v)) s hs v hv
theorem ev_bo {s v : Nat} (hs : s < 16) (hv : v < 4) : Int32.ofNat s ||| ((1 : Int32) <<< (Int32.ofNat v &&& 31)) = Int32.ofNat (s ||| 2 ^ v) := (by decide +kernel : ∀ s, s < 16 → ∀ v, v < 4 → Int32.ofNat s ||| ((1 : Int32) <<< (Int32.ofNat v &&& 31)) = Int32.ofNat (s ||| 2 ^ v)) s hs v hv
theorem ev_bor {s v : Nat} (hs : s < 16) (hv : v < 16) : Int32.ofNat s ||| Int32.ofNat v = Int32.ofNat (s ||| v) := (by decide +kernel : ∀ s, s < 16 → ∀ v, v < 16 → Int32.ofNat s ||| Int32.ofNat v = Int32.ofNat (s ||| v)) s hs v hv
theorem ab_or16 {s v : Nat} (hs : s < 16) (hv : v < 16) : s ||| v < 16 := (by decide +kernel : ∀ s, s < 16 → ∀ v, v < 16 → s ||| v < 16) s hs v hv
theorem ab_pw16 {v : Nat} (hv : v < 4) : 2 ^ v < 16 := (by decide +kernel : ∀ v, v < 4 → 2 ^ v < 16) v hv
theorem ab_isJ_lt {T : ab_T} (hok : ab_Tok T) {u : Nat} (hu : u < 100000) (h : ab_isJ T.2.2.2.1 (Int32.ofNat u) = true) : u < 4 := by
  unfold ab_isJ at h
  obtain ⟨v, hv, hv2⟩ := List.any_eq_true.mp h
  have h1 := of_decide_eq_true hv2
  have h2 := hok.2.2.2.2.1 v hv
  have h3 := congrArg Int32.toInt h1
  rw [ev_ofNat_i (by omega), ev_ofNat_i (by omega)] at h3
  omega
def ab_wn (o : ab_Ls) (f : Nat) : Nat := ((o.getD f 0).toInt - 65).toNat
def ab_wl (o : ab_Ls) (js : List Nat) (sn : Nat) : Nat → Nat → Nat → Nat → Option Nat
  | 0, _, _, h => some h
  | d + 1, f, lp, h => if lp ≤ ab_wn o f ∧ ab_isJ js (Int32.ofNat (ab_wn o f)) = true ∧ sn.testBit (ab_wn o f) = false then ab_wl o js sn d (f + 1) (ab_wn o f + 1) (h ||| 2 ^ ab_wn o f) else none
def ab_wt (o : ab_Ls) (js : List Nat) (sn n : Nat) : Option (Nat × Nat) := if ab_run o n 65 90 4 = 0 then none else (ab_wl o js sn (ab_run o n 65 90 4) n 0 0).map (fun h => (ab_run o n 65 90 4, h))
def ab_up1 (R : Nat → Option Nat) (p a : Nat) : Nat → Option Nat := fun q => if q = p then some a else R q
/-- Reader.readWitnesses -/
theorem ev_S83 {n q sn v a : Nat} {R : Nat → Option Nat} {o : ab_Ls} {T : ab_T} (A : ev_all w) (hT : ab_TC m T) (hok : ab_Tok T) (hO : ab_O m o) (ho : ab_Ook o) (hS : ab_RS m n (q + 1) sn R v) (hn : n ≤ o.length) (hq : q < 24) (hsn : sn < 16) (hv : v < 4)
    (h1 : ∀ d h, ab_wt o T.2.2.2.1 sn n = some (d, h) → h < 16 → n + d ≤ o.length → ∀ m', ab_frd m m' → ab_RS m' (n + d) (q + 1) (sn ||| h) (if h.testBit v = true then ab_up1 R q a else R) v → Q (.inl (some (.int 1))) m' t)
    (h0 : ab_wt o T.2.2.2.1 sn n = none → ∀ m', ab_frd m m' → m' 219 4 = Int32.ofNat n → Q (.inl (some (.int 0))) m' t) : ev_K w 83 [.ref 219, .ref 217, .ref 209, .int (Int32.ofNat a)] m t Q := by
  have hp : ev_prog[83]? = some ev_m83 := rfl
  have hlen := ho.1
  obtain ⟨s3, e4, s5, e6, e7⟩ := id hS
  have e5 : m 219 5 = Int32.ofNat q := by rw [s5]; exact ev_inc1 (by omega)
  have hri := ab_run_in o 65 90 4 n
  have hrl := ab_run_le o 65 90 4 n
  have i1 : (Int32.ofInt 1).toInt = 1 := by decide
  unfold ab_wt at h1 h0
  refine ⟨Or.inr ⟨219, _, rfl, rfl⟩, ev_m83, rfl, ev_gK A hp [] 7 ?_⟩
  show ev_K w 72 [.ref 217, .int (m 219 4), .int (Int32.ofNat 65), .int (Int32.ofNat 90), .int (Int32.ofNat 4)] m t _
  rw [e4]
  refine ev_S72 A hO hlen hn (by decide) ?_
  obtain ⟨d, hd⟩ : ∃ d, ab_run o n 65 90 4 = d := ⟨_, rfl⟩
  have hdd : ab_run o n (Int32.ofNat 65).toInt (Int32.ofNat 90).toInt 4 = d := hd
  rw [hd] at h1 h0 hri hrl
  have ed := ev_ofNat_i (n := d) (by omega)
  have hnd : n + d ≤ o.length := by
    rcases Nat.eq_zero_or_pos d with z | z
    · omega
    · have := (hri (d - 1) (by omega)).1; omega
  -- behind the loop
  have h97 : ∀ (h : Nat) (hh bb kk : Int32) (o8 : Option Value), ab_wl o T.2.2.2.1 sn d n 0 0 = some h → h < 16 → hh = Int32.ofNat h → (d = 0 → h = 0) → ev_J w ev_m83 (ev_nd 83) Q 97 [ev_vr 219, ev_vr 217, ev_vr 209, ev_vn a, ev_vn d, ev_vi bb, ev_vi hh, ev_vi kk, o8] [] m t := by
    intro h hh bb kk o8 hwl h16 ehh hd0
    subst ehh
    have hor := ab_or16 hsn h16
    have h131 : ∀ m2 : ev_Mem, ab_frd m m2 → ab_RS m2 n (q + 1) (sn ||| h) (if h.testBit v = true then ab_up1 R q a else R) v → ev_J w ev_m83 (ev_nd 83) Q 131 [ev_vr 219, ev_vr 217, ev_vr 209, ev_vn a, ev_vn d, ev_vi bb, ev_vn h, ev_vi kk, o8] [] m2 t := by
      intro m2 f2 S2
      refine ev_gK A hp [142] 10 ?_
      show ev_J w ev_m83 (ev_nd 83) Q 142 [ev_vr 219, ev_vr 217, ev_vr 209, ev_vn a, ev_vn d, ev_vi bb, ev_vn h, ev_vi kk, o8] [] (ev_up m2 219 4 (m2 219 4 + Int32.ofNat d)) t
      rw [S2.2.1, ev_addN (by omega)]
      refine ev_gK A hp [] 10 ?_
      refine And.intro (fun (z : (Int32.ofNat d).toInt ≤ 0) => ?_) (fun (z : 0 < (Int32.ofNat d).toInt) => ?_)
      · have hdz : d = 0 := by omega
        refine ⟨rfl, h0 (if_pos hdz) _ (ab_frd_tr f2 (ab_frd_up (by decide))) ?_⟩
        rw [ev_up_same, hdz, Nat.add_zero]
      · refine ⟨rfl, h1 d h (by rw [if_neg (by omega), hwl]; rfl) h16 hnd _ (ab_frd_tr f2 (ab_frd_up (by decide))) (ab_RS_next S2)⟩
    refine ev_gK A hp [108] 10 ?_
    show ev_J w ev_m83 (ev_nd 83) Q 108 [ev_vr 219, ev_vr 217, ev_vr 209, ev_vn a, ev_vn d, ev_vi bb, ev_vn h, ev_vi kk, o8] [] (ev_up m 219 6 (m 219 6 ||| Int32.ofNat h)) t
    rw [e6, ev_bor hsn h16]
    have f1 : ab_frd m (ev_up m 219 6 (Int32.ofNat (sn ||| h))) := ab_frd_up (by decide)
    have S1 : ab_RS (ev_up m 219 6 (Int32.ofNat (sn ||| h))) n (q + 1) (sn ||| h) R v := ⟨by rw [ev_up_idx _ _ (by decide)]; exact s3, by rw [ev_up_idx _ _ (by decide)]; exact e4, by rw [ev_up_idx _ _ (by decide)]; exact s5, ev_up_same _ _ _ _, fun p hp => by rw [ev_up_cell _ (by decide)]; exact e7 p hp⟩
    have g5 : ev_up m 219 6 (Int32.ofNat (sn ||| h)) 219 5 = Int32.ofNat q := by rw [ev_up_idx _ _ (by decide)]; exact e5
    generalize ev_up m 219 6 (Int32.ofNat (sn ||| h)) = m1 at *
    have ebt : (Int32.ofNat h >>> (m1 219 3 &&& 31)) &&& 1 = ab_bi (h.testBit v) := by rw [S1.1]; exact ev_bt h16 hv
    refine ev_gK A hp [121, 131] 10 ?_
    refine And.intro (fun (z : ¬ ((Int32.ofNat h >>> (m1 219 3 &&& 31)) &&& 1).toInt = (Int32.ofInt 1).toInt) => ?_) (fun (z : ((Int32.ofNat h >>> (m1 219 3 &&& 31)) &&& 1).toInt = (Int32.ofInt 1).toInt) => ?_)
    · rw [ebt] at z
      have hb : h.testBit v = false := by
        cases hb : h.testBit v with
        | false => rfl
        | true => rw [hb] at z; exact absurd rfl z
      refine h131 m1 f1 ?_
      rw [if_neg (by rw [hb]; exact Bool.false_ne_true)]
      exact S1
    · rw [ebt] at z
      have hb : h.testBit v = true := by
        cases hb : h.testBit v with
        | true => rfl
        | false => rw [hb] at z; exact absurd z (by decide)
      refine ev_gK A hp [131] 10 ?_
      refine And.intro (by rw [g5]; exact ev_oin hq (by decide)) ?_
      refine h131 _ (fun c i z1 z2 => by rw [ev_up_cell _ z1]; exact f1 c i z1 z2) ?_
      rw [if_pos hb]
      obtain ⟨a1, a2, a3, a4, a5⟩ := S1
      refine ⟨by rw [ev_up_cell _ (by decide)]; exact a1, by rw [ev_up_cell _ (by decide)]; exact a2, by rw [ev_up_cell _ (by decide)]; exact a3, by rw [ev_up_cell _ (by decide)]; exact a4, fun p hp => ?_⟩
      rw [ev_at g5 (by omega)]
      unfold ab_up1
      by_cases hpq : p = q
      · rw [hpq, ev_up_same, if_pos rfl]; rfl
      · rw [ev_up_idx _ _ hpq, if_neg hpq]; exact a5 p hp
  have loop := ev_lup (P := fun k => ∀ (lp h : Nat) (kk bb hh : Int32) (o8 : Option Value), kk = Int32.ofNat k → bb = Int32.ofInt ((lp : Int) - 1) → lp ≤ 100 → hh = Int32.ofNat h → h < 16 → (k = 0 → h = 0) → ab_wl o T.2.2.2.1 sn d n 0 0 = ab_wl o T.2.2.2.1 sn (d - k) (n + k) lp h → ev_J w ev_m83 (ev_nd 83) Q 24 [ev_vr 219, ev_vr 217, ev_vr 209, ev_vn a, ev_vn d, ev_vi bb, ev_vi hh, ev_vi kk, o8] [] m t) d (by
    intro k hk ih lp h kk bb hh o8 ekk ebb hlp ehh h16 hk0 hwl
    subst ekk ehh
    have ek := ev_ofNat_i (n := k) (by omega)
    refine ev_gK A hp [31, 97] 10 ?_
    refine And.intro (fun (z : (Int32.ofNat d).toInt ≤ (Int32.ofNat k).toInt) => ?_) (fun (z : (Int32.ofNat k).toInt < (Int32.ofNat d).toInt) => ?_)
    · rw [(by omega : d - k = 0), ab_wl] at hwl
      exact h97 h _ _ _ _ hwl h16 rfl (fun q => hk0 (by omega))
    · have hkd : k < d := by omega
      obtain ⟨r1, r2, r3⟩ := hri k hkd
      obtain ⟨j, hj⟩ : ∃ j, d - k = j + 1 := ⟨d - k - 1, by omega⟩
      rw [hj, ab_wl] at hwl
      have hno : ¬ (lp ≤ ab_wn o (n + k) ∧ ab_isJ T.2.2.2.1 (Int32.ofNat (ab_wn o (n + k))) = true ∧ sn.testBit (ab_wn o (n + k)) = false) → Q (.inl (some (.int 0))) m t := by
        intro hc
        rw [if_neg hc] at hwl
        exact h0 (by rw [if_neg (by omega), hwl]; rfl) m ab_frd_rfl e4
      have hwb : ab_wn o (n + k) ≤ 25 := by unfold ab_wn; omega
      have ew : o.getD (n + k) 0 - Int32.ofNat 65 = Int32.ofNat (ab_wn o (n + k)) := ev_subN r2 (by omega)
      refine ev_gK A hp [] 5 ?_
      show ev_J w ev_m83 (ev_nd 83) Q 39 [ev_vr 219, ev_vr 217, ev_vr 209, ev_vn a, ev_vn d, ev_vi bb, ev_vn h, ev_vn k, o8] [.int (m 219 4 + Int32.ofNat k), .ref 217] m t
      rw [e4, ev_addN (by omega)]
      refine ev_gK A hp [47] 10 ?_
      refine ev_S70 A hO hlen ho.2 r1 ?_
      show ev_J w ev_m83 (ev_nd 83) Q 47 [ev_vr 219, ev_vr 217, ev_vr 209, ev_vn a, ev_vn d, ev_vi bb, ev_vn h, ev_vn k, ev_vi (o.getD (n + k) 0 - Int32.ofNat 65)] [] m t
      rw [ew]
      generalize ab_wn o (n + k) = W at *
      have eW := ev_ofNat_i (n := W) (by omega)
      have ebi : bb.toInt = (lp : Int) - 1 := by rw [ebb, ev_ofInt_i (by omega) (by omega)]
      refine ev_gK A hp [78] 20 ?_
      refine And.intro (fun (z : (Int32.ofNat W).toInt ≤ bb.toInt) => ⟨rfl, hno (fun y => by omega)⟩) (fun (z1 : bb.toInt < (Int32.ofNat W).toInt) => ?_)
      refine ev_S40 A hT hok ?_
      refine And.intro (fun z => ⟨rfl, hno (fun y => by rw [ab_bi_eq z] at y; exact Bool.false_ne_true y.2.1)⟩) (fun z => ?_)
      have hJ := ab_bi_neq z
      have hW4 := ab_isJ_lt hok (by omega) hJ
      have ebt : (m 219 6 >>> (Int32.ofNat W &&& 31)) &&& 1 = ab_bi (sn.testBit W) := by rw [e6]; exact ev_bt hsn hW4
      refine And.intro (fun (z2 : ¬ ((m 219 6 >>> (Int32.ofNat W &&& 31)) &&& 1).toInt = (Int32.ofInt 1).toInt) => ?_) (fun (z2 : ((m 219 6 >>> (Int32.ofNat W &&& 31)) &&& 1).toInt = (Int32.ofInt 1).toInt) => ?_)
      · rw [ebt] at z2
        have hb : sn.testBit W = false := by
          cases hb : sn.testBit W with
          | false => rfl
          | true => rw [hb] at z2; exact absurd rfl z2
        rw [if_pos ⟨by omega, hJ, hb⟩] at hwl
        refine ev_gK A hp [24] 20 ?_
        refine ih hkd (W + 1) (h ||| 2 ^ W) _ _ _ _ (ev_succ (by omega)) ?_ (by omega) (ev_bo h16 hW4) (ab_or16 h16 (ab_pw16 hW4)) (by omega) ?_
        · exact (ev_inc1 (by omega)).symm
        · rw [hwl, (by omega : d - (k + 1) = j), (by omega : n + (k + 1) = n + k + 1)]
      · rw [ebt] at z2
        have hb : sn.testBit W = true := by
          cases hb : sn.testBit W with
          | true => rfl
          | false => rw [hb] at z2; exact absurd z2 (by decide)
        exact ⟨rfl, hno (fun y => by rw [hb] at y; exact Bool.noConfusion y.2.2)⟩)
  refine ev_gK A hp [24] 10 ?_
  rw [hdd]
  exact loop 0 (by omega) 0 0 _ _ _ _ rfl rfl (by omega) rfl (by decide) (fun _ => rfl) rfl
def ab_gr (o : ab_Ls) (js : List Nat) (sn n : Nat) : Nat ⊕ (Nat × Nat × Nat) := if ab_is o 32 n = true then (match ab_rr o (n + 1) with
  | none => .inl (n + 1)
  | some n2 => if ab_is o 32 n2 = true then (match ab_wt o js sn (n2 + 1) with
    | none => .inl (n2 + 1)
    | some (d, h) => .inr (n2 + 1 + d, h, n + 1)) else .inl n2) else .inl n
theorem ab_rr_le {o : ab_Ls} {n n' : Nat} (h : ab_rr o n = some n') : n' ≤ o.length ∧ n < n' := by
  unfold ab_rr at h
  split at h
  · split at h
    · rename_i q
      cases h
      refine ⟨?_, by omega⟩
      rcases Bool.or_eq_true_iff.mp q with q | q
      · rcases Bool.or_eq_true_iff.mp q with q | q
        · have := ab_is_lt q; omega
        · have := ab_is_lt q; omega
      · have := ab_is_lt q; omega
    · cases h
  · cases h
    have := (ab_run_in o 97 122 12 n (ab_run o n 97 122 12 - 1) (by omega)).1
    omega
/-- Reader.readGroup -/
theorem ev_S81 {n q sn v : Nat} {R : Nat → Option Nat} {o : ab_Ls} {T : ab_T} (A : ev_all w) (hT : ab_TC m T) (hok : ab_Tok T) (hO : ab_O m o) (ho : ab_Ook o) (hS : ab_RS m n (q + 1) sn R v) (hn : n ≤ o.length) (hq : q < 24) (hsn : sn < 16) (hv : v < 4)
    (h1 : ∀ n4 h a, ab_gr o T.2.2.2.1 sn n = .inr (n4, h, a) → h < 16 → n4 ≤ o.length → ∀ m', ab_frd m m' → ab_RS m' n4 (q + 1) (sn ||| h) (if h.testBit v = true then ab_up1 R q a else R) v → Q (.inl (some (.int 1))) m' t)
    (h0 : ∀ e, ab_gr o T.2.2.2.1 sn n = .inl e → ∀ m', ab_frd m m' → m' 219 4 = Int32.ofNat e → Q (.inl (some (.int 0))) m' t) : ev_K w 81 [.ref 219, .ref 217, .ref 209] m t Q := by
  have hp : ev_prog[81]? = some ev_m81 := rfl
  have hlen := ho.1
  unfold ab_gr at h1 h0
  refine ⟨Or.inr ⟨219, _, rfl, rfl⟩, ev_m81, rfl, ev_gK A hp [12] 10 ?_⟩
  refine ev_S78 (c := 32) A hO ho hS hn (fun hi m1 f1 S1 => ?_) (fun hi => ?_)
  · refine And.intro (fun _ => ?_) (fun h => absurd (h : (1 : Int32).toInt = 0) ev_ne10)
    rw [if_pos hi] at h1 h0
    have hn1 : n + 1 ≤ o.length := ab_is_lt hi
    have O1 := ab_O_frd f1 hO
    show ev_J w ev_m81 (ev_nd 81) Q 12 [ev_vr 219, ev_vr 217, ev_vr 209, none] [] m1 t
    refine ev_gK A hp [25, 49] 10 ?_
    show ev_K w 82 [.ref 219, .ref 217] m1 t _
    refine ev_S82 A O1 ho S1 hn1 (fun n2 hr m2 f2 S2 => ?_) (fun hr => ?_)
    · refine And.intro (fun h => absurd (h : (1 : Int32).toInt = 0) ev_ne10) (fun _ => ?_)
      simp only [hr] at h1 h0
      have hn2 := (ab_rr_le hr).1
      have O2 := ab_O_frd f2 O1
      show ev_J w ev_m81 (ev_nd 81) Q 25 [ev_vr 219, ev_vr 217, ev_vr 209, ev_vi (m1 219 4)] [] m2 t
      rw [S1.2.1]
      refine ev_gK A hp [35, 49] 10 ?_
      refine ev_S78 (c := 32) A O2 ho S2 hn2 (fun hi2 m3 f3 S3 => ?_) (fun hi2 => ?_)
      · refine And.intro (fun h => absurd (h : (1 : Int32).toInt = 0) ev_ne10) (fun _ => ?_)
        rw [if_pos hi2] at h1 h0
        have hn3 : n2 + 1 ≤ o.length := ab_is_lt hi2
        have O3 := ab_O_frd f3 O2
        have f13 := ab_frd_tr f1 (ab_frd_tr f2 f3)
        refine ev_gK A hp [49] 20 ?_
        refine ev_S83 (T := T) (a := n + 1) A (ab_TC_cong (fun k j z1 z2 => f13 k j (by omega) (by omega)) hT) hok O3 ho S3 hn3 hq hsn hv (fun d h hw h16 hd m4 f4 S4 => ?_) (fun hw m4 f4 z4 => ?_)
        · simp only [hw] at h1
          refine And.intro (fun h => absurd (h : (1 : Int32).toInt = 0) ev_ne10) (fun _ => ?_)
          exact ⟨rfl, h1 _ _ _ rfl h16 hd m4 (ab_frd_tr f13 f4) S4⟩
        · simp only [hw] at h0
          refine And.intro (fun _ => ?_) (fun h => absurd ev_eq00 h)
          exact ev_gK A hp [] 10 ⟨rfl, h0 _ rfl m4 (ab_frd_tr f13 f4) z4⟩
      · rw [if_neg (by rw [hi2]; exact Bool.false_ne_true)] at h0
        refine And.intro (fun _ => ?_) (fun h => absurd ev_eq00 h)
        exact ev_gK A hp [] 10 ⟨rfl, h0 _ rfl m2 (ab_frd_tr f1 f2) S2.2.1⟩
    · simp only [hr] at h0
      refine And.intro (fun _ => ?_) (fun h => absurd ev_eq00 h)
      exact ev_gK A hp [] 10 ⟨rfl, h0 _ rfl m1 f1 S1.2.1⟩
  · rw [if_neg (by rw [hi]; exact Bool.false_ne_true)] at h0
    refine And.intro (fun h => absurd ev_eq00 h) (fun _ => ?_)
    exact ⟨rfl, h0 _ rfl m ab_frd_rfl hS.2.1⟩
end EvReader2
end
section
/-! the class's reader: entries, and what is built -/
section EvReader3
variable {w : ev_W} {Q : ev_QT} {m : ev_Mem} {t : ev_H}
def ab_gs (o : ab_Ls) (js : List Nat) (v : Nat) : Nat → Nat → Nat → Option Nat → Nat ⊕ (Nat × Option Nat)
  | 0, n, _, _ => .inl n
  | g + 1, n, sn, rp => match ab_gr o js sn n with
    | .inl e => .inl e
    | .inr (n4, h, a) => if ab_is o 10 n4 = true then .inr (n4 + 1, if h.testBit v = true then some a else rp) else if ab_is o 59 n4 = true then ab_gs o js v g (n4 + 1) (sn ||| h) (if h.testBit v = true then some a else rp) else .inl n4
def ab_en (o : ab_Ls) (T : ab_T) (fo : Nat → Option ab_Ls) (v pm n : Nat) : Nat ⊕ (Nat × Nat × Option Nat) := match ab_pl o T.1 pm n with
  | none => .inl n
  | some (d, q) => if ab_is o 32 (n + d) = true then (match ab_lm fo (ab_lem T q) o (n + d + 1) with
    | none => .inl (n + d + 1)
    | some n2 => if ab_is o 93 n2 = true then (match ab_gs o T.2.2.2.1 v 5 (n2 + 1) 0 none with
      | .inl e => .inl e
      | .inr (n3, rp) => .inr (n3, q, rp)) else .inl n2) else .inl (n + d)
def ab_upo (R : Nat → Option Nat) (q : Nat) (rp : Option Nat) : Nat → Option Nat := fun p => if p = q then rp else R p
theorem ab_upo_if (R : Nat → Option Nat) (q a : Nat) (rp : Option Nat) (b : Bool) : (if b = true then ab_up1 (ab_upo R q rp) q a else ab_upo R q rp) = ab_upo R q (if b = true then some a else rp) := by
  cases b with
  | false => rfl
  | true =>
    funext p
    show ab_up1 (ab_upo R q rp) q a p = ab_upo R q (some a) p
    unfold ab_up1 ab_upo
    by_cases h : p = q
    · rw [if_pos h, if_pos h]
    · rw [if_neg h, if_neg h, if_neg h]
theorem ab_pl_some {o : ab_Ls} {N pm n d q : Nat} (h : ab_pl o N pm n = some (d, q)) : n + d ≤ o.length ∧ 0 < d ∧ pm ≤ q ∧ q < N := by
  unfold ab_pl at h
  split at h
  · cases h
  · rename_i hc
    injection h with h
    injection h with h1 h2
    have := (ab_run_in o 48 57 2 n (ab_run o n 48 57 2 - 1) (by omega)).1
    omega
theorem ab_si_some {o : ab_Ls} {c : Int32} {n n' : Nat} (h : ab_si o c n = some n') : n' ≤ o.length ∧ n < n' := by
  unfold ab_si at h
  split at h
  · rename_i q
    cases h
    have := ab_is_lt q
    omega
  · cases h
theorem ab_lt_some {o l : ab_Ls} {n n' : Nat} (hl : 0 < l.length) (h : ab_lt o l n = some n') : n' ≤ o.length ∧ n < n' := by
  unfold ab_lt at h
  split at h
  · rename_i q
    cases h
    have := (ab_run_in o 97 122 12 n (l.length - 1) (by omega)).1
    omega
  · cases h
theorem ab_lm_some {fo : Nat → Option ab_Ls} {x : Option Nat} {o : ab_Ls} {n n' : Nat} (h : ab_lm fo x o n = some n') : n' ≤ o.length ∧ n < n' := by
  unfold ab_lm at h
  split at h
  · exact ab_si_some h
  · split at h
    · exact ab_si_some h
    · exact ab_si_some h
    · exact ab_lt_some (by rw [List.length_cons]; omega) h
/-- Reader.readEntry -/
theorem ev_S76 {n pm sn v : Nat} {R : Nat → Option Nat} {o : ab_Ls} {T : ab_T} {fo : Nat → Option ab_Ls} (A : ev_all w) (hE : ab_E m T fo) (hO : ab_O m o) (ho : ab_Ook o) (hS : ab_RS m n pm sn R v) (hn : n ≤ o.length) (hpm : pm ≤ 24) (hv : v < 4) (hR : ∀ p, pm ≤ p → R p = none)
    (h1 : ∀ n3 q rp, ab_en o T fo v pm n = .inr (n3, q, rp) → n3 ≤ o.length → pm ≤ q → q < T.1 → ∀ m' sn', ab_frd m m' → ab_RS m' n3 (q + 1) sn' (ab_upo R q rp) v → Q (.inl (some (.int 1))) m' t)
    (h0 : ∀ e, ab_en o T fo v pm n = .inl e → ∀ m', ab_frd m m' → m' 219 4 = Int32.ofNat e → Q (.inl (some (.int 0))) m' t) : ev_K w 76 [.ref 219, .ref 217, .ref 209, .ref 40] m t Q := by
  have hp : ev_prog[76]? = some ev_m76 := rfl
  have hlen := ho.1
  have k1 := hE.2.1.1
  have i4 := ev_i4
  have y1 : ∀ {P : Prop}, ((1 : Int32).toInt = 0) → P := fun h => absurd h ev_ne10
  unfold ab_en at h1 h0
  refine ⟨Or.inr ⟨219, _, rfl, rfl⟩, ev_m76, rfl, ev_gK A hp [21, 43] 20 ?_⟩
  refine ev_S77 A hE.1 hE.2.1 hO ho hS hn hpm (fun d q hpl m1 f1 S1 => ?_) (fun hpl => ?_)
  · simp only [hpl] at h1 h0
    obtain ⟨b1, b2, b3, b4⟩ := ab_pl_some hpl
    refine And.intro (fun h => y1 h) (fun _ => ?_)
    have O1 := ab_O_frd f1 hO
    refine ev_S78 (c := 32) A O1 ho S1 b1 (fun hi m2 f2 S2 => ?_) (fun hi => ?_)
    · rw [if_pos hi] at h1 h0
      refine And.intro (fun _ => ?_) (fun h => y1 h)
      have O2 := ab_O_frd f2 O1
      have f12 := ab_frd_tr f1 f2
      have hn2 : n + d + 1 ≤ o.length := ab_is_lt hi
      show ev_J w ev_m76 (ev_nd 76) Q 21 [ev_vr 219, ev_vr 217, ev_vr 209, ev_vr 40, none] [] m2 t
      refine ev_gK A hp [43] 20 ?_
      refine ev_S79 A (ab_E_frd f12 hE) O2 ho S2 hn2 b4 (fun n2 hlm m3 f3 S3 => ?_) (fun hlm => ?_)
      · simp only [hlm] at h1 h0
        refine And.intro (fun h => y1 h) (fun _ => ?_)
        have O3 := ab_O_frd f3 O2
        have hn3 := (ab_lm_some hlm).1
        refine ev_S78 (c := 93) A O3 ho S3 hn3 (fun hi2 m4 f4 S4 => ?_) (fun hi2 => ?_)
        · rw [if_pos hi2] at h1 h0
          refine And.intro (fun _ => ?_) (fun h => y1 h)
          have f14 := ab_frd_tr f12 (ab_frd_tr f3 f4)
          obtain ⟨G, hG⟩ : ∃ G, ab_gs o T.2.2.2.1 v 5 (n2 + 1) 0 none = G := ⟨_, rfl⟩
          rw [hG] at h1 h0
          have loop := ev_lup (P := fun k => ∀ (kk : Int32) (mk : ev_Mem) (n5 s5 : Nat) (rp : Option Nat), kk = Int32.ofNat k → ab_frd m mk → ab_RS mk n5 (q + 1) s5 (ab_upo R q rp) v → s5 < 16 → n5 ≤ o.length → G = ab_gs o T.2.2.2.1 v (5 - k) n5 s5 rp → ev_J w ev_m76 (ev_nd 76) Q 51 [ev_vr 219, ev_vr 217, ev_vr 209, ev_vr 40, ev_vi kk] [] mk t) 5 (by
            intro k hk ih kk mk n5 s5 rp ekk fk Sk h16 hn5 hgs
            subst ekk
            have ek := ev_ofNat_i (n := k) (by omega)
            refine ev_gK A hp [51, 68] 20 ?_
            refine And.intro (fun (h : (Int32.ofInt 4).toInt < (Int32.ofNat k).toInt) => ?_) (fun (h : (Int32.ofNat k).toInt ≤ (Int32.ofInt 4).toInt) => ?_)
            · rw [(by omega : 5 - k = 0), ab_gs] at hgs
              simp only [hgs] at h0
              exact ⟨rfl, h0 _ rfl mk fk Sk.2.1⟩
            · have hk5 : k < 5 := by omega
              obtain ⟨g, hg⟩ : ∃ g, 5 - k = g + 1 := ⟨5 - k - 1, by omega⟩
              rw [hg, ab_gs] at hgs
              have Ok := ab_O_frd fk hO
              have hEk := ab_E_frd fk hE
              refine ev_S81 A hEk.1 hEk.2.1 Ok ho Sk hn5 (by omega) h16 hv (fun n6 hh a hgr hh16 hn6 m6 f6 S6 => ?_) (fun e hgr m6 f6 z6 => ?_)
              · simp only [hgr] at hgs
                refine And.intro (fun _ => ?_) (fun h => y1 h)
                have f06 := ab_frd_tr fk f6
                have O6 := ab_O_frd f6 Ok
                rw [ab_upo_if] at S6
                show ev_J w ev_m76 (ev_nd 76) Q 68 [ev_vr 219, ev_vr 217, ev_vr 209, ev_vr 40, ev_vn k] [] m6 t
                refine ev_gK A hp [51] 20 ?_
                refine ev_S78 (c := 10) A O6 ho S6 hn6 (fun hj m7 f7 S7 => ?_) (fun hj => ?_)
                · refine And.intro (fun h => y1 h) (fun _ => ?_)
                  rw [if_pos hj] at hgs
                  simp only [hgs] at h1
                  exact ⟨rfl, h1 _ _ _ rfl (ab_is_lt hj) b3 b4 m7 _ (ab_frd_tr f06 f7) S7⟩
                · rw [if_neg (by rw [hj]; exact Bool.false_ne_true)] at hgs
                  refine And.intro (fun _ => ?_) (fun h => absurd ev_eq00 h)
                  refine ev_S78 (c := 59) A O6 ho S6 hn6 (fun hj2 m7 f7 S7 => ?_) (fun hj2 => ?_)
                  · refine And.intro (fun _ => ?_) (fun h => y1 h)
                    rw [if_pos hj2] at hgs
                    refine ih hk5 _ m7 _ _ _ (ev_succ (by omega)) (ab_frd_tr f06 f7) S7 (ab_or16 h16 hh16) (ab_is_lt hj2) ?_
                    rw [hgs, (by omega : 5 - (k + 1) = g)]
                  · refine And.intro (fun h => absurd ev_eq00 h) (fun _ => ?_)
                    rw [if_neg (by rw [hj2]; exact Bool.false_ne_true)] at hgs
                    simp only [hgs] at h0
                    exact ⟨rfl, h0 _ rfl m6 f06 S6.2.1⟩
              · simp only [hgr] at hgs
                simp only [hgs] at h0
                refine And.intro (fun h => absurd ev_eq00 h) (fun _ => ?_)
                exact ⟨rfl, h0 _ rfl m6 (ab_frd_tr fk f6) z6⟩)
          show ev_J w ev_m76 (ev_nd 76) Q 43 [ev_vr 219, ev_vr 217, ev_vr 209, ev_vr 40, none] [] m4 t
          refine ev_gK A hp [51] 20 ?_
          have eR : ab_upo R q none = R := by
            funext p
            unfold ab_upo
            by_cases hpq : p = q
            · rw [if_pos hpq, hR p (by omega)]
            · rw [if_neg hpq]
          refine loop 0 (by omega) _ _ (n2 + 1) 0 none rfl (ab_frd_tr f14 (ab_frd_up (by decide))) ?_ (by decide) (ab_is_lt hi2) hG.symm
          rw [eR]
          obtain ⟨a1, a2, a3, a4, a5⟩ := S4
          exact ⟨by rw [ev_up_idx _ _ (by decide)]; exact a1, by rw [ev_up_idx _ _ (by decide)]; exact a2, by rw [ev_up_idx _ _ (by decide)]; exact a3, ev_up_same _ _ _ _, fun p hp => by rw [ev_up_cell _ (by decide)]; exact a5 p hp⟩
        · rw [if_neg (by rw [hi2]; exact Bool.false_ne_true)] at h0
          refine And.intro (fun h => absurd ev_eq00 h) (fun _ => ?_)
          exact ⟨rfl, h0 _ rfl m3 (ab_frd_tr f12 f3) S3.2.1⟩
      · simp only [hlm] at h0
        refine And.intro (fun _ => ?_) (fun h => absurd ev_eq00 h)
        exact ⟨rfl, h0 _ rfl m2 f12 S2.2.1⟩
    · rw [if_neg (by rw [hi]; exact Bool.false_ne_true)] at h0
      refine And.intro (fun h => absurd ev_eq00 h) (fun _ => ?_)
      exact ⟨rfl, h0 _ rfl m1 f1 S1.2.1⟩
  · simp only [hpl] at h0
    refine And.intro (fun _ => ?_) (fun h => absurd ev_eq00 h)
    exact ⟨rfl, h0 _ rfl m ab_frd_rfl hS.2.1⟩
/-- what is built -/
def ab_B (m : ev_Mem) (bl : List (Option ab_Ls)) : Prop := m 219 1 = Int32.ofNat bl.length ∧ ∀ i, i < bl.length → ab_F m (221 + 2 * i) (bl.getD i none)
def ab_frb (m m' : ev_Mem) : Prop := ∀ c i, ¬ (219 ≤ c ∧ c ≤ 268) → m' c i = m c i
theorem ab_frb_tr {a b c : ev_Mem} (h1 : ab_frb a b) (h2 : ab_frb b c) : ab_frb a c := fun k i z => (h2 k i z).trans (h1 k i z)
def ab_bu1 (o : ab_Ls) (f : Nat) : List (Option ab_Ls) := if (o.getD f 0).toInt = 45 then [] else if (o.getD f 0).toInt = 63 then [none] else [some ((o.drop f).take (ab_run o f 97 122 12))]
theorem ab_B_app {m m' : ev_Mem} {bl : List (Option ab_Ls)} {x : Option ab_Ls} (hB : ab_B m bl) (h24 : bl.length < 24) (h1 : m' 219 1 = Int32.ofNat (bl.length + 1)) (hx : ab_F m' (221 + 2 * bl.length) x) (hf : ∀ c i, ¬ (c = 219 ∧ i = 1) → c ≠ 221 + 2 * bl.length → c ≠ 222 + 2 * bl.length → m' c i = m c i) : ab_B m' (bl ++ [x]) := by
  refine ⟨by rw [h1, List.length_append, List.length_singleton], fun i hi => ?_⟩
  rw [List.length_append, List.length_singleton] at hi
  rw [List.getD_eq_getElem?_getD]
  by_cases hil : i = bl.length
  · rw [hil, List.getElem?_append_right (Nat.le_refl _), Nat.sub_self]
    exact hx
  · rw [List.getElem?_append_left (by omega), ← List.getD_eq_getElem?_getD]
    exact ab_F_cong (fun j => hf _ _ (by omega) (by omega) (by omega)) (fun j => hf _ _ (by omega) (by omega) (by omega)) (hB.2 i (by omega))
/-- Reader.buildReading -/
theorem ev_S85 {f : Nat} {o : ab_Ls} {bl : List (Option ab_Ls)} (A : ev_all w) (hO : ab_O m o) (ho : ab_Ook o) (hf : f < o.length) (hB : ab_B m bl) (h24 : bl.length < 24) (hQ : ∀ m', ab_frb m m' → ab_B m' (bl ++ ab_bu1 o f) → Q (.inl none) m' t) : ev_K w 85 [.ref 219, .ref 217, .int (Int32.ofNat f)] m t Q := by
  have hp : ev_prog[85]? = some ev_m85 := rfl
  have hlen := ho.1
  have i45 : ((Int8.ofInt 45).toInt32).toInt = 45 := by decide
  have i63 : ((Int8.ofInt 63).toInt32).toInt = 63 := by decide
  have hri := ab_run_in o 97 122 12 f
  have hrl := ab_run_le o 97 122 12 f
  obtain ⟨d, hd⟩ : ∃ d, ab_run o f 97 122 12 = d := ⟨_, rfl⟩
  have hdd : ab_run o f (Int32.ofNat 97).toInt (Int32.ofNat 122).toInt 12 = d := hd
  unfold ab_bu1 at hQ
  rw [hd] at hQ hri hrl
  have ed := ev_ofNat_i (n := d) (by omega)
  have hx := ev_isLb24 h24
  refine ⟨Or.inr ⟨219, _, rfl, rfl⟩, ev_m85, rfl, ev_gK A hp [13] 10 ?_⟩
  refine ev_S70 A hO hlen ho.2 hf ?_
  refine And.intro (fun (h : ¬ (o.getD f 0).toInt = ((Int8.ofInt 45).toInt32).toInt) => ?_) (fun (h : (o.getD f 0).toInt = ((Int8.ofInt 45).toInt32).toInt) => ?_)
  · rw [if_neg (by omega)] at hQ
    show ev_J w ev_m85 (ev_nd 85) Q 13 [ev_vr 219, ev_vr 217, ev_vn f, ev_vi (o.getD f 0), none, none, none] [] m t
    refine ev_gK A hp [24] 10 ?_
    refine And.intro (ev_iin hB.1 h24 (by decide)) ?_
    show ev_J w ev_m85 (ev_nd 85) Q 24 [ev_vr 219, ev_vr 217, ev_vn f, ev_vi (o.getD f 0), ev_vr (221 + 2 * (m 219 1).toNatClampNeg), none, none] [] m t
    rw [ev_at hB.1 (by omega)]
    refine ev_gK A hp [] 6 ?_
    show ev_J w ev_m85 (ev_nd 85) Q 34 [ev_vr 219, ev_vr 217, ev_vn f, ev_vi (o.getD f 0), ev_vr (221 + 2 * bl.length), none, none] [] (ev_up m 219 1 (m 219 1 + 1)) t
    rw [hB.1, ev_succ (by omega)]
    refine ev_gK A hp [] 3 ?_
    refine ev_S7 A hx ?_
    -- the memory with one form begun
    have g1 : ∀ c i, ¬ (c = 219 ∧ i = 1) → c ≠ 221 + 2 * bl.length → ev_up (ev_up m 219 1 (Int32.ofNat (bl.length + 1))) (221 + 2 * bl.length) 1 (Int32.ofInt 0) c i = m c i := fun c i z1 z2 => by rw [ev_up_cell _ z2]; exact if_neg z1
    have g2 : ev_up (ev_up m 219 1 (Int32.ofNat (bl.length + 1))) (221 + 2 * bl.length) 1 (Int32.ofInt 0) 219 1 = Int32.ofNat (bl.length + 1) := by rw [ev_up_cell _ (by omega), ev_up_same]
    have g3 : ev_up (ev_up m 219 1 (Int32.ofNat (bl.length + 1))) (221 + 2 * bl.length) 1 (Int32.ofInt 0) (221 + 2 * bl.length) 1 = 0 := ev_up_same _ _ _ _
    show ev_J w ev_m85 (ev_nd 85) Q 40 [ev_vr 219, ev_vr 217, ev_vn f, ev_vi (o.getD f 0), ev_vr (221 + 2 * bl.length), none, none] [] (ev_up (ev_up m 219 1 (Int32.ofNat (bl.length + 1))) (221 + 2 * bl.length) 1 (Int32.ofInt 0)) t
    generalize ev_up (ev_up m 219 1 (Int32.ofNat (bl.length + 1))) (221 + 2 * bl.length) 1 (Int32.ofInt 0) = m1 at *
    have O1 : ab_O m1 o := ⟨by rw [g1 _ _ (by decide) (by omega)]; exact hO.1, fun k hk => by rw [g1 _ _ (by omega) (by omega)]; exact hO.2 k hk⟩
    refine ev_gK A hp [] 6 ?_
    show ev_K w 72 [.ref 217, .int (Int32.ofNat f), .int (Int32.ofNat 97), .int (Int32.ofNat 122), .int (Int32.ofNat 12)] m1 t _
    refine ev_S72 A O1 hlen (by omega) (by decide) ?_
    have hdf : f + d ≤ o.length := by
      rcases Nat.eq_zero_or_pos d with z | z
      · omega
      · have := (hri (d - 1) (by omega)).1; omega
    have h82 : ∀ (mk : ev_Mem) (kk : Int32), (∀ c i, ¬ (c = 219 ∧ i = 1) → c ≠ 221 + 2 * bl.length → c ≠ 222 + 2 * bl.length → mk c i = m c i) → mk 219 1 = Int32.ofNat (bl.length + 1) → ab_L mk (221 + 2 * bl.length) ((o.drop f).take d) → ev_J w ev_m85 (ev_nd 85) Q 82 [ev_vr 219, ev_vr 217, ev_vn f, ev_vi (o.getD f 0), ev_vr (221 + 2 * bl.length), ev_vn d, ev_vi kk] [] mk t := by
      intro mk kk f1 z1 hL
      refine ev_gK A hp [] 10 ?_
      refine And.intro (fun (h2 : ¬ (o.getD f 0).toInt = ((Int8.ofInt 63).toInt32).toInt) => ?_) (fun (h2 : (o.getD f 0).toInt = ((Int8.ofInt 63).toInt32).toInt) => ?_)
      · rw [if_neg (by omega)] at hQ
        exact hQ mk (fun c i z => f1 c i (by omega) (by omega) (by omega)) (ab_B_app hB h24 z1 hL f1)
      · rw [if_pos (by omega)] at hQ
        refine ev_S11 A hx ?_
        refine hQ _ (fun c i z => by rw [ev_up_cell _ (by omega)]; exact f1 c i (by omega) (by omega) (by omega)) (ab_B_app hB h24 (by rw [ev_up_cell _ (by omega)]; exact z1) ?_ (fun c i z1 z2 z3 => by rw [ev_up_cell _ z2]; exact f1 c i z1 z2 z3))
        show (ev_up mk (221 + 2 * bl.length) 1 (-1) (221 + 2 * bl.length) 1).toInt = -1
        rw [ev_up_same]; rfl
    have loop := ev_lup (P := fun k => ∀ (kk : Int32) (mk : ev_Mem), kk = Int32.ofNat k → (∀ c i, ¬ (c = 219 ∧ i = 1) → c ≠ 221 + 2 * bl.length → c ≠ 222 + 2 * bl.length → mk c i = m c i) → mk 219 1 = Int32.ofNat (bl.length + 1) → ab_L mk (221 + 2 * bl.length) ((o.drop f).take k) → ev_J w ev_m85 (ev_nd 85) Q 56 [ev_vr 219, ev_vr 217, ev_vn f, ev_vi (o.getD f 0), ev_vr (221 + 2 * bl.length), ev_vn d, ev_vi kk] [] mk t) d (by
      intro k hk ih kk mk ekk f1 z1 hL
      subst ekk
      have ek := ev_ofNat_i (n := k) (by omega)
      have hkl : ((o.drop f).take k).length = k := by rw [List.length_take, List.length_drop]; omega
      refine ev_gK A hp [63, 82] 10 ?_
      refine And.intro (fun (h : (Int32.ofNat d).toInt ≤ (Int32.ofNat k).toInt) => ?_) (fun (h : (Int32.ofNat k).toInt < (Int32.ofNat d).toInt) => ?_)
      · have e : k = d := by omega
        subst e
        exact h82 mk _ f1 z1 hL
      · have hkd : k < d := by omega
        obtain ⟨r1, r2, r3⟩ := hri k hkd
        have Ok : ab_O mk o := ⟨by rw [f1 _ _ (by decide) (by omega) (by omega)]; exact hO.1, fun k hk => by rw [f1 _ _ (by omega) (by omega) (by omega)]; exact hO.2 k hk⟩
        refine ev_gK A hp [] 5 ?_
        show ev_J w ev_m85 (ev_nd 85) Q 70 [ev_vr 219, ev_vr 217, ev_vn f, ev_vi (o.getD f 0), ev_vr (221 + 2 * bl.length), ev_vn d, ev_vn k] [.int (Int32.ofNat f + Int32.ofNat k), .ref 217, .ref (221 + 2 * bl.length)] mk t
        rw [ev_addN (by omega)]
        refine ev_gK A hp [56] 20 ?_
        refine ev_S70 A Ok hlen ho.2 r1 ?_
        refine ev_S9 A hx (by decide) ?_
        have hL1 := hL.1
        rw [hkl] at hL1
        have hlk : mk (221 + 2 * bl.length) 1 = Int32.ofNat k := by apply ev_eq_of; rw [hL1, ek]
        have e9 : ev_addL mk (221 + 2 * bl.length) 12 (o.getD (f + k) 0) = ev_up (ev_up mk (221 + 2 * bl.length + 1) k (o.getD (f + k) 0)) (221 + 2 * bl.length) 1 (Int32.ofNat (k + 1)) := by
          unfold ev_addL
          rw [if_pos ⟨by omega, by omega⟩, hlk, ev_on (by omega), ev_succ (by omega), ev_ch_nar (ab_c16_ch ⟨by omega, by omega⟩)]
        rw [e9]
        refine ih hkd _ _ (ev_succ (by omega)) (fun c i z1 z2 z3 => by rw [ev_up_cell _ z2, ev_up_cell _ (by omega)]; exact f1 c i z1 z2 z3) (by rw [ev_up_cell _ (by omega), ev_up_cell _ (by omega)]; exact z1) ⟨?_, fun j hj => ?_⟩
        · rw [ev_up_same, ev_ofNat_i (by omega), List.length_take, List.length_drop]; omega
        · rw [List.length_take, List.length_drop] at hj
          rw [ev_up_cell _ (by omega), Nat.zero_add]
          have hg : ∀ j, j < k + 1 → ((o.drop f).take (k + 1)).getD j 0 = o.getD (f + j) 0 := fun j hj => by rw [ab_getD_take hj, ab_getD_drop]
          rw [hg j (by omega)]
          by_cases hjk : j = k
          · rw [hjk, ev_up_same]
          · rw [ev_up_idx _ _ hjk]
            have h3 := hL.2 j (by rw [hkl]; omega)
            rw [Nat.zero_add, ab_getD_take (by omega), ab_getD_drop] at h3
            exact h3)
    refine ev_gK A hp [56] 10 ?_
    rw [hdd]
    refine loop 0 (by omega) _ m1 rfl (fun c i z1 z2 _ => g1 c i z1 z2) g2 ⟨?_, fun j hj => ?_⟩
    · rw [g3, List.take_zero]; rfl
    · rw [List.take_zero] at hj; exact absurd hj (Nat.not_lt_zero _)
  · rw [if_pos (by omega), List.append_nil] at hQ
    exact hQ m (fun _ _ _ => rfl) hB
def ab_bl1 (o : ab_Ls) (T : ab_T) (fo : Nat → Option ab_Ls) (R : Nat → Option Nat) (p : Nat) : List (Option ab_Ls) := match R p with
  | some f => ab_bu1 o f
  | none => match ab_lem T p with
    | none => []
    | some x => [fo x]
def ab_bl (o : ab_Ls) (T : ab_T) (fo : Nat → Option ab_Ls) (R : Nat → Option Nat) : Nat → List (Option ab_Ls)
  | 0 => []
  | p + 1 => ab_bl o T fo R p ++ ab_bl1 o T fo R p
theorem ab_bu1_len (o : ab_Ls) (f : Nat) : (ab_bu1 o f).length ≤ 1 := by
  unfold ab_bu1
  split
  · exact Nat.zero_le _
  · split <;> exact Nat.le_refl _
theorem ab_bl1_len (o : ab_Ls) (T : ab_T) (fo : Nat → Option ab_Ls) (R : Nat → Option Nat) (p : Nat) : (ab_bl1 o T fo R p).length ≤ 1 := by
  unfold ab_bl1
  split
  · exact ab_bu1_len _ _
  · split
    · exact Nat.zero_le _
    · exact Nat.le_refl _
theorem ab_bl_len (o : ab_Ls) (T : ab_T) (fo : Nat → Option ab_Ls) (R : Nat → Option Nat) : ∀ p, (ab_bl o T fo R p).length ≤ p
  | 0 => Nat.le_refl _
  | p + 1 => by
    have h1 := ab_bl_len o T fo R p
    have h2 := ab_bl1_len o T fo R p
    rw [ab_bl, List.length_append]
    omega
/-- Reader.buildAll -/
theorem ev_S84 {o : ab_Ls} {T : ab_T} {fo : Nat → Option ab_Ls} {R : Nat → Option Nat} (A : ev_all w) (hE : ab_E m T fo) (hO : ab_O m o) (ho : ab_Ook o) (hR : ∀ p, p < 24 → m 269 p = ab_oi (R p)) (hRl : ∀ p f, R p = some f → f < o.length) (hQ : ∀ m', ab_frb m m' → ab_B m' (ab_bl o T fo R T.1) → Q (.inl none) m' t) : ev_K w 84 [.ref 219, .ref 217, .ref 209, .ref 40] m t Q := by
  have hp : ev_prog[84]? = some ev_m84 := rfl
  have hlen := ho.1
  have k1 := hE.2.1.1
  have em1 := ev_im1
  have loop := ev_lup (P := fun p => ∀ (pp : Int32) (mk : ev_Mem) (o5 : Option Value), pp = Int32.ofNat p → ab_frb m mk → ab_B mk (ab_bl o T fo R p) → ev_J w ev_m84 (ev_nd 84) Q 8 [ev_vr 219, ev_vr 217, ev_vr 209, ev_vr 40, ev_vi pp, o5] [] mk t) T.1 (by
    intro p hpT ih pp mk o5 epp hf hB
    subst epp
    have ep := ev_ofNat_i (n := p) (by omega)
    have hEk : ab_E mk T fo := ab_E_cong (fun c i _ z => hf c i (by omega)) hE
    have Ok : ab_O mk o := ⟨by rw [hf _ _ (by decide)]; exact hO.1, fun k hk => by rw [hf _ _ (by decide)]; exact hO.2 k hk⟩
    have t1 := hEk.1.1
    have hbl := ab_bl_len o T fo R p
    refine ev_gK A hp [25] 10 ?_
    refine ev_S36 A ?_
    refine And.intro (fun (h : (mk 209 2).toInt ≤ (Int32.ofNat p).toInt) => ?_) (fun (h : (Int32.ofNat p).toInt < (mk 209 2).toInt) => ?_)
    · have e : p = T.1 := by omega
      rw [e] at hB
      exact hQ mk hf hB
    · have hpl : p < T.1 := by omega
      have h85 : ∀ (x5 : Int32) (m2 : ev_Mem), ab_frb m m2 → ab_B m2 (ab_bl o T fo R p ++ ab_bl1 o T fo R p) → ev_J w ev_m84 (ev_nd 84) Q 85 [ev_vr 219, ev_vr 217, ev_vr 209, ev_vr 40, ev_vn p, ev_vi x5] [] m2 t := by
        intro x5 m2 f2 B2
        refine ev_gK A hp [8] 10 ?_
        exact ih hpl _ m2 _ (ev_succ (by omega)) f2 B2
      refine ev_S37 A hEk.1 hEk.2.1 hpl ?_
      have e269 : mk 269 (Int32.ofNat p).toNatClampNeg = ab_oi (R p) := by rw [ev_on (by omega), hf _ _ (by decide)]; exact hR p (by omega)
      show ev_J w ev_m84 (ev_nd 84) Q 25 [ev_vr 219, ev_vr 217, ev_vr 209, ev_vr 40, ev_vn p, ev_vi (ab_oi (ab_lem T p))] [] mk t
      refine ev_gK A hp [36, 51] 10 ?_
      refine And.intro (ev_oin (by omega) (by decide)) ?_
      have hRb : ∀ f, R p = some f → f < 100000 := fun f hf2 => by have := hRl p f hf2; omega
      refine And.intro (fun (h2 : (mk 269 (Int32.ofNat p).toNatClampNeg).toInt = (Int32.ofInt (-1)).toInt) => ?_) (fun (h2 : ¬ (mk 269 (Int32.ofNat p).toNatClampNeg).toInt = (Int32.ofInt (-1)).toInt) => ?_)
      · rw [e269, em1] at h2
        have hRn := (ab_oi_m1 hRb).mp h2
        show ev_J w ev_m84 (ev_nd 84) Q 51 [ev_vr 219, ev_vr 217, ev_vr 209, ev_vr 40, ev_vn p, ev_vi (ab_oi (ab_lem T p))] [] mk t
        cases hx : ab_lem T p with
        | none =>
          have e1 : ab_bl1 o T fo R p = [] := by unfold ab_bl1; rw [hRn, hx]
          refine ev_gK A hp [85] 10 ?_
          refine And.intro (fun _ => h85 _ mk hf (by rw [e1, List.append_nil]; exact hB)) (fun (h3 : ¬ (-1 : Int32).toInt = (-1 : Int32).toInt) => absurd rfl h3)
        | some y =>
          obtain ⟨hy, hyt⟩ := ab_lem_ok hEk hpl y hx
          have ey := ev_ofNat_i (n := y) (by omega)
          have e1 : ab_bl1 o T fo R p = [fo y] := by unfold ab_bl1; rw [hRn, hx]
          obtain ⟨hF, hol⟩ := hEk.2.2.1 y hy hyt
          have hFl := ab_F_len hF
          have h24 : (ab_bl o T fo R p).length < 24 := by omega
          refine ev_gK A hp [57] 10 ?_
          refine And.intro (fun (h3 : (Int32.ofNat y).toInt = (Int32.ofInt (-1)).toInt) => by omega) (fun _ => ?_)
          refine ev_gK A hp [] 5 ?_
          refine And.intro (ev_iin hB.1 h24 (by decide)) ?_
          show ev_J w ev_m84 (ev_nd 84) Q 66 [ev_vr 219, ev_vr 217, ev_vr 209, ev_vr 40, ev_vn p, ev_vn y] [.ref (221 + 2 * (mk 219 1).toNatClampNeg)] mk t
          rw [ev_at hB.1 (by omega)]
          refine ev_gK A hp [75] 10 ?_
          refine ev_S22 A hy ?_
          refine ev_S13 A (ev_isLb24 h24) (ev_isLf hy) (by omega) (by decide) (by decide) hFl.1 (by omega) (by omega) (fun k hk => ?_) (fun m2 y1 y2 y3 => ?_)
          · cases hfy : fo y with
            | none => rw [hfy] at hF; have hF2 : (mk (45 + 4 * y) 1).toInt = -1 := hF; omega
            | some l =>
              rw [hfy] at hF
              have hL : ab_L mk (45 + 4 * y) l := hF
              have hL1 := hL.1
              have h5 := ab_row_ch hL.2 (hEk.2.2.2.2.1 y l hy hyt hfy) (k := k) (by omega)
              rwa [Nat.zero_add] at h5
          · show ev_J w ev_m84 (ev_nd 84) Q 75 [ev_vr 219, ev_vr 217, ev_vr 209, ev_vr 40, ev_vn p, ev_vn y] [] m2 t
            refine ev_gK A hp [85] 10 ?_
            have hF2 : ab_F m2 (221 + 2 * (ab_bl o T fo R p).length) (fo y) := by
              cases hfy : fo y with
              | none => rw [hfy] at hF; exact y1.trans hF
              | some l =>
                rw [hfy] at hF
                have hL : ab_L mk (45 + 4 * y) l := hF
                have hL1 := hL.1
                exact ⟨y1.trans hL1, fun k hk => by rw [Nat.zero_add, y2 k (by omega)]; have := hL.2 k hk; rwa [Nat.zero_add] at this⟩
            have ec : m2 219 1 = Int32.ofNat (ab_bl o T fo R p).length := by rw [y3 _ _ (by omega) (by omega)]; exact hB.1
            refine h85 _ _ (fun c i z => by rw [ev_up_cell _ (by omega), y3 c i (by omega) (by omega)]; exact hf c i z) ?_
            rw [e1]
            refine ab_B_app hB h24 ?_ (ab_F_cong (fun j => ev_up_cell _ (by omega) _ _ _) (fun j => ev_up_cell _ (by omega) _ _ _) hF2) (fun c i z1 z2 z3 => ?_)
            · rw [ev_up_same, ec]; exact ev_succ (by omega)
            · exact (if_neg z1).trans (y3 c i z2 (by omega))
      · rw [e269, em1] at h2
        cases hR2 : R p with
        | none => rw [hR2] at h2; exact absurd rfl h2
        | some f =>
          have e1 : ab_bl1 o T fo R p = ab_bu1 o f := by unfold ab_bl1; rw [hR2]
          rw [hR2] at e269
          refine ev_gK A hp [] 6 ?_
          refine And.intro (ev_oin (by omega) (by decide)) ?_
          show ev_J w ev_m84 (ev_nd 84) Q 45 [ev_vr 219, ev_vr 217, ev_vr 209, ev_vr 40, ev_vn p, ev_vi (ab_oi (ab_lem T p))] [.int (mk 269 (Int32.ofNat p).toNatClampNeg), .ref 217, .ref 219] mk t
          rw [e269]
          refine ev_gK A hp [85] 10 ?_
          refine ev_S85 A Ok ho (hRl p f hR2) hB (by omega) (fun m2 f2 B2 => ?_)
          exact h85 _ m2 (ab_frb_tr hf f2) (by rw [e1]; exact B2))
  refine ⟨Or.inr ⟨219, _, rfl, rfl⟩, ev_m84, rfl, ev_gK A hp [8] 20 ?_⟩
  exact loop 0 (by omega) _ _ _ rfl (fun c i z => ev_up_cell _ (by omega) _ _ _) ⟨ev_up_same _ _ _ _, fun i hi => absurd hi (Nat.not_lt_zero _)⟩
end EvReader3
end
section
/-! the class's reader: all of a sheet -/
section EvReader4
variable {w : ev_W} {Q : ev_QT} {m : ev_Mem} {t : ev_H}
def ab_es (o : ab_Ls) (T : ab_T) (fo : Nat → Option ab_Ls) (v : Nat) : Nat → Nat → Nat → (Nat → Option Nat) → Nat ⊕ (Nat → Option Nat)
  | 0, _, _, R => .inr R
  | e + 1, n, pm, R => if n < o.length then (match ab_en o T fo v pm n with
    | .inl q => .inl q
    | .inr (n3, q, rp) => ab_es o T fo v e n3 (q + 1) (ab_upo R q rp)) else .inr R
theorem ev_exN (x : Int32) : ∃ n, x = Int32.ofNat n := by
  have e : ∀ u : UInt32, u.toInt32 = Int32.ofNat u.toNat := by
    intro u
    have h : UInt32.ofNat u.toNat = u := UInt32.ofNat_toNat
    exact (congrArg UInt32.toInt32 h).symm.trans rfl
  exact ⟨x.toUInt32.toNat, (Int32.toInt32_toUInt32 x).symm.trans (e _)⟩
theorem ab_gr_a {o : ab_Ls} {js : List Nat} {sn n n4 h a : Nat} (hg : ab_gr o js sn n = .inr (n4, h, a)) : a < o.length := by
  unfold ab_gr at hg
  split at hg
  · split at hg
    · cases hg
    · rename_i n2 hr
      split at hg
      · split at hg
        · cases hg
        · cases hg
          have := ab_rr_le hr
          omega
      · cases hg
  · cases hg
theorem ab_gs_rp {o : ab_Ls} {js : List Nat} {v : Nat} : ∀ (g n sn : Nat) (rp : Option Nat) (n3 : Nat) (rp' : Option Nat), ab_gs o js v g n sn rp = .inr (n3, rp') → (∀ f, rp = some f → f < o.length) → ∀ f, rp' = some f → f < o.length
  | 0, _, _, _, _, _, h, _, _, _ => by rw [ab_gs] at h; cases h
  | g + 1, n, sn, rp, n3, rp', h, hrp, f, hf => by
    rw [ab_gs] at h
    split at h
    · cases h
    · rename_i n4 hh a hgr
      have ha := ab_gr_a hgr
      have hnew : ∀ f, (if hh.testBit v = true then some a else rp) = some f → f < o.length := by
        intro f hf
        split at hf
        · cases hf; exact ha
        · exact hrp f hf
      split at h
      · injection h with h
        injection h with h1 h2
        rw [← h2] at hf
        exact hnew f hf
      · split at h
        · exact ab_gs_rp g _ _ _ _ _ h hnew f hf
        · cases h
theorem ab_en_rp {o : ab_Ls} {T : ab_T} {fo : Nat → Option ab_Ls} {v pm n n3 q : Nat} {rp : Option Nat} (h : ab_en o T fo v pm n = .inr (n3, q, rp)) : ∀ f, rp = some f → f < o.length := by
  unfold ab_en at h
  split at h
  · cases h
  · split at h
    · split at h
      · cases h
      · split at h
        · split at h
          · cases h
          · rename_i hgs
            cases h
            exact ab_gs_rp _ _ _ _ _ _ hgs (fun f hf => by cases hf)
        · cases h
    · cases h
/-- Reader.read -/
theorem ev_S75 {v : Nat} {o : ab_Ls} {T : ab_T} {fo : Nat → Option ab_Ls} (A : ev_all w) (hE : ab_E m T fo) (hO : ab_O m o) (ho : ab_Ook o) (hv : v < 4)
    (h0 : ∀ e, ab_es o T fo v 25 0 0 (fun _ => none) = .inl e → ∀ m', ab_frd m m' → Q (.inl (some (.int (Int32.ofNat e)))) m' t)
    (h1 : ∀ R, ab_es o T fo v 25 0 0 (fun _ => none) = .inr R → ∀ m', (∀ c i, ¬ (219 ≤ c ∧ c ≤ 269) → m' c i = m c i) → ab_B m' (ab_bl o T fo R T.1) → Q (.inl (some (.int (-1)))) m' t) : ev_K w 75 [.ref 219, .ref 217, .ref 209, .ref 40, .int (Int32.ofNat v)] m t Q := by
  have hp : ev_prog[75]? = some ev_m75 := rfl
  have hlen := ho.1
  have k1 := hE.2.1.1
  have i24 : ((Int8.ofInt 24).toInt32).toInt = 24 := by decide
  obtain ⟨G, hG⟩ : ∃ G, ab_es o T fo v 25 0 0 (fun _ => none) = G := ⟨_, rfl⟩
  rw [hG] at h0 h1
  have h66 : ∀ (mk : ev_Mem) (R : Nat → Option Nat) (ee : Int32), ab_frd m mk → (∀ p, p < 24 → mk 269 p = ab_oi (R p)) → (∀ p f, R p = some f → f < o.length) → G = .inr R → ev_J w ev_m75 (ev_nd 75) Q 66 [ev_vr 219, ev_vr 217, ev_vr 209, ev_vr 40, ev_vn v, ev_vi ee] [] mk t := by
    intro mk R ee fk hR hRl hgR
    refine ev_gK A hp [] 10 ?_
    refine ev_S84 A (ab_E_frd fk hE) (ab_O_frd fk hO) ho hR hRl (fun m' f' B' => ?_)
    exact h1 R hgR m' (fun c i z => by rw [f' c i (by omega)]; exact fk c i (by omega) (by omega)) B'
  have loop := ev_lup (P := fun e => ∀ (ee : Int32) (mk : ev_Mem) (n pm sn : Nat) (R : Nat → Option Nat), ee = Int32.ofNat e → ab_frd m mk → ab_RS mk n pm sn R v → n ≤ o.length → pm ≤ 24 → (∀ p, pm ≤ p → R p = none) → (∀ p f, R p = some f → f < o.length) → G = ab_es o T fo v (25 - e) n pm R → ev_J w ev_m75 (ev_nd 75) Q 27 [ev_vr 219, ev_vr 217, ev_vr 209, ev_vr 40, ev_vn v, ev_vi ee] [] mk t) 25 (by
    intro e he ih ee mk n pm sn R eee fk Sk hn hpm hRn hRl hg
    subst eee
    have ee := ev_ofNat_i (n := e) (by omega)
    have Ok := ab_O_frd fk hO
    have e4 := ev_toI Sk.2.1 (by omega)
    have el := ev_toI Ok.1 (by omega)
    refine ev_gK A hp [34, 66] 10 ?_
    refine And.intro (fun (h : ((Int8.ofInt 24).toInt32).toInt < (Int32.ofNat e).toInt) => ?_) (fun (h : (Int32.ofNat e).toInt ≤ ((Int8.ofInt 24).toInt32).toInt) => ?_)
    · rw [(by omega : 25 - e = 0), ab_es] at hg
      exact h66 mk R _ fk Sk.2.2.2.2 hRl hg
    · obtain ⟨g, hg2⟩ : ∃ g, 25 - e = g + 1 := ⟨25 - e - 1, by omega⟩
      rw [hg2, ab_es] at hg
      refine ev_gK A hp [45, 66] 10 ?_
      refine ev_S69 A ?_
      refine And.intro (fun (h : (mk 217 1).toInt ≤ (mk 219 4).toInt) => ?_) (fun (h : (mk 219 4).toInt < (mk 217 1).toInt) => ?_)
      · rw [if_neg (by omega)] at hg
        exact h66 mk R _ fk Sk.2.2.2.2 hRl hg
      · rw [if_pos (by omega)] at hg
        refine ev_gK A hp [27] 20 ?_
        refine ev_S76 A (ab_E_frd fk hE) Ok ho Sk hn hpm hv hRn (fun n3 q rp hen hn3 z1 z2 m' sn' f' S' => ?_) (fun q hen m' f' z => ?_)
        · simp only [hen] at hg
          refine And.intro (fun _ => ?_) (fun h => absurd (h : (1 : Int32).toInt = 0) ev_ne10)
          refine ih (by omega) _ m' n3 (q + 1) sn' _ (ev_succ (by omega)) (ab_frd_tr fk f') S' hn3 (by omega) (fun p hp => ?_) (fun p f hpf => ?_) (by rw [hg, (by omega : 25 - (e + 1) = g)])
          · unfold ab_upo
            rw [if_neg (by omega)]
            exact hRn p (by omega)
          · unfold ab_upo at hpf
            split at hpf
            · exact ab_en_rp hen f hpf
            · exact hRl p f hpf
        · simp only [hen] at hg
          refine And.intro (fun h => absurd ev_eq00 h) (fun _ => ?_)
          show Q (.inl (some (.int (m' 219 4)))) m' t
          rw [z]
          exact h0 q hg m' (ab_frd_tr fk f'))
  refine ⟨Or.inr ⟨219, _, rfl, rfl⟩, ev_m75, rfl, ev_gK A hp [27] 30 ?_⟩
  show ev_K w 2 [.ref 269, .int (-1)] (ev_up (ev_up (ev_up m 219 3 (Int32.ofNat v)) 219 4 (Int32.ofNat 0)) 219 5 (-1)) t _
  refine ev_S2_269 A ?_
  obtain ⟨sn, hsn⟩ := ev_exN (m 219 6)
  have fr : ab_frd m (ab_fill (ev_up (ev_up (ev_up m 219 3 (Int32.ofNat v)) 219 4 (Int32.ofNat 0)) 219 5 (-1)) 269 24 (-1)) := fun c i z1 z2 => by
    have e1 : ab_fill (ev_up (ev_up (ev_up m 219 3 (Int32.ofNat v)) 219 4 (Int32.ofNat 0)) 219 5 (-1)) 269 24 (-1) c i = ev_up (ev_up (ev_up m 219 3 (Int32.ofNat v)) 219 4 (Int32.ofNat 0)) 219 5 (-1) c i := if_neg (fun q => z1 q.1)
    rw [e1]
    exact ab_frd_tr (ab_frd_tr (ab_frd_up (by decide)) (ab_frd_up (by decide))) (ab_frd_up (by decide)) c i z1 z2
  have hne : ∀ i, ab_fill (ev_up (ev_up (ev_up m 219 3 (Int32.ofNat v)) 219 4 (Int32.ofNat 0)) 219 5 (-1)) 269 24 (-1) 219 i = ev_up (ev_up (ev_up m 219 3 (Int32.ofNat v)) 219 4 (Int32.ofNat 0)) 219 5 (-1) 219 i := fun i => if_neg (fun q => absurd q.1 (by decide))
  refine loop 0 (by omega) _ _ 0 0 sn (fun _ => none) rfl fr ⟨?_, ?_, ?_, ?_, fun p hp => ?_⟩ (by omega) (by omega) (fun _ _ => rfl) (fun _ _ h => by cases h) hG.symm
  · rw [hne, ev_up_idx _ _ (by decide), ev_up_idx _ _ (by decide), ev_up_same]
  · rw [hne, ev_up_idx _ _ (by decide), ev_up_same]
  · rw [hne, ev_up_same]; rfl
  · rw [hne, ev_up_idx _ _ (by decide), ev_up_idx _ _ (by decide), ev_up_idx _ _ (by decide)]; exact hsn
  · exact if_pos ⟨rfl, hp⟩
/-- Reader.builtCount -/
theorem ev_S86 (A : ev_all w) (hQ : Q (.inl (some (.int (m 219 1)))) m t) : ev_K w 86 [.ref 219] m t Q :=
  ⟨Or.inr ⟨219, [], rfl, rfl⟩, ev_m86, rfl, ev_gK A (k := 86) rfl [] 20 hQ⟩
/-- what stands in what is built -/
def ab_blt (bl : List (Option ab_Ls)) (i k : Int32) : Int32 := if 0 ≤ i.toInt ∧ i.toInt < (bl.length : Int) then (match bl.getD i.toInt.toNat none with
  | none => if k.toInt = 0 then 63 else -1
  | some l => if 0 ≤ k.toInt ∧ k.toInt < (l.length : Int) then l.getD k.toInt.toNat 0 else -1) else -1
def ab_Bok (bl : List (Option ab_Ls)) : Prop := bl.length ≤ 24 ∧ ∀ l, some l ∈ bl → l.length ≤ 12 ∧ ab_az l
/-- Reader.builtLetter -/
theorem ev_S74 {i k : Int32} {bl : List (Option ab_Ls)} (A : ev_all w) (hB : ab_B m bl) (hok : ab_Bok bl) (hQ : Q (.inl (some (.int (ab_blt bl i k)))) m t) : ev_K w 74 [.ref 219, .int i, .int k] m t Q := by
  have hp : ev_prog[74]? = some ev_m74 := rfl
  have e1 := ev_toI hB.1 (by have := hok.1; omega)
  have h24 := hok.1
  unfold ab_blt at hQ
  refine ⟨Or.inr ⟨219, _, rfl, rfl⟩, ev_m74, rfl, ev_gK A hp [14] 10 ?_⟩
  refine And.intro (fun (h : i.toInt < 0) => ?_) (fun (h : 0 ≤ i.toInt) => ?_)
  · rw [if_neg (by omega)] at hQ
    exact hQ
  refine And.intro (fun (h2 : i.toInt < (m 219 1).toInt) => ?_) (fun (h2 : (m 219 1).toInt ≤ i.toInt) => ?_)
  · rw [if_pos (by omega)] at hQ
    have ei : i = Int32.ofNat i.toInt.toNat := (ev_ofNat_toNat h).symm
    obtain ⟨n, hn⟩ : ∃ n, i.toInt.toNat = n := ⟨_, rfl⟩
    rw [hn] at hQ ei
    have hnl : n < bl.length := by omega
    have hx := ev_isLb24 (r := n) (by omega)
    have hF := hB.2 n hnl
    have hmem : bl.getD n none ∈ bl := by
      rw [List.getD_eq_getElem?_getD, List.getElem?_eq_getElem hnl]
      exact List.getElem_mem hnl
    refine ev_gK A hp [] 4 ?_
    refine And.intro (ev_iin ei (by omega) (by decide)) ?_
    show ev_J w ev_m74 (ev_nd 74) Q 20 [ev_vr 219, ev_vi i, ev_vi k, none] [.ref (221 + 2 * i.toNatClampNeg)] m t
    rw [ev_at ei (by omega)]
    refine ev_gK A hp [39] 20 ?_
    refine ev_S4 A hx ?_
    cases hb : bl.getD n none with
    | none =>
      rw [hb] at hF hQ
      have hF2 : (m (221 + 2 * n) 1).toInt = -1 := hF
      rw [if_pos hF2]
      refine And.intro (fun h3 => absurd (h3 : (1 : Int32).toInt = 0) ev_ne10) (fun _ => ?_)
      refine And.intro (fun (h3 : ¬ k.toInt = 0) => ?_) (fun (h3 : k.toInt = 0) => ?_)
      · simp only [if_neg h3] at hQ
        exact hQ
      · simp only [if_pos h3] at hQ
        exact hQ
    | some l =>
      rw [hb] at hF hQ hmem
      have hL : ab_L m (221 + 2 * n) l := hF
      have hL1 := hL.1
      obtain ⟨l12, laz⟩ := hok.2 l hmem
      rw [if_neg (by omega)]
      refine And.intro (fun _ => ?_) (fun h3 => absurd ev_eq00 h3)
      show ev_J w ev_m74 (ev_nd 74) Q 39 [ev_vr 219, ev_vi i, ev_vi k, ev_vr (221 + 2 * n)] [] m t
      refine ev_gK A hp [] 20 ?_
      refine And.intro (fun (h3 : k.toInt < 0) => ?_) (fun (h3 : 0 ≤ k.toInt) => ?_)
      · simp only [if_neg (show ¬ (0 ≤ k.toInt ∧ k.toInt < (l.length : Int)) by omega)] at hQ
        exact hQ
      refine ev_S5 A hx ?_
      refine And.intro (fun (h4 : (m (221 + 2 * n) 1).toInt ≤ k.toInt) => ?_) (fun (h4 : k.toInt < (m (221 + 2 * n) 1).toInt) => ?_)
      · simp only [if_neg (show ¬ (0 ≤ k.toInt ∧ k.toInt < (l.length : Int)) by omega)] at hQ
        exact hQ
      · simp only [if_pos (show (0 ≤ k.toInt ∧ k.toInt < (l.length : Int)) by omega)] at hQ
        have hv : m (221 + 2 * n + 1) k.toNatClampNeg = l.getD k.toInt.toNat 0 := by
          have h5 := hL.2 k.toInt.toNat (by omega)
          rw [Nat.zero_add] at h5
          exact h5
        have haz := laz _ (ab_getD_mem (l := l) (k := k.toInt.toNat) (by omega))
        refine ev_S6 A hx ⟨h3, by omega⟩ (by rw [hv]; exact ab_c16_ch ⟨by omega, by omega⟩) ?_
        rw [hv]
        exact hQ
  · rw [if_neg (by omega)] at hQ
    exact hQ
end EvReader4
end
section
/-! the class's finder of blocks -/
section EvBlocks
variable {w : ev_W} {Q : ev_QT} {m : ev_Mem} {t : ev_H}
/-- Math.max -/
theorem ev_S1 {a b : Nat} (A : ev_all w) (ha : a < 100000) (hb : b < 100000) (hQ : Q (.inl (some (.int (Int32.ofNat (max a b))))) m t) : ev_K w 1 [.int (Int32.ofNat a), .int (Int32.ofNat b)] m t Q := by
  have hp : ev_prog[1]? = some ev_m1 := rfl
  have ea := ev_ofNat_i (n := a) (by omega)
  have eb := ev_ofNat_i (n := b) (by omega)
  refine ⟨Or.inl rfl, ev_m1, rfl, ev_gK A hp [] 10 ?_⟩
  refine And.intro (fun (h : (Int32.ofNat a).toInt < (Int32.ofNat b).toInt) => ?_) (fun (h : (Int32.ofNat b).toInt ≤ (Int32.ofNat a).toInt) => ?_)
  · rw [Nat.max_eq_right (by omega)] at hQ
    exact hQ
  · rw [Nat.max_eq_left (by omega)] at hQ
    exact hQ
def ab_nb (T : ab_T) (u i v : Nat) : Option Nat := match (List.range T.1).find? (fun p => decide (T.2.1 p u = some i)) with
  | some p => T.2.1 p v
  | none => none
theorem ab_nb_lt {T : ab_T} (hok : ab_Tok T) {u i v j : Nat} (h : ab_nb T u i v = some j) : j < 10 := by
  unfold ab_nb at h
  split at h
  · exact hok.2.1 _ _ _ h
  · cases h
/-- which words are equal -/
def ab_EQ (m : ev_Mem) (eq : Nat → Nat → Bool) : Prop := ∀ x y, x < 40 → y < 40 → ab_th m x = true → ab_th m y = true → ((m 205 x).toInt = (m 205 y).toInt ↔ eq x y = true)
def ab_mv (T : ab_T) (th : Nat → Bool) (fo : Nat → Option ab_Ls) (eq : Nat → Nat → Bool) (x y : Nat) : Bool := th x && th y && (fo x).isSome && eq x y && decide (¬ ab_nb T (x / 10) (x % 10) (y / 10) = some (y % 10))
/-- BlockFinder.isMoved -/
theorem ev_S89 {x y : Nat} {T : ab_T} {fo : Nat → Option ab_Ls} {eq : Nat → Nat → Bool} (A : ev_all w) (hE : ab_E m T fo) (hEq : ab_EQ m eq) (hx : x < 40) (hy : y < 40) (hQ : Q (.inl (some (.int (ab_bi (ab_mv T (ab_th m) fo eq x y))))) m t) : ev_K w 89 [.ref 209, .ref 40, .int (Int32.ofNat x), .int (Int32.ofNat y)] m t Q := by
  have hp : ev_prog[89]? = some ev_m89 := rfl
  have n10 : ¬ (10 : Int32) = 0 := by decide
  have no : ab_mv T (ab_th m) fo eq x y = false → Q (.inl (some (.int 0))) m t := fun h => by rw [h] at hQ; exact hQ
  refine ⟨Or.inl rfl, ev_m89, rfl, ev_gK A hp [35] 30 ?_⟩
  refine ev_S24 A hx ?_
  refine And.intro (fun h => ⟨rfl, no (by unfold ab_mv; rw [ab_bi_eq h]; rfl)⟩) (fun h => ?_)
  have hxt := ab_bi_neq h
  refine ev_S24 A hy ?_
  refine And.intro (fun h => ⟨rfl, no (by unfold ab_mv; rw [hxt, ab_bi_eq h]; rfl)⟩) (fun h => ?_)
  have hyt := ab_bi_neq h
  obtain ⟨hF, -⟩ := hE.2.2.1 x hx hxt
  have hgap : decide ((m (45 + 4 * x) 1).toInt = -1) = !(fo x).isSome := by
    cases hfx : fo x with
    | none => rw [hfx] at hF; exact decide_eq_true hF
    | some l =>
      rw [hfx] at hF
      have hL1 : (m (45 + 4 * x) 1).toInt = (l.length : Int) := hF.1
      exact decide_eq_false (by omega)
  refine ev_S21 A hx ?_
  rw [hgap]
  refine And.intro (fun h => ?_) (fun h => ?_)
  · have h2 := ab_bi_ne h
    have h3 : (fo x).isSome = false := by cases hb : (fo x).isSome <;> simp_all
    exact ⟨rfl, no (by unfold ab_mv; rw [hxt, hyt, h3]; rfl)⟩
  have h2 := ab_bi_nne h
  have h3 : (fo x).isSome = true := by cases hb : (fo x).isSome <;> simp_all
  refine ev_S25 (a := some x) (b := some y) A (fun z hz => by cases hz; exact hx) (fun z hz => by cases hz; exact hy) ?_
  have heq : ab_eqm m 205 (some x) (some y) = eq x y := by
    have h4 := hEq x y hx hy hxt hyt
    show decide ((m 205 x).toInt = (m 205 y).toInt) = eq x y
    cases hb : eq x y with
    | true => exact decide_eq_true (h4.mpr hb)
    | false => exact decide_eq_false (fun z => by rw [h4.mp z] at hb; cases hb)
  rw [heq]
  refine And.intro (fun h => ?_) (fun h => ⟨rfl, no (by unfold ab_mv; rw [hxt, hyt, h3, ab_bi_nne h]; rfl)⟩)
  have h5 := ab_bi_ne h
  have hmv : ab_mv T (ab_th m) fo eq x y = decide (¬ ab_nb T (x / 10) (x % 10) (y / 10) = some (y % 10)) := by unfold ab_mv; rw [hxt, hyt, h3, h5]; rfl
  rw [hmv] at hQ
  show ev_J w ev_m89 (ev_nd 89) Q 35 [ev_vr 209, ev_vr 40, ev_vn x, ev_vn y] [] m t
  refine ev_gK A hp [] 11 ?_
  refine And.intro n10 (And.intro n10 (And.intro n10 ?_))
  show ev_K w 48 [.ref 209, .int (Int32.ofNat x / 10), .int (Int32.ofNat x - Int32.ofNat x / 10 * 10), .int (Int32.ofNat y / 10)] m t _
  rw [ev_r10 (by omega), ev_d10 (by omega), ev_d10 (by omega)]
  refine ev_S48 A hE.1 hE.2.1 (by omega) (by omega) (by omega) ?_
  show ev_J w ev_m89 (ev_nd 89) Q 51 [ev_vr 209, ev_vr 40, ev_vn x, ev_vn y] [.int (ab_oi (ab_nb T (x / 10) (x % 10) (y / 10)))] m t
  refine ev_gK A hp [] 3 ?_
  refine And.intro n10 ?_
  show ev_J w ev_m89 (ev_nd 89) Q 55 [ev_vr 209, ev_vr 40, ev_vn x, ev_vn y] [.int (Int32.ofNat y - Int32.ofNat y / 10 * 10), .int (ab_oi (ab_nb T (x / 10) (x % 10) (y / 10)))] m t
  rw [ev_r10 (by omega)]
  refine ev_gK A hp [] 10 ?_
  refine And.intro (fun (h : (ab_oi (ab_nb T (x / 10) (x % 10) (y / 10))).toInt = (Int32.ofNat (y % 10)).toInt) => ?_) (fun (h : ¬ (ab_oi (ab_nb T (x / 10) (x % 10) (y / 10))).toInt = (Int32.ofNat (y % 10)).toInt) => ?_)
  · have h6 : ab_nb T (x / 10) (x % 10) (y / 10) = some (y % 10) := ab_oi_inj (fun z hz => by have := ab_nb_lt hE.2.1 hz; omega) (fun z hz => by cases hz; omega) (h.trans rfl)
    rw [decide_eq_false (fun z => z h6)] at hQ
    exact ⟨rfl, hQ⟩
  · have h7 : ¬ ab_nb T (x / 10) (x % 10) (y / 10) = some (y % 10) := fun z => h (by rw [z]; rfl)
    rw [decide_eq_true h7] at hQ
    exact ⟨rfl, hQ⟩
def ab_cnt (g : Nat → Bool) : Nat → Nat → Nat
  | 0, _ => 0
  | n + 1, k => if g k = true then ab_cnt g n (k + 1) + 1 else 0
theorem ab_cnt_le (g : Nat → Bool) : ∀ n k, ab_cnt g n k ≤ n
  | 0, _ => Nat.le_refl _
  | n + 1, k => by
    have h := ab_cnt_le g n (k + 1)
    rw [ab_cnt]
    split <;> omega
/-- BlockFinder.movedRun -/
theorem ev_S90 {x y : Nat} {T : ab_T} {fo : Nat → Option ab_Ls} {eq : Nat → Nat → Bool} (A : ev_all w) (hE : ab_E m T fo) (hEq : ab_EQ m eq) (hx : x < 40) (hy : y < 40) (hQ : Q (.inl (some (.int (Int32.ofNat (ab_cnt (fun n => ab_mv T (ab_th m) fo eq (x + n) (y + n)) (10 - max (x % 10) (y % 10)) 0))))) m t) : ev_K w 90 [.ref 209, .ref 40, .int (Int32.ofNat x), .int (Int32.ofNat y)] m t Q := by
  have hp : ev_prog[90]? = some ev_m90 := rfl
  have n10 : ¬ (10 : Int32) = 0 := by decide
  obtain ⟨M, hM⟩ : ∃ M, 10 - max (x % 10) (y % 10) = M := ⟨_, rfl⟩
  have hMb : M ≤ 10 ∧ x % 10 + M ≤ 10 ∧ y % 10 + M ≤ 10 := by omega
  rw [hM] at hQ
  have eM := ev_ofNat_i (n := M) (by omega)
  have loop := ev_lup (P := fun k => ∀ kk : Int32, kk = Int32.ofNat k → ab_cnt (fun n => ab_mv T (ab_th m) fo eq (x + n) (y + n)) M 0 = k + ab_cnt (fun n => ab_mv T (ab_th m) fo eq (x + n) (y + n)) (M - k) k → ev_J w ev_m90 (ev_nd 90) Q 19 [ev_vr 209, ev_vr 40, ev_vn x, ev_vn y, ev_vn M, ev_vi kk] [] m t) M (by
    intro k hk ih kk ekk hc
    subst ekk
    have ek := ev_ofNat_i (n := k) (by omega)
    refine ev_gK A hp [26, 48] 10 ?_
    refine And.intro (fun (h : (Int32.ofNat M).toInt ≤ (Int32.ofNat k).toInt) => ?_) (fun (h : (Int32.ofNat k).toInt < (Int32.ofNat M).toInt) => ?_)
    · rw [(by omega : M - k = 0), ab_cnt] at hc
      rw [hc] at hQ
      exact ev_gK A hp [] 10 hQ
    · obtain ⟨j, hj⟩ : ∃ j, M - k = j + 1 := ⟨M - k - 1, by omega⟩
      rw [hj, ab_cnt] at hc
      refine ev_gK A hp [] 5 ?_
      show ev_J w ev_m90 (ev_nd 90) Q 32 [ev_vr 209, ev_vr 40, ev_vn x, ev_vn y, ev_vn M, ev_vn k] [.int (Int32.ofNat x + Int32.ofNat k), .ref 40, .ref 209] m t
      rw [ev_addN (by omega)]
      refine ev_gK A hp [] 3 ?_
      show ev_J w ev_m90 (ev_nd 90) Q 36 [ev_vr 209, ev_vr 40, ev_vn x, ev_vn y, ev_vn M, ev_vn k] [.int (Int32.ofNat y + Int32.ofNat k), .int (Int32.ofNat (x + k)), .ref 40, .ref 209] m t
      rw [ev_addN (by omega)]
      refine ev_gK A hp [19, 48] 10 ?_
      refine ev_S89 A hE hEq (by omega) (by omega) ?_
      refine And.intro (fun h => ?_) (fun h => ?_)
      · rw [if_neg (by rw [ab_bi_eq h]; exact Bool.false_ne_true)] at hc
        rw [hc] at hQ
        exact ev_gK A hp [] 10 hQ
      · rw [if_pos (ab_bi_neq h)] at hc
        refine ih (by omega) _ (ev_succ (by omega)) ?_
        rw [hc, (by omega : M - (k + 1) = j)]
        omega)
  refine ⟨Or.inl rfl, ev_m90, rfl, ev_gK A hp [] 7 ?_⟩
  refine And.intro n10 (And.intro n10 ?_)
  show ev_J w ev_m90 (ev_nd 90) Q 10 [ev_vr 209, ev_vr 40, ev_vn x, ev_vn y, none, none] [.int (Int32.ofNat y - Int32.ofNat y / 10 * 10), .int (Int32.ofNat x - Int32.ofNat x / 10 * 10), .int (Int32.ofNat 10)] m t
  rw [ev_r10 (by omega), ev_r10 (by omega)]
  refine ev_gK A hp [] 1 ?_
  refine ev_S1 A (by omega) (by omega) ?_
  refine ev_gK A hp [19] 10 ?_
  have e10 : Int32.ofNat 10 - Int32.ofNat (max (x % 10) (y % 10)) = Int32.ofNat M := by
    have e1 := ev_ofNat_i (n := 10) (by omega)
    have e2 := ev_ofNat_i (n := max (x % 10) (y % 10)) (by omega)
    apply ev_eq_of
    rw [ev_sub_i (by omega) (by omega), e1, e2, eM]
    omega
  show ev_J w ev_m90 (ev_nd 90) Q 19 [ev_vr 209, ev_vr 40, ev_vn x, ev_vn y, ev_vi (Int32.ofNat 10 - Int32.ofNat (max (x % 10) (y % 10))), ev_vn 0] [] m t
  rw [e10]
  exact loop 0 (by omega) _ rfl (by rw [Nat.zero_add]; rfl)
/-- the blocks found -/
def ab_K (m : ev_Mem) (bs : List (Nat × Nat × Nat)) : Prop := m 271 1 = Int32.ofNat bs.length ∧ ∀ k, k < bs.length → m 272 (3 * k) = Int32.ofNat (bs.getD k (0, 0, 0)).1 ∧ m 272 (3 * k + 1) = Int32.ofNat (bs.getD k (0, 0, 0)).2.1 ∧ m 272 (3 * k + 2) = Int32.ofNat (bs.getD k (0, 0, 0)).2.2
def ab_frk (m m' : ev_Mem) : Prop := ∀ c i, c ≠ 271 → c ≠ 272 → m' c i = m c i
theorem ev_tri {a b : Nat} (ha : a < 1000) (hb : b < 1000) : Int32.ofNat a * 3 + Int32.ofNat b = Int32.ofNat (3 * a + b) := by
  apply ev_eq_of
  have e4 : (3 : Int32).toInt = 3 := by decide
  have ea := ev_ofNat_i (n := a) (by omega)
  have eb := ev_ofNat_i (n := b) (by omega)
  have e1 : (Int32.ofNat a * 3).toInt = (a : Int) * 3 := by rw [ev_mul_i (by rw [ea, e4]; omega) (by rw [ea, e4]; omega), ea, e4]
  rw [ev_add_i (by omega) (by omega), e1, eb, ev_ofNat_i (by omega)]
  omega
/-- BlockFinder.keep -/
theorem ev_S91 {i j n : Nat} {bs : List (Nat × Nat × Nat)} (A : ev_all w) (hK : ab_K m bs) (hb : 2 ≤ n → bs.length < 50) (hb2 : bs.length ≤ 50) (hn : n ≤ 10) (hQ : ∀ m', ab_frk m m' → ab_K m' (bs ++ if 2 ≤ n then [(i, j, n)] else []) → Q (.inl none) m' t) : ev_K w 91 [.ref 271, .int (Int32.ofNat i), .int (Int32.ofNat j), .int (Int32.ofNat n)] m t Q := by
  have hp : ev_prog[91]? = some ev_m91 := rfl
  have en := ev_ofNat_i (n := n) (by omega)
  have i2 : (Int32.ofInt 2).toInt = 2 := by decide
  have i50 : ((Int8.ofInt 50).toInt32).toInt = 50 := by decide
  have e1 := ev_toI hK.1 (by omega)
  have eb := hK.1
  refine ⟨Or.inr ⟨271, _, rfl, rfl⟩, ev_m91, rfl, ev_gK A hp [14, 64] 10 ?_⟩
  refine And.intro (fun (h : (Int32.ofNat n).toInt < (Int32.ofInt 2).toInt) => ?_) (fun (h : (Int32.ofInt 2).toInt ≤ (Int32.ofNat n).toInt) => ?_)
  · rw [if_neg (by omega), List.append_nil] at hQ
    exact ev_gK A hp [] 10 (hQ m (fun _ _ _ _ => rfl) hK)
  have h2n : 2 ≤ n := by omega
  have hlt := hb h2n
  rw [if_pos h2n] at hQ
  refine And.intro (fun (h : ((Int8.ofInt 50).toInt32).toInt ≤ (m 271 1).toInt) => by omega) (fun _ => ?_)
  have x0 : ∀ m1 : ev_Mem, m1 271 1 = Int32.ofNat bs.length → m1 271 1 * Int32.ofInt 3 = Int32.ofNat (3 * bs.length) := fun m1 h => by
    rw [h]
    have h3 := ev_tri (a := bs.length) (b := 0) (by omega) (by omega)
    rw [Nat.add_zero] at h3
    rw [← h3]
    apply ev_eq_of
    have e0 : (Int32.ofNat 0).toInt = 0 := by decide
    have ex : (Int32.ofNat bs.length * 3).toInt = (bs.length : Int) * 3 := by
      have e4 : (3 : Int32).toInt = 3 := by decide
      have ea := ev_ofNat_i (n := bs.length) (by omega)
      rw [ev_mul_i (by rw [ea, e4]; omega) (by rw [ea, e4]; omega), ea, e4]
    rw [ev_add_i (by omega) (by omega), e0]
    show (Int32.ofNat bs.length * 3).toInt = _
    omega
  have x1 : ∀ (m1 : ev_Mem) (c : Nat), m1 271 1 = Int32.ofNat bs.length → c < 3 → m1 271 1 * Int32.ofInt 3 + Int32.ofNat c = Int32.ofNat (3 * bs.length + c) := fun m1 c h hc => by rw [h]; exact ev_tri (by omega) (by omega)
  show ev_J w ev_m91 (ev_nd 91) Q 14 [ev_vr 271, ev_vn i, ev_vn j, ev_vn n] [] m t
  refine ev_gK A hp [26] 20 ?_
  refine And.intro (ev_iin (x0 m eb) (by omega) (by decide)) ?_
  show ev_J w ev_m91 (ev_nd 91) Q 26 [ev_vr 271, ev_vn i, ev_vn j, ev_vn n] [] (ev_up m 272 (m 271 1 * Int32.ofInt 3).toNatClampNeg (Int32.ofNat i)) t
  rw [ev_at (x0 m eb) (by omega)]
  have eb1 : ev_up m 272 (3 * bs.length) (Int32.ofNat i) 271 1 = Int32.ofNat bs.length := by rw [ev_up_cell _ (by decide)]; exact eb
  refine ev_gK A hp [40] 20 ?_
  refine And.intro (ev_iin (x1 _ 1 eb1 (by decide)) (by omega) (by decide)) ?_
  show ev_J w ev_m91 (ev_nd 91) Q 40 [ev_vr 271, ev_vn i, ev_vn j, ev_vn n] [] (ev_up (ev_up m 272 (3 * bs.length) (Int32.ofNat i)) 272 (ev_up m 272 (3 * bs.length) (Int32.ofNat i) 271 1 * Int32.ofInt 3 + Int32.ofNat 1).toNatClampNeg (Int32.ofNat j)) t
  rw [ev_at (x1 _ 1 eb1 (by decide)) (by omega)]
  have eb2 : ev_up (ev_up m 272 (3 * bs.length) (Int32.ofNat i)) 272 (3 * bs.length + 1) (Int32.ofNat j) 271 1 = Int32.ofNat bs.length := by rw [ev_up_cell _ (by decide)]; exact eb1
  refine ev_gK A hp [54] 20 ?_
  refine And.intro (ev_iin (x1 _ 2 eb2 (by decide)) (by omega) (by decide)) ?_
  show ev_J w ev_m91 (ev_nd 91) Q 54 [ev_vr 271, ev_vn i, ev_vn j, ev_vn n] [] (ev_up (ev_up (ev_up m 272 (3 * bs.length) (Int32.ofNat i)) 272 (3 * bs.length + 1) (Int32.ofNat j)) 272 (ev_up (ev_up m 272 (3 * bs.length) (Int32.ofNat i)) 272 (3 * bs.length + 1) (Int32.ofNat j) 271 1 * Int32.ofInt 3 + Int32.ofNat 2).toNatClampNeg (Int32.ofNat n)) t
  rw [ev_at (x1 _ 2 eb2 (by decide)) (by omega)]
  refine ev_gK A hp [] 20 ?_
  refine hQ _ (fun c k z1 z2 => by rw [ev_up_cell _ z1, ev_up_cell _ z2, ev_up_cell _ z2, ev_up_cell _ z2]) ⟨?_, fun k hk => ?_⟩
  · rw [ev_up_same, ev_up_cell _ (by decide), ev_up_cell _ (by decide), ev_up_cell _ (by decide), eb, List.length_append, List.length_singleton]
    exact ev_succ (by omega)
  · rw [List.length_append, List.length_singleton] at hk
    rw [List.getD_eq_getElem?_getD]
    by_cases hkl : k = bs.length
    · rw [hkl, List.getElem?_append_right (Nat.le_refl _), Nat.sub_self]
      refine ⟨?_, ?_, ?_⟩
      · rw [ev_up_cell _ (by decide), ev_up_idx _ _ (by omega), ev_up_idx _ _ (by omega), ev_up_same]; rfl
      · rw [ev_up_cell _ (by decide), ev_up_idx _ _ (by omega), ev_up_same]; rfl
      · rw [ev_up_cell _ (by decide), ev_up_same]; rfl
    · rw [List.getElem?_append_left (by omega), ← List.getD_eq_getElem?_getD]
      obtain ⟨a, b, c⟩ := hK.2 k (by omega)
      refine ⟨?_, ?_, ?_⟩
      · rw [ev_up_cell _ (by decide), ev_up_idx _ _ (by omega), ev_up_idx _ _ (by omega), ev_up_idx _ _ (by omega)]; exact a
      · rw [ev_up_cell _ (by decide), ev_up_idx _ _ (by omega), ev_up_idx _ _ (by omega), ev_up_idx _ _ (by omega)]; exact b
      · rw [ev_up_cell _ (by decide), ev_up_idx _ _ (by omega), ev_up_idx _ _ (by omega), ev_up_idx _ _ (by omega)]; exact c
/-- BlockFinder.count, field -/
theorem ev_S92 (A : ev_all w) (hQ : Q (.inl (some (.int (m 271 1)))) m t) : ev_K w 92 [.ref 271] m t Q :=
  ⟨Or.inr ⟨271, [], rfl, rfl⟩, ev_m92, rfl, ev_gK A (k := 92) rfl [] 20 hQ⟩
theorem ev_S93 {k c : Nat} (A : ev_all w) (hk : k < 50) (hc : c < 3) (hQ : Q (.inl (some (.int (m 272 (3 * k + c))))) m t) : ev_K w 93 [.ref 271, .int (Int32.ofNat k), .int (Int32.ofNat c)] m t Q := by
  have hp : ev_prog[93]? = some ev_m93 := rfl
  refine ⟨Or.inr ⟨271, _, rfl, rfl⟩, ev_m93, rfl, ev_gK A hp [] 20 ?_⟩
  have e : Int32.ofNat k * Int32.ofInt 3 + Int32.ofNat c = Int32.ofNat (3 * k + c) := ev_tri (by omega) (by omega)
  refine And.intro (ev_iin e (by omega) (by decide)) ?_
  show Q (.inl (some (.int (m 272 (Int32.ofNat k * Int32.ofInt 3 + Int32.ofNat c).toNatClampNeg)))) m t
  rw [ev_at e (by omega)]
  exact hQ
end EvBlocks
end
section
/-! the class's finder of blocks: all of them -/
section EvFind
variable {w : ev_W} {Q : ev_QT} {m : ev_Mem} {t : ev_H}
def ab_run2 (f : Nat → Nat → Bool) (i j : Nat) : Nat := ab_cnt (fun n => f (i + n) (j + n)) (10 - max i j) 0
def ab_st (f : Nat → Nat → Bool) (i j : Nat) : Bool := decide ((i = 0 ∨ j = 0 ∨ f (i - 1) (j - 1) = false) ∧ 2 ≤ ab_run2 f i j)
def ab_bc (f : Nat → Nat → Bool) (i j : Nat) : List (Nat × Nat × Nat) := if ab_st f i j = true then [(i, j, ab_run2 f i j)] else []
def ab_bj (f : Nat → Nat → Bool) (i : Nat) : Nat → List (Nat × Nat × Nat)
  | 0 => []
  | j + 1 => ab_bj f i j ++ ab_bc f i j
def ab_bks (f : Nat → Nat → Bool) (c : Nat) : Nat → List (Nat × Nat × Nat)
  | 0 => []
  | i + 1 => ab_bks f c i ++ ab_bj f i c
theorem ab_bj_len (f : Nat → Nat → Bool) (i : Nat) : ∀ j, (ab_bj f i j).length = ab_cn (ab_st f i) j
  | 0 => rfl
  | j + 1 => by
    have h := ab_bj_len f i j
    rw [ab_bj, List.length_append, ab_cn, h]
    unfold ab_bc
    split <;> rfl
theorem ab_cn_mono (f : Nat → Bool) : ∀ (n k : Nat), ab_cn f k ≤ ab_cn f (k + n)
  | 0, _ => Nat.le_refl _
  | n + 1, k => by
    have h1 := ab_cn_mono f n k
    rw [← Nat.add_assoc, ab_cn]
    omega
theorem ab_st_two {f : Nat → Nat → Bool} {i j : Nat} (h : ab_st f i j = true) : i < 9 ∧ j < 9 ∧ ab_st f (i + 1) (j + 1) = false := by
  have h1 := of_decide_eq_true h
  have h2 := h1.2
  have h3 := ab_cnt_le (fun n => f (i + n) (j + n)) (10 - max i j) 0
  unfold ab_run2 at h2
  refine ⟨by omega, by omega, decide_eq_false ?_⟩
  rintro ⟨q, -⟩
  obtain ⟨n, hn⟩ : ∃ n, 10 - max i j = n + 1 := ⟨10 - max i j - 1, by omega⟩
  rw [hn, ab_cnt] at h2
  split at h2
  · rename_i hf
    rcases q with q | q | q
    · omega
    · omega
    · rw [Nat.add_sub_cancel, Nat.add_sub_cancel] at q
      rw [Nat.add_zero, Nat.add_zero] at hf
      rw [hf] at q
      cases q
  · omega
theorem ab_st_pair (f : Nat → Nat → Bool) (i : Nat) : ab_cn (ab_st f i) 10 + ab_cn (ab_st f (i + 1)) 10 ≤ 10 := by
  have key : ∀ n, ab_cn (ab_st f i) n + ab_cn (ab_st f (i + 1)) (n + 1) ≤ n + 1 := by
    intro n
    induction n with
    | zero =>
      have h1 := ab_cn_le (ab_st f (i + 1)) (0 + 1)
      have h2 : ab_cn (ab_st f i) 0 = 0 := rfl
      omega
    | succ n ih =>
      have e1 : ab_cn (ab_st f i) (n + 1) = ab_cn (ab_st f i) n + (if ab_st f i n = true then 1 else 0) := rfl
      have e2 : ab_cn (ab_st f (i + 1)) (n + 1 + 1) = ab_cn (ab_st f (i + 1)) (n + 1) + (if ab_st f (i + 1) (n + 1) = true then 1 else 0) := rfl
      rw [e1, e2]
      cases h : ab_st f i n with
      | true =>
        rw [(ab_st_two h).2.2]
        simp only [if_true, Bool.false_eq_true, if_false]
        omega
      | false =>
        simp only [Bool.false_eq_true, if_false]
        split <;> omega
  have h9 : ab_cn (ab_st f i) 9 + ab_cn (ab_st f (i + 1)) 10 ≤ 10 := key 9
  have e : ab_cn (ab_st f i) 10 = ab_cn (ab_st f i) 9 := by
    rw [ab_cn, if_neg (fun h => by have := (ab_st_two h).2.1; omega)]
    rfl
  omega
theorem ab_bks_le (f : Nat → Nat → Bool) {c : Nat} (hc : c ≤ 10) : ∀ k, (ab_bks f c (2 * k)).length ≤ 10 * k
  | 0 => Nat.le_refl _
  | k + 1 => by
    have h := ab_bks_le f hc k
    have h1 := ab_st_pair f (2 * k)
    have e1 := ab_bj_len f (2 * k) c
    have e2 := ab_bj_len f (2 * k + 1) c
    have m1 := ab_cn_mono (ab_st f (2 * k)) (10 - c) c
    have m2 := ab_cn_mono (ab_st f (2 * k + 1)) (10 - c) c
    rw [(by omega : c + (10 - c) = 10)] at m1 m2
    rw [(by omega : 2 * (k + 1) = 2 * k + 1 + 1), ab_bks, ab_bks, List.length_append, List.length_append]
    omega
theorem ab_bks_mono (f : Nat → Nat → Bool) (c : Nat) : ∀ (n k : Nat), (ab_bks f c k).length ≤ (ab_bks f c (k + n)).length
  | 0, _ => Nat.le_refl _
  | n + 1, k => by
    have h1 := ab_bks_mono f c n k
    rw [← Nat.add_assoc, ab_bks, List.length_append]
    omega
theorem ab_bj_mono (f : Nat → Nat → Bool) (i : Nat) : ∀ (n k : Nat), (ab_bj f i k).length ≤ (ab_bj f i (k + n)).length
  | 0, _ => Nat.le_refl _
  | n + 1, k => by
    have h1 := ab_bj_mono f i n k
    rw [← Nat.add_assoc, ab_bj, List.length_append]
    omega
theorem ab_bks_50 (f : Nat → Nat → Bool) {c n : Nat} (hc : c ≤ 10) (hn : n ≤ 10) : (ab_bks f c n).length ≤ 50 := by
  have h1 : (ab_bks f c 10).length ≤ 50 := ab_bks_le f hc 5
  have h2 := ab_bks_mono f c (10 - n) n
  rw [(by omega : n + (10 - n) = 10)] at h2
  omega
/-- BlockFinder.find -/
theorem ev_S88 {u v a b : Nat} {T : ab_T} {fo : Nat → Option ab_Ls} {eq : Nat → Nat → Bool} (A : ev_all w) (hE : ab_E m T fo) (hEq : ab_EQ m eq) (hu : u < 4) (hv : v < 4) (ha : (m 203 u).toInt = (a : Int)) (hb : (m 203 v).toInt = (b : Int)) (ha10 : a ≤ 10) (hb10 : b ≤ 10)
    (hQ : ∀ m', ab_frk m m' → ab_K m' (ab_bks (fun i j => ab_mv T (ab_th m) fo eq (10 * u + i) (10 * v + j)) b a) → Q (.inl (some (.int (Int32.ofNat (ab_bks (fun i j => ab_mv T (ab_th m) fo eq (10 * u + i) (10 * v + j)) b a).length)))) m' t) : ev_K w 88 [.ref 271, .ref 209, .ref 40, .int (Int32.ofNat u), .int (Int32.ofNat v)] m t Q := by
  have hp : ev_prog[88]? = some ev_m88 := rfl
  obtain ⟨f, hf⟩ : ∃ f, (fun i j => ab_mv T (ab_th m) fo eq (10 * u + i) (10 * v + j)) = f := ⟨_, rfl⟩
  have hff : ∀ i j, f i j = ab_mv T (ab_th m) fo eq (10 * u + i) (10 * v + j) := fun i j => by rw [← hf]
  rw [hf] at hQ
  have envE : ∀ mk, ab_frk m mk → ab_E mk T fo ∧ ab_EQ mk eq ∧ ab_th mk = ab_th m := fun mk fk => by
    have hth : ∀ z, ab_th mk z = ab_th m z := ab_th_cong (fun j => fk _ _ (by decide) (by decide))
    refine ⟨ab_E_cong (fun c i _ z => fk c i (by omega) (by omega)) hE, fun x y z1 z2 z3 z4 => ?_, funext hth⟩
    rw [hth] at z3 z4
    rw [fk 205 x (by decide) (by decide), fk 205 y (by decide) (by decide)]
    exact hEq x y z1 z2 z3 z4
  have inner : ∀ i, i < a → (∀ (ii : Int32) (mk : ev_Mem) (o6 : Option Value), ii = Int32.ofNat (i + 1) → ab_frk m mk → ab_K mk (ab_bks f b (i + 1)) → ev_J w ev_m88 (ev_nd 88) Q 8 [ev_vr 271, ev_vr 209, ev_vr 40, ev_vn u, ev_vn v, ev_vi ii, o6] [] mk t) →
      ∀ j, j ≤ b → ∀ (jj : Int32) (mk : ev_Mem), jj = Int32.ofNat j → ab_frk m mk → ab_K mk (ab_bks f b i ++ ab_bj f i j) → ev_J w ev_m88 (ev_nd 88) Q 21 [ev_vr 271, ev_vr 209, ev_vr 40, ev_vn u, ev_vn v, ev_vn i, ev_vi jj] [] mk t := by
    intro i hi kont
    refine ev_lup (P := fun j => ∀ (jj : Int32) (mk : ev_Mem), jj = Int32.ofNat j → ab_frk m mk → ab_K mk (ab_bks f b i ++ ab_bj f i j) → ev_J w ev_m88 (ev_nd 88) Q 21 [ev_vr 271, ev_vr 209, ev_vr 40, ev_vn u, ev_vn v, ev_vn i, ev_vi jj] [] mk t) b (fun j hj ih jj mk ejj fk hK => ?_)
    subst ejj
    have ei := ev_ofNat_i (n := i) (by omega)
    have ej := ev_ofNat_i (n := j) (by omega)
    obtain ⟨eE, eEq, eth⟩ := envE mk fk
    have ebk : (mk 203 v).toInt = (b : Int) := by rw [fk _ _ (by decide) (by decide)]; exact hb
    refine ev_gK A hp [32, 99] 10 ?_
    refine ev_S26 A hv ?_
    refine And.intro (fun (h : (mk 203 v).toInt ≤ (Int32.ofNat j).toInt) => ?_) (fun (h : (Int32.ofNat j).toInt < (mk 203 v).toInt) => ?_)
    · have e : j = b := by omega
      subst e
      refine ev_gK A hp [8] 10 ?_
      exact kont _ mk _ (ev_succ (by omega)) fk (by rw [ab_bks]; exact hK)
    have hjb : j < b := by omega
    have next : ∀ m2 : ev_Mem, ab_frk m m2 → ab_K m2 (ab_bks f b i ++ ab_bj f i j ++ ab_bc f i j) → ev_J w ev_m88 (ev_nd 88) Q 93 [ev_vr 271, ev_vr 209, ev_vr 40, ev_vn u, ev_vn v, ev_vn i, ev_vn j] [] m2 t := by
      intro m2 f2 K2
      refine ev_gK A hp [21] 10 ?_
      refine ih hjb _ m2 (ev_succ (by omega)) f2 ?_
      rw [ab_bj, ← List.append_assoc]
      exact K2
    have h67 : (i = 0 ∨ j = 0 ∨ f (i - 1) (j - 1) = false) → ev_J w ev_m88 (ev_nd 88) Q 67 [ev_vr 271, ev_vr 209, ev_vr 40, ev_vn u, ev_vn v, ev_vn i, ev_vn j] [] mk t := by
      intro hs
      refine ev_gK A hp [93] 30 ?_
      refine ev_S106 A (by omega) (by omega) ?_
      refine ev_S106 A (by omega) (by omega) ?_
      refine ev_S90 A eE eEq (by omega) (by omega) ?_
      have er : ab_cnt (fun n => ab_mv T (ab_th mk) fo eq (10 * u + i + n) (10 * v + j + n)) (10 - max ((10 * u + i) % 10) ((10 * v + j) % 10)) 0 = ab_run2 f i j := by
        unfold ab_run2
        rw [(by omega : (10 * u + i) % 10 = i), (by omega : (10 * v + j) % 10 = j), eth]
        refine congrArg (fun g => ab_cnt g (10 - max i j) 0) (funext (fun n => ?_))
        rw [hff, Nat.add_assoc, Nat.add_assoc]
      rw [er]
      have hle := ab_cnt_le (fun n => f (i + n) (j + n)) (10 - max i j) 0
      have hle2 : ab_run2 f i j ≤ 10 := by unfold ab_run2; omega
      have hbc : ab_bc f i j = if 2 ≤ ab_run2 f i j then [(i, j, ab_run2 f i j)] else [] := by
        unfold ab_bc ab_st
        by_cases h2 : 2 ≤ ab_run2 f i j
        · rw [if_pos h2, decide_eq_true ⟨hs, h2⟩]; rfl
        · rw [if_neg h2, decide_eq_false (fun q => h2 q.2)]; rfl
      have htot := ab_bks_50 f hb10 (n := i + 1) (by omega)
      have hmj := ab_bj_mono f i (b - (j + 1)) (j + 1)
      rw [(by omega : j + 1 + (b - (j + 1)) = b), ab_bj, List.length_append] at hmj
      rw [ab_bks, List.length_append] at htot
      refine ev_S91 A hK (fun h2 => ?_) (by rw [List.length_append]; omega) hle2 (fun m2 f2 K2 => ?_)
      · rw [hbc, if_pos h2, List.length_singleton] at hmj
        rw [List.length_append]; omega
      · exact next m2 (fun c k z1 z2 => (f2 c k z1 z2).trans (fk c k z1 z2)) (by rw [hbc]; exact K2)
    refine ev_gK A hp [42, 67] 10 ?_
    refine And.intro (fun (h : (Int32.ofNat i).toInt = 0) => h67 (Or.inl (by omega))) (fun (h : ¬ (Int32.ofNat i).toInt = 0) => ?_)
    refine And.intro (fun (h : (Int32.ofNat j).toInt = 0) => h67 (Or.inr (Or.inl (by omega)))) (fun (h2 : ¬ (Int32.ofNat j).toInt = 0) => ?_)
    refine ev_gK A hp [] 6 ?_
    show ev_J w ev_m88 (ev_nd 88) Q 49 [ev_vr 271, ev_vr 209, ev_vr 40, ev_vn u, ev_vn v, ev_vn i, ev_vn j] [.int (Int32.ofNat i - 1), .int (Int32.ofNat u), .ref 40, .ref 209] mk t
    rw [ev_pred (by omega) (by omega)]
    refine ev_gK A hp [] 5 ?_
    refine ev_S106 A (by omega) (by omega) ?_
    show ev_J w ev_m88 (ev_nd 88) Q 58 [ev_vr 271, ev_vr 209, ev_vr 40, ev_vn u, ev_vn v, ev_vn i, ev_vn j] [.int (Int32.ofNat j - 1), .int (Int32.ofNat v), .int (Int32.ofNat (10 * u + (i - 1))), .ref 40, .ref 209] mk t
    rw [ev_pred (by omega) (by omega)]
    refine ev_gK A hp [67, 93] 10 ?_
    refine ev_S106 A (by omega) (by omega) ?_
    refine ev_S89 A eE eEq (by omega) (by omega) ?_
    rw [eth, ← hff]
    refine And.intro (fun h => ?_) (fun h => h67 (Or.inr (Or.inr (ab_bi_nne h))))
    have h3 := ab_bi_ne h
    refine next mk fk ?_
    have e0 : ab_bc f i j = [] := by
      unfold ab_bc ab_st
      rw [decide_eq_false (fun q => by rcases q.1 with q | q | q; omega; omega; rw [h3] at q; cases q)]
      rfl
    rw [e0, List.append_nil]
    exact hK
  have outer := ev_lup (P := fun i => ∀ (ii : Int32) (mk : ev_Mem) (o6 : Option Value), ii = Int32.ofNat i → ab_frk m mk → ab_K mk (ab_bks f b i) → ev_J w ev_m88 (ev_nd 88) Q 8 [ev_vr 271, ev_vr 209, ev_vr 40, ev_vn u, ev_vn v, ev_vi ii, o6] [] mk t) a (by
    intro i hi ih ii mk o6 eii fk hK
    subst eii
    have ei := ev_ofNat_i (n := i) (by omega)
    have eak : (mk 203 u).toInt = (a : Int) := by rw [fk _ _ (by decide) (by decide)]; exact ha
    refine ev_gK A hp [21] 20 ?_
    refine ev_S26 A hu ?_
    refine And.intro (fun (h : (mk 203 u).toInt ≤ (Int32.ofNat i).toInt) => ?_) (fun (h : (Int32.ofNat i).toInt < (mk 203 u).toInt) => ?_)
    · have e : i = a := by omega
      subst e
      show Q (.inl (some (.int (mk 271 1)))) mk t
      rw [hK.1]
      exact hQ mk fk hK
    · have hia : i < a := by omega
      exact inner i hia (ih hia) 0 (by omega) _ mk rfl fk (by rw [ab_bj, List.append_nil]; exact hK))
  refine ⟨Or.inr ⟨271, _, rfl, rfl⟩, ev_m88, rfl, ev_gK A hp [8] 20 ?_⟩
  exact outer 0 (by omega) _ _ _ rfl (fun c k z1 _ => ev_up_cell _ z1 _ _ _) ⟨ev_up_same _ _ _ _, fun k hk => absurd hk (Nat.not_lt_zero _)⟩
end EvFind
end
