section
-- ===== PART A: goes FIRST, ahead of the names: the tables' words, and 'selects' of the private methods out of them =====
/-- a private method of a class that the tables say can be made, by its rows of tables_1 -/
def lw_okq (q : MethodName × Nat) : Prop := (q.1.cls ≠ "java/lang/invoke/MethodHandle" ∧ q.1.cls ≠ "java/lang/invoke/VarHandle") ∧ Cond.instantiable q.1.cls q.2 ∈ tables_1 ∧ Cond.privateMethod q.1 ∈ tables_1 ∧ Cond.instanceMethod q.1 ∈ tables_1
theorem lw_p0 : lw_okq (⟨"WitnessBench$Sheet", "writeEntry", "(LWitnessBench$Table;LWitnessBench$Words;IZ)V"⟩, 2) := ⟨⟨by decide +kernel, by decide +kernel⟩, List.mem_of_getElem? (i := 150) (by decide +kernel), List.mem_of_getElem? (i := 306) (by decide +kernel), List.mem_of_getElem? (i := 307) (by decide +kernel)⟩
theorem lw_p1 : lw_okq (⟨"WitnessBench$Sheet", "putNumber", "(I)V"⟩, 2) := ⟨⟨by decide +kernel, by decide +kernel⟩, List.mem_of_getElem? (i := 150) (by decide +kernel), List.mem_of_getElem? (i := 310) (by decide +kernel), List.mem_of_getElem? (i := 311) (by decide +kernel)⟩
theorem lw_p2 : lw_okq (⟨"WitnessBench$Sheet", "put", "(C)V"⟩, 2) := ⟨⟨by decide +kernel, by decide +kernel⟩, List.mem_of_getElem? (i := 150) (by decide +kernel), List.mem_of_getElem? (i := 314) (by decide +kernel), List.mem_of_getElem? (i := 315) (by decide +kernel)⟩
theorem lw_p3 : lw_okq (⟨"WitnessBench$Sheet", "putReading", "(LWitnessBench$Words;I)V"⟩, 2) := ⟨⟨by decide +kernel, by decide +kernel⟩, List.mem_of_getElem? (i := 150) (by decide +kernel), List.mem_of_getElem? (i := 318) (by decide +kernel), List.mem_of_getElem? (i := 319) (by decide +kernel)⟩
theorem lw_p4 : lw_okq (⟨"WitnessBench$Sheet", "putLetters", "(LWitnessBench$Letters;)V"⟩, 2) := ⟨⟨by decide +kernel, by decide +kernel⟩, List.mem_of_getElem? (i := 150) (by decide +kernel), List.mem_of_getElem? (i := 338) (by decide +kernel), List.mem_of_getElem? (i := 339) (by decide +kernel)⟩
theorem lw_p5 : lw_okq (⟨"WitnessBench$Sheet", "putGroup", "(LWitnessBench$Table;LWitnessBench$Words;II)V"⟩, 2) := ⟨⟨by decide +kernel, by decide +kernel⟩, List.mem_of_getElem? (i := 150) (by decide +kernel), List.mem_of_getElem? (i := 349) (by decide +kernel), List.mem_of_getElem? (i := 350) (by decide +kernel)⟩
theorem lw_p6 : lw_okq (⟨"WitnessBench$Rules", "ruleFor", "(LWitnessBench$Letters;I)I"⟩, 3) := ⟨⟨by decide +kernel, by decide +kernel⟩, List.mem_of_getElem? (i := 44) (by decide +kernel), List.mem_of_getElem? (i := 381) (by decide +kernel), List.mem_of_getElem? (i := 382) (by decide +kernel)⟩
theorem lw_p7 : lw_okq (⟨"java/lang/Throwable", "fillInStackTrace", "(I)Ljava/lang/Throwable;"⟩, 6) := ⟨⟨by decide +kernel, by decide +kernel⟩, List.mem_of_getElem? (i := 469) (by decide +kernel), List.mem_of_getElem? (i := 467) (by decide +kernel), List.mem_of_getElem? (i := 468) (by decide +kernel)⟩
theorem lw_p8 : lw_okq (⟨"WitnessBench$Words", "markAll", "()V"⟩, 9) := ⟨⟨by decide +kernel, by decide +kernel⟩, List.mem_of_getElem? (i := 63) (by decide +kernel), List.mem_of_getElem? (i := 590) (by decide +kernel), List.mem_of_getElem? (i := 591) (by decide +kernel)⟩
theorem lw_p9 : lw_okq (⟨"WitnessBench$Words", "makeEqual", "(II)V"⟩, 9) := ⟨⟨by decide +kernel, by decide +kernel⟩, List.mem_of_getElem? (i := 63) (by decide +kernel), List.mem_of_getElem? (i := 595) (by decide +kernel), List.mem_of_getElem? (i := 596) (by decide +kernel)⟩
theorem lw_p10 : lw_okq (⟨"WitnessBench", "checkWord", "(II)V"⟩, 12) := ⟨⟨by decide +kernel, by decide +kernel⟩, List.mem_of_getElem? (i := 22) (by decide +kernel), List.mem_of_getElem? (i := 627) (by decide +kernel), List.mem_of_getElem? (i := 628) (by decide +kernel)⟩
theorem lw_p11 : lw_okq (⟨"WitnessBench$Words", "edits", "(LWitnessBench$Letters;LWitnessBench$Letters;)I"⟩, 9) := ⟨⟨by decide +kernel, by decide +kernel⟩, List.mem_of_getElem? (i := 63) (by decide +kernel), List.mem_of_getElem? (i := 665) (by decide +kernel), List.mem_of_getElem? (i := 666) (by decide +kernel)⟩
theorem lw_p12 : lw_okq (⟨"WitnessBench$Joiner", "settle", "(III)V"⟩, 6) := ⟨⟨by decide +kernel, by decide +kernel⟩, List.mem_of_getElem? (i := 125) (by decide +kernel), List.mem_of_getElem? (i := 695) (by decide +kernel), List.mem_of_getElem? (i := 696) (by decide +kernel)⟩
theorem lw_p13 : lw_okq (⟨"WitnessBench$Joiner", "offer", "(III)V"⟩, 6) := ⟨⟨by decide +kernel, by decide +kernel⟩, List.mem_of_getElem? (i := 125) (by decide +kernel), List.mem_of_getElem? (i := 700) (by decide +kernel), List.mem_of_getElem? (i := 701) (by decide +kernel)⟩
theorem lw_p14 : lw_okq (⟨"WitnessBench$Joiner", "layPath", "()V"⟩, 6) := ⟨⟨by decide +kernel, by decide +kernel⟩, List.mem_of_getElem? (i := 125) (by decide +kernel), List.mem_of_getElem? (i := 704) (by decide +kernel), List.mem_of_getElem? (i := 705) (by decide +kernel)⟩
theorem lw_p15 : lw_okq (⟨"WitnessBench$Table", "hasWords", "(I)Z"⟩, 6) := ⟨⟨by decide +kernel, by decide +kernel⟩, List.mem_of_getElem? (i := 100) (by decide +kernel), List.mem_of_getElem? (i := 751) (by decide +kernel), List.mem_of_getElem? (i := 752) (by decide +kernel)⟩
def lw_privs_1 : List (MethodName × Nat) := [(⟨"WitnessBench$Sheet", "writeEntry", "(LWitnessBench$Table;LWitnessBench$Words;IZ)V"⟩, 2), (⟨"WitnessBench$Sheet", "putNumber", "(I)V"⟩, 2), (⟨"WitnessBench$Sheet", "put", "(C)V"⟩, 2), (⟨"WitnessBench$Sheet", "putReading", "(LWitnessBench$Words;I)V"⟩, 2), (⟨"WitnessBench$Sheet", "putLetters", "(LWitnessBench$Letters;)V"⟩, 2), (⟨"WitnessBench$Sheet", "putGroup", "(LWitnessBench$Table;LWitnessBench$Words;II)V"⟩, 2), (⟨"WitnessBench$Rules", "ruleFor", "(LWitnessBench$Letters;I)I"⟩, 3), (⟨"java/lang/Throwable", "fillInStackTrace", "(I)Ljava/lang/Throwable;"⟩, 6), (⟨"WitnessBench$Words", "markAll", "()V"⟩, 9), (⟨"WitnessBench$Words", "makeEqual", "(II)V"⟩, 9), (⟨"WitnessBench", "checkWord", "(II)V"⟩, 12), (⟨"WitnessBench$Words", "edits", "(LWitnessBench$Letters;LWitnessBench$Letters;)I"⟩, 9), (⟨"WitnessBench$Joiner", "settle", "(III)V"⟩, 6), (⟨"WitnessBench$Joiner", "offer", "(III)V"⟩, 6), (⟨"WitnessBench$Joiner", "layPath", "()V"⟩, 6), (⟨"WitnessBench$Table", "hasWords", "(I)Z"⟩, 6)]
theorem lw_r1 : ∀ q ∈ lw_privs_1, lw_okq q := List.forall_mem_cons.mpr ⟨lw_p0, List.forall_mem_cons.mpr ⟨lw_p1, List.forall_mem_cons.mpr ⟨lw_p2, List.forall_mem_cons.mpr ⟨lw_p3, List.forall_mem_cons.mpr ⟨lw_p4, List.forall_mem_cons.mpr ⟨lw_p5, List.forall_mem_cons.mpr ⟨lw_p6, List.forall_mem_cons.mpr ⟨lw_p7, List.forall_mem_cons.mpr ⟨lw_p8, List.forall_mem_cons.mpr ⟨lw_p9, List.forall_mem_cons.mpr ⟨lw_p10, List.forall_mem_cons.mpr ⟨lw_p11, List.forall_mem_cons.mpr ⟨lw_p12, List.forall_mem_cons.mpr ⟨lw_p13, List.forall_mem_cons.mpr ⟨lw_p14, List.forall_mem_cons.mpr ⟨lw_p15, fun _ h => absurd h List.not_mem_nil⟩⟩⟩⟩⟩⟩⟩⟩⟩⟩⟩⟩⟩⟩⟩⟩
theorem lw_p16 : lw_okq (⟨"WitnessBench", "checkPlace", "(I)V"⟩, 12) := ⟨⟨by decide +kernel, by decide +kernel⟩, List.mem_of_getElem? (i := 22) (by decide +kernel), List.mem_of_getElem? (i := 763) (by decide +kernel), List.mem_of_getElem? (i := 764) (by decide +kernel)⟩
theorem lw_p17 : lw_okq (⟨"WitnessBench", "checkJoined", "(I)V"⟩, 12) := ⟨⟨by decide +kernel, by decide +kernel⟩, List.mem_of_getElem? (i := 22) (by decide +kernel), List.mem_of_getElem? (i := 787) (by decide +kernel), List.mem_of_getElem? (i := 788) (by decide +kernel)⟩
theorem lw_p18 : lw_okq (⟨"WitnessBench", "checkSheet", "(I)V"⟩, 12) := ⟨⟨by decide +kernel, by decide +kernel⟩, List.mem_of_getElem? (i := 22) (by decide +kernel), List.mem_of_getElem? (i := 815) (by decide +kernel), List.mem_of_getElem? (i := 816) (by decide +kernel)⟩
theorem lw_p19 : lw_okq (⟨"WitnessBench$Reader", "readEntry", "(LWitnessBench$Sheet;LWitnessBench$Table;LWitnessBench$Words;)Z"⟩, 7) := ⟨⟨by decide +kernel, by decide +kernel⟩, List.mem_of_getElem? (i := 163) (by decide +kernel), List.mem_of_getElem? (i := 848) (by decide +kernel), List.mem_of_getElem? (i := 849) (by decide +kernel)⟩
theorem lw_p20 : lw_okq (⟨"WitnessBench$Reader", "readPlace", "(LWitnessBench$Sheet;LWitnessBench$Table;)Z"⟩, 7) := ⟨⟨by decide +kernel, by decide +kernel⟩, List.mem_of_getElem? (i := 163) (by decide +kernel), List.mem_of_getElem? (i := 852) (by decide +kernel), List.mem_of_getElem? (i := 853) (by decide +kernel)⟩
theorem lw_p21 : lw_okq (⟨"WitnessBench$Reader", "readSign", "(LWitnessBench$Sheet;C)Z"⟩, 7) := ⟨⟨by decide +kernel, by decide +kernel⟩, List.mem_of_getElem? (i := 163) (by decide +kernel), List.mem_of_getElem? (i := 862) (by decide +kernel), List.mem_of_getElem? (i := 863) (by decide +kernel)⟩
theorem lw_p22 : lw_okq (⟨"WitnessBench$Reader", "readLemma", "(LWitnessBench$Sheet;LWitnessBench$Table;LWitnessBench$Words;)Z"⟩, 7) := ⟨⟨by decide +kernel, by decide +kernel⟩, List.mem_of_getElem? (i := 163) (by decide +kernel), List.mem_of_getElem? (i := 866) (by decide +kernel), List.mem_of_getElem? (i := 867) (by decide +kernel)⟩
theorem lw_p23 : lw_okq (⟨"WitnessBench$Reader", "readLetters", "(LWitnessBench$Sheet;LWitnessBench$Letters;)Z"⟩, 7) := ⟨⟨by decide +kernel, by decide +kernel⟩, List.mem_of_getElem? (i := 163) (by decide +kernel), List.mem_of_getElem? (i := 873) (by decide +kernel), List.mem_of_getElem? (i := 874) (by decide +kernel)⟩
theorem lw_p24 : lw_okq (⟨"WitnessBench$Reader", "readGroup", "(LWitnessBench$Sheet;LWitnessBench$Table;)Z"⟩, 7) := ⟨⟨by decide +kernel, by decide +kernel⟩, List.mem_of_getElem? (i := 163) (by decide +kernel), List.mem_of_getElem? (i := 877) (by decide +kernel), List.mem_of_getElem? (i := 878) (by decide +kernel)⟩
theorem lw_p25 : lw_okq (⟨"WitnessBench$Reader", "readReading", "(LWitnessBench$Sheet;)Z"⟩, 7) := ⟨⟨by decide +kernel, by decide +kernel⟩, List.mem_of_getElem? (i := 163) (by decide +kernel), List.mem_of_getElem? (i := 881) (by decide +kernel), List.mem_of_getElem? (i := 882) (by decide +kernel)⟩
theorem lw_p26 : lw_okq (⟨"WitnessBench$Reader", "readWitnesses", "(LWitnessBench$Sheet;LWitnessBench$Table;I)Z"⟩, 7) := ⟨⟨by decide +kernel, by decide +kernel⟩, List.mem_of_getElem? (i := 163) (by decide +kernel), List.mem_of_getElem? (i := 885) (by decide +kernel), List.mem_of_getElem? (i := 886) (by decide +kernel)⟩
theorem lw_p27 : lw_okq (⟨"WitnessBench$Reader", "buildAll", "(LWitnessBench$Sheet;LWitnessBench$Table;LWitnessBench$Words;)V"⟩, 7) := ⟨⟨by decide +kernel, by decide +kernel⟩, List.mem_of_getElem? (i := 163) (by decide +kernel), List.mem_of_getElem? (i := 890) (by decide +kernel), List.mem_of_getElem? (i := 891) (by decide +kernel)⟩
theorem lw_p28 : lw_okq (⟨"WitnessBench$Reader", "buildReading", "(LWitnessBench$Sheet;I)V"⟩, 7) := ⟨⟨by decide +kernel, by decide +kernel⟩, List.mem_of_getElem? (i := 163) (by decide +kernel), List.mem_of_getElem? (i := 894) (by decide +kernel), List.mem_of_getElem? (i := 895) (by decide +kernel)⟩
theorem lw_p29 : lw_okq (⟨"WitnessBench$BlockFinder", "keep", "(III)V"⟩, 2) := ⟨⟨by decide +kernel, by decide +kernel⟩, List.mem_of_getElem? (i := 193) (by decide +kernel), List.mem_of_getElem? (i := 941) (by decide +kernel), List.mem_of_getElem? (i := 942) (by decide +kernel)⟩
theorem lw_p30 : lw_okq (⟨"WitnessBench$Family", "takeReadings", "(LWitnessBench$Table;LWitnessBench$Words;I)V"⟩, 3) := ⟨⟨by decide +kernel, by decide +kernel⟩, List.mem_of_getElem? (i := 206) (by decide +kernel), List.mem_of_getElem? (i := 988) (by decide +kernel), List.mem_of_getElem? (i := 989) (by decide +kernel)⟩
theorem lw_p31 : lw_okq (⟨"WitnessBench$Family", "startCosts", "()V"⟩, 3) := ⟨⟨by decide +kernel, by decide +kernel⟩, List.mem_of_getElem? (i := 206) (by decide +kernel), List.mem_of_getElem? (i := 996) (by decide +kernel), List.mem_of_getElem? (i := 997) (by decide +kernel)⟩
def lw_privs_2 : List (MethodName × Nat) := [(⟨"WitnessBench", "checkPlace", "(I)V"⟩, 12), (⟨"WitnessBench", "checkJoined", "(I)V"⟩, 12), (⟨"WitnessBench", "checkSheet", "(I)V"⟩, 12), (⟨"WitnessBench$Reader", "readEntry", "(LWitnessBench$Sheet;LWitnessBench$Table;LWitnessBench$Words;)Z"⟩, 7), (⟨"WitnessBench$Reader", "readPlace", "(LWitnessBench$Sheet;LWitnessBench$Table;)Z"⟩, 7), (⟨"WitnessBench$Reader", "readSign", "(LWitnessBench$Sheet;C)Z"⟩, 7), (⟨"WitnessBench$Reader", "readLemma", "(LWitnessBench$Sheet;LWitnessBench$Table;LWitnessBench$Words;)Z"⟩, 7), (⟨"WitnessBench$Reader", "readLetters", "(LWitnessBench$Sheet;LWitnessBench$Letters;)Z"⟩, 7), (⟨"WitnessBench$Reader", "readGroup", "(LWitnessBench$Sheet;LWitnessBench$Table;)Z"⟩, 7), (⟨"WitnessBench$Reader", "readReading", "(LWitnessBench$Sheet;)Z"⟩, 7), (⟨"WitnessBench$Reader", "readWitnesses", "(LWitnessBench$Sheet;LWitnessBench$Table;I)Z"⟩, 7), (⟨"WitnessBench$Reader", "buildAll", "(LWitnessBench$Sheet;LWitnessBench$Table;LWitnessBench$Words;)V"⟩, 7), (⟨"WitnessBench$Reader", "buildReading", "(LWitnessBench$Sheet;I)V"⟩, 7), (⟨"WitnessBench$BlockFinder", "keep", "(III)V"⟩, 2), (⟨"WitnessBench$Family", "takeReadings", "(LWitnessBench$Table;LWitnessBench$Words;I)V"⟩, 3), (⟨"WitnessBench$Family", "startCosts", "()V"⟩, 3)]
theorem lw_r2 : ∀ q ∈ lw_privs_2, lw_okq q := List.forall_mem_cons.mpr ⟨lw_p16, List.forall_mem_cons.mpr ⟨lw_p17, List.forall_mem_cons.mpr ⟨lw_p18, List.forall_mem_cons.mpr ⟨lw_p19, List.forall_mem_cons.mpr ⟨lw_p20, List.forall_mem_cons.mpr ⟨lw_p21, List.forall_mem_cons.mpr ⟨lw_p22, List.forall_mem_cons.mpr ⟨lw_p23, List.forall_mem_cons.mpr ⟨lw_p24, List.forall_mem_cons.mpr ⟨lw_p25, List.forall_mem_cons.mpr ⟨lw_p26, List.forall_mem_cons.mpr ⟨lw_p27, List.forall_mem_cons.mpr ⟨lw_p28, List.forall_mem_cons.mpr ⟨lw_p29, List.forall_mem_cons.mpr ⟨lw_p30, List.forall_mem_cons.mpr ⟨lw_p31, fun _ h => absurd h List.not_mem_nil⟩⟩⟩⟩⟩⟩⟩⟩⟩⟩⟩⟩⟩⟩⟩⟩
theorem lw_p32 : lw_okq (⟨"WitnessBench$Family", "depthOf", "(I)I"⟩, 3) := ⟨⟨by decide +kernel, by decide +kernel⟩, List.mem_of_getElem? (i := 206) (by decide +kernel), List.mem_of_getElem? (i := 1000) (by decide +kernel), List.mem_of_getElem? (i := 1001) (by decide +kernel)⟩
theorem lw_p33 : lw_okq (⟨"WitnessBench$Family", "handUp", "(I)I"⟩, 3) := ⟨⟨by decide +kernel, by decide +kernel⟩, List.mem_of_getElem? (i := 206) (by decide +kernel), List.mem_of_getElem? (i := 1004) (by decide +kernel), List.mem_of_getElem? (i := 1005) (by decide +kernel)⟩
theorem lw_p34 : lw_okq (⟨"WitnessBench$Family", "leastCost", "(I)I"⟩, 3) := ⟨⟨by decide +kernel, by decide +kernel⟩, List.mem_of_getElem? (i := 206) (by decide +kernel), List.mem_of_getElem? (i := 1008) (by decide +kernel), List.mem_of_getElem? (i := 1009) (by decide +kernel)⟩
theorem lw_p35 : lw_okq (⟨"WitnessBenchModel", "isJoined", "(I)Z"⟩, 47) := ⟨⟨by decide +kernel, by decide +kernel⟩, List.mem_of_getElem? (i := 1013) (by decide +kernel), List.mem_of_getElem? (i := 1180) (by decide +kernel), List.mem_of_getElem? (i := 1181) (by decide +kernel)⟩
theorem lw_p36 : lw_okq (⟨"WitnessBenchModel", "settle", "()V"⟩, 47) := ⟨⟨by decide +kernel, by decide +kernel⟩, List.mem_of_getElem? (i := 1013) (by decide +kernel), List.mem_of_getElem? (i := 1184) (by decide +kernel), List.mem_of_getElem? (i := 1185) (by decide +kernel)⟩
theorem lw_p37 : lw_okq (⟨"WitnessBenchModel", "isThere", "(I)Z"⟩, 47) := ⟨⟨by decide +kernel, by decide +kernel⟩, List.mem_of_getElem? (i := 1013) (by decide +kernel), List.mem_of_getElem? (i := 1188) (by decide +kernel), List.mem_of_getElem? (i := 1189) (by decide +kernel)⟩
theorem lw_p38 : lw_okq (⟨"WitnessBenchModel", "workForm", "(II)V"⟩, 47) := ⟨⟨by decide +kernel, by decide +kernel⟩, List.mem_of_getElem? (i := 1013) (by decide +kernel), List.mem_of_getElem? (i := 1192) (by decide +kernel), List.mem_of_getElem? (i := 1193) (by decide +kernel)⟩
theorem lw_p39 : lw_okq (⟨"WitnessBenchModel", "ruleAt", "(III)I"⟩, 47) := ⟨⟨by decide +kernel, by decide +kernel⟩, List.mem_of_getElem? (i := 1013) (by decide +kernel), List.mem_of_getElem? (i := 1196) (by decide +kernel), List.mem_of_getElem? (i := 1197) (by decide +kernel)⟩
theorem lw_p40 : lw_okq (⟨"WitnessBenchModel", "stands", "(IIII)Z"⟩, 47) := ⟨⟨by decide +kernel, by decide +kernel⟩, List.mem_of_getElem? (i := 1013) (by decide +kernel), List.mem_of_getElem? (i := 1200) (by decide +kernel), List.mem_of_getElem? (i := 1201) (by decide +kernel)⟩
theorem lw_p41 : lw_okq (⟨"WitnessBenchModel", "letter", "(II)I"⟩, 47) := ⟨⟨by decide +kernel, by decide +kernel⟩, List.mem_of_getElem? (i := 1013) (by decide +kernel), List.mem_of_getElem? (i := 1204) (by decide +kernel), List.mem_of_getElem? (i := 1205) (by decide +kernel)⟩
theorem lw_p42 : lw_okq (⟨"WitnessBenchModel", "alike", "(II)Z"⟩, 47) := ⟨⟨by decide +kernel, by decide +kernel⟩, List.mem_of_getElem? (i := 1013) (by decide +kernel), List.mem_of_getElem? (i := 1208) (by decide +kernel), List.mem_of_getElem? (i := 1209) (by decide +kernel)⟩
theorem lw_p43 : lw_okq (⟨"WitnessBenchModel", "isGap", "(I)Z"⟩, 47) := ⟨⟨by decide +kernel, by decide +kernel⟩, List.mem_of_getElem? (i := 1013) (by decide +kernel), List.mem_of_getElem? (i := 1212) (by decide +kernel), List.mem_of_getElem? (i := 1213) (by decide +kernel)⟩
theorem lw_p44 : lw_okq (⟨"WitnessBenchModel", "even", "(II)Z"⟩, 47) := ⟨⟨by decide +kernel, by decide +kernel⟩, List.mem_of_getElem? (i := 1013) (by decide +kernel), List.mem_of_getElem? (i := 1216) (by decide +kernel), List.mem_of_getElem? (i := 1217) (by decide +kernel)⟩
theorem lw_p45 : lw_okq (⟨"WitnessBenchModel", "isWord", "(II)Z"⟩, 47) := ⟨⟨by decide +kernel, by decide +kernel⟩, List.mem_of_getElem? (i := 1013) (by decide +kernel), List.mem_of_getElem? (i := 1228) (by decide +kernel), List.mem_of_getElem? (i := 1229) (by decide +kernel)⟩
theorem lw_p46 : lw_okq (⟨"WitnessBenchModel", "far", "(II)I"⟩, 47) := ⟨⟨by decide +kernel, by decide +kernel⟩, List.mem_of_getElem? (i := 1013) (by decide +kernel), List.mem_of_getElem? (i := 1240) (by decide +kernel), List.mem_of_getElem? (i := 1241) (by decide +kernel)⟩
theorem lw_p47 : lw_okq (⟨"WitnessBenchModel", "apart", "(II)I"⟩, 47) := ⟨⟨by decide +kernel, by decide +kernel⟩, List.mem_of_getElem? (i := 1013) (by decide +kernel), List.mem_of_getElem? (i := 1244) (by decide +kernel), List.mem_of_getElem? (i := 1245) (by decide +kernel)⟩
def lw_privs_3 : List (MethodName × Nat) := [(⟨"WitnessBench$Family", "depthOf", "(I)I"⟩, 3), (⟨"WitnessBench$Family", "handUp", "(I)I"⟩, 3), (⟨"WitnessBench$Family", "leastCost", "(I)I"⟩, 3), (⟨"WitnessBenchModel", "isJoined", "(I)Z"⟩, 47), (⟨"WitnessBenchModel", "settle", "()V"⟩, 47), (⟨"WitnessBenchModel", "isThere", "(I)Z"⟩, 47), (⟨"WitnessBenchModel", "workForm", "(II)V"⟩, 47), (⟨"WitnessBenchModel", "ruleAt", "(III)I"⟩, 47), (⟨"WitnessBenchModel", "stands", "(IIII)Z"⟩, 47), (⟨"WitnessBenchModel", "letter", "(II)I"⟩, 47), (⟨"WitnessBenchModel", "alike", "(II)Z"⟩, 47), (⟨"WitnessBenchModel", "isGap", "(I)Z"⟩, 47), (⟨"WitnessBenchModel", "even", "(II)Z"⟩, 47), (⟨"WitnessBenchModel", "isWord", "(II)Z"⟩, 47), (⟨"WitnessBenchModel", "far", "(II)I"⟩, 47), (⟨"WitnessBenchModel", "apart", "(II)I"⟩, 47)]
theorem lw_r3 : ∀ q ∈ lw_privs_3, lw_okq q := List.forall_mem_cons.mpr ⟨lw_p32, List.forall_mem_cons.mpr ⟨lw_p33, List.forall_mem_cons.mpr ⟨lw_p34, List.forall_mem_cons.mpr ⟨lw_p35, List.forall_mem_cons.mpr ⟨lw_p36, List.forall_mem_cons.mpr ⟨lw_p37, List.forall_mem_cons.mpr ⟨lw_p38, List.forall_mem_cons.mpr ⟨lw_p39, List.forall_mem_cons.mpr ⟨lw_p40, List.forall_mem_cons.mpr ⟨lw_p41, List.forall_mem_cons.mpr ⟨lw_p42, List.forall_mem_cons.mpr ⟨lw_p43, List.forall_mem_cons.mpr ⟨lw_p44, List.forall_mem_cons.mpr ⟨lw_p45, List.forall_mem_cons.mpr ⟨lw_p46, List.forall_mem_cons.mpr ⟨lw_p47, fun _ h => absurd h List.not_mem_nil⟩⟩⟩⟩⟩⟩⟩⟩⟩⟩⟩⟩⟩⟩⟩⟩
theorem lw_p48 : lw_okq (⟨"WitnessBenchModel", "least", "(II)I"⟩, 47) := ⟨⟨by decide +kernel, by decide +kernel⟩, List.mem_of_getElem? (i := 1013) (by decide +kernel), List.mem_of_getElem? (i := 1248) (by decide +kernel), List.mem_of_getElem? (i := 1249) (by decide +kernel)⟩
theorem lw_p49 : lw_okq (⟨"WitnessBenchModel", "workOut", "(I)V"⟩, 47) := ⟨⟨by decide +kernel, by decide +kernel⟩, List.mem_of_getElem? (i := 1013) (by decide +kernel), List.mem_of_getElem? (i := 1256) (by decide +kernel), List.mem_of_getElem? (i := 1257) (by decide +kernel)⟩
theorem lw_p50 : lw_okq (⟨"WitnessBenchModel", "match", "(III)I"⟩, 47) := ⟨⟨by decide +kernel, by decide +kernel⟩, List.mem_of_getElem? (i := 1013) (by decide +kernel), List.mem_of_getElem? (i := 1260) (by decide +kernel), List.mem_of_getElem? (i := 1261) (by decide +kernel)⟩
theorem lw_p51 : lw_okq (⟨"WitnessBenchModel", "cost", "(III)I"⟩, 47) := ⟨⟨by decide +kernel, by decide +kernel⟩, List.mem_of_getElem? (i := 1013) (by decide +kernel), List.mem_of_getElem? (i := 1264) (by decide +kernel), List.mem_of_getElem? (i := 1265) (by decide +kernel)⟩
theorem lw_p52 : lw_okq (⟨"WitnessBenchModel", "putIn", "(I)I"⟩, 47) := ⟨⟨by decide +kernel, by decide +kernel⟩, List.mem_of_getElem? (i := 1013) (by decide +kernel), List.mem_of_getElem? (i := 1268) (by decide +kernel), List.mem_of_getElem? (i := 1269) (by decide +kernel)⟩
theorem lw_p53 : lw_okq (⟨"WitnessBenchModel", "step", "(III)I"⟩, 47) := ⟨⟨by decide +kernel, by decide +kernel⟩, List.mem_of_getElem? (i := 1013) (by decide +kernel), List.mem_of_getElem? (i := 1272) (by decide +kernel), List.mem_of_getElem? (i := 1273) (by decide +kernel)⟩
theorem lw_p54 : lw_okq (⟨"WitnessBenchModel", "stepOf", "(IIII)I"⟩, 47) := ⟨⟨by decide +kernel, by decide +kernel⟩, List.mem_of_getElem? (i := 1013) (by decide +kernel), List.mem_of_getElem? (i := 1276) (by decide +kernel), List.mem_of_getElem? (i := 1277) (by decide +kernel)⟩
theorem lw_p55 : lw_okq (⟨"WitnessBenchModel", "open", "(II)V"⟩, 47) := ⟨⟨by decide +kernel, by decide +kernel⟩, List.mem_of_getElem? (i := 1013) (by decide +kernel), List.mem_of_getElem? (i := 1280) (by decide +kernel), List.mem_of_getElem? (i := 1281) (by decide +kernel)⟩
theorem lw_p56 : lw_okq (⟨"WitnessBenchModel", "move", "(II)V"⟩, 47) := ⟨⟨by decide +kernel, by decide +kernel⟩, List.mem_of_getElem? (i := 1013) (by decide +kernel), List.mem_of_getElem? (i := 1284) (by decide +kernel), List.mem_of_getElem? (i := 1285) (by decide +kernel)⟩
theorem lw_p57 : lw_okq (⟨"WitnessBenchModel", "isPlace", "(I)Z"⟩, 47) := ⟨⟨by decide +kernel, by decide +kernel⟩, List.mem_of_getElem? (i := 1013) (by decide +kernel), List.mem_of_getElem? (i := 1300) (by decide +kernel), List.mem_of_getElem? (i := 1301) (by decide +kernel)⟩
theorem lw_p58 : lw_okq (⟨"WitnessBenchModel", "placeOf", "(I)I"⟩, 47) := ⟨⟨by decide +kernel, by decide +kernel⟩, List.mem_of_getElem? (i := 1013) (by decide +kernel), List.mem_of_getElem? (i := 1308) (by decide +kernel), List.mem_of_getElem? (i := 1309) (by decide +kernel)⟩
theorem lw_p59 : lw_okq (⟨"WitnessBenchModel", "lemma", "(I)I"⟩, 47) := ⟨⟨by decide +kernel, by decide +kernel⟩, List.mem_of_getElem? (i := 1013) (by decide +kernel), List.mem_of_getElem? (i := 1324) (by decide +kernel), List.mem_of_getElem? (i := 1325) (by decide +kernel)⟩
theorem lw_p60 : lw_okq (⟨"WitnessBenchModel", "readsAlike", "(II)Z"⟩, 47) := ⟨⟨by decide +kernel, by decide +kernel⟩, List.mem_of_getElem? (i := 1013) (by decide +kernel), List.mem_of_getElem? (i := 1328) (by decide +kernel), List.mem_of_getElem? (i := 1329) (by decide +kernel)⟩
theorem lw_p61 : lw_okq (⟨"WitnessBenchModel", "sayEntry", "(IZ)V"⟩, 47) := ⟨⟨by decide +kernel, by decide +kernel⟩, List.mem_of_getElem? (i := 1013) (by decide +kernel), List.mem_of_getElem? (i := 1332) (by decide +kernel), List.mem_of_getElem? (i := 1333) (by decide +kernel)⟩
theorem lw_p62 : lw_okq (⟨"WitnessBenchModel", "say", "(I)V"⟩, 47) := ⟨⟨by decide +kernel, by decide +kernel⟩, List.mem_of_getElem? (i := 1013) (by decide +kernel), List.mem_of_getElem? (i := 1336) (by decide +kernel), List.mem_of_getElem? (i := 1337) (by decide +kernel)⟩
theorem lw_p63 : lw_okq (⟨"WitnessBenchModel", "sayReading", "(I)V"⟩, 47) := ⟨⟨by decide +kernel, by decide +kernel⟩, List.mem_of_getElem? (i := 1013) (by decide +kernel), List.mem_of_getElem? (i := 1340) (by decide +kernel), List.mem_of_getElem? (i := 1341) (by decide +kernel)⟩
def lw_privs_4 : List (MethodName × Nat) := [(⟨"WitnessBenchModel", "least", "(II)I"⟩, 47), (⟨"WitnessBenchModel", "workOut", "(I)V"⟩, 47), (⟨"WitnessBenchModel", "match", "(III)I"⟩, 47), (⟨"WitnessBenchModel", "cost", "(III)I"⟩, 47), (⟨"WitnessBenchModel", "putIn", "(I)I"⟩, 47), (⟨"WitnessBenchModel", "step", "(III)I"⟩, 47), (⟨"WitnessBenchModel", "stepOf", "(IIII)I"⟩, 47), (⟨"WitnessBenchModel", "open", "(II)V"⟩, 47), (⟨"WitnessBenchModel", "move", "(II)V"⟩, 47), (⟨"WitnessBenchModel", "isPlace", "(I)Z"⟩, 47), (⟨"WitnessBenchModel", "placeOf", "(I)I"⟩, 47), (⟨"WitnessBenchModel", "lemma", "(I)I"⟩, 47), (⟨"WitnessBenchModel", "readsAlike", "(II)Z"⟩, 47), (⟨"WitnessBenchModel", "sayEntry", "(IZ)V"⟩, 47), (⟨"WitnessBenchModel", "say", "(I)V"⟩, 47), (⟨"WitnessBenchModel", "sayReading", "(I)V"⟩, 47)]
theorem lw_r4 : ∀ q ∈ lw_privs_4, lw_okq q := List.forall_mem_cons.mpr ⟨lw_p48, List.forall_mem_cons.mpr ⟨lw_p49, List.forall_mem_cons.mpr ⟨lw_p50, List.forall_mem_cons.mpr ⟨lw_p51, List.forall_mem_cons.mpr ⟨lw_p52, List.forall_mem_cons.mpr ⟨lw_p53, List.forall_mem_cons.mpr ⟨lw_p54, List.forall_mem_cons.mpr ⟨lw_p55, List.forall_mem_cons.mpr ⟨lw_p56, List.forall_mem_cons.mpr ⟨lw_p57, List.forall_mem_cons.mpr ⟨lw_p58, List.forall_mem_cons.mpr ⟨lw_p59, List.forall_mem_cons.mpr ⟨lw_p60, List.forall_mem_cons.mpr ⟨lw_p61, List.forall_mem_cons.mpr ⟨lw_p62, List.forall_mem_cons.mpr ⟨lw_p63, fun _ h => absurd h List.not_mem_nil⟩⟩⟩⟩⟩⟩⟩⟩⟩⟩⟩⟩⟩⟩⟩⟩
theorem lw_p64 : lw_okq (⟨"WitnessBenchModel", "isReadBelow", "(III)Z"⟩, 47) := ⟨⟨by decide +kernel, by decide +kernel⟩, List.mem_of_getElem? (i := 1013) (by decide +kernel), List.mem_of_getElem? (i := 1344) (by decide +kernel), List.mem_of_getElem? (i := 1345) (by decide +kernel)⟩
theorem lw_p65 : lw_okq (⟨"WitnessBenchModel", "sayGroup", "(IIZ)V"⟩, 47) := ⟨⟨by decide +kernel, by decide +kernel⟩, List.mem_of_getElem? (i := 1013) (by decide +kernel), List.mem_of_getElem? (i := 1348) (by decide +kernel), List.mem_of_getElem? (i := 1349) (by decide +kernel)⟩
theorem lw_p66 : lw_okq (⟨"WitnessBenchModel", "readAll", "(I)V"⟩, 47) := ⟨⟨by decide +kernel, by decide +kernel⟩, List.mem_of_getElem? (i := 1013) (by decide +kernel), List.mem_of_getElem? (i := 1364) (by decide +kernel), List.mem_of_getElem? (i := 1365) (by decide +kernel)⟩
theorem lw_p67 : lw_okq (⟨"WitnessBenchModel", "next", "()V"⟩, 47) := ⟨⟨by decide +kernel, by decide +kernel⟩, List.mem_of_getElem? (i := 1013) (by decide +kernel), List.mem_of_getElem? (i := 1368) (by decide +kernel), List.mem_of_getElem? (i := 1369) (by decide +kernel)⟩
theorem lw_p68 : lw_okq (⟨"WitnessBenchModel", "many", "(III)I"⟩, 47) := ⟨⟨by decide +kernel, by decide +kernel⟩, List.mem_of_getElem? (i := 1013) (by decide +kernel), List.mem_of_getElem? (i := 1372) (by decide +kernel), List.mem_of_getElem? (i := 1373) (by decide +kernel)⟩
theorem lw_p69 : lw_okq (⟨"WitnessBenchModel", "isFrom", "(III)Z"⟩, 47) := ⟨⟨by decide +kernel, by decide +kernel⟩, List.mem_of_getElem? (i := 1013) (by decide +kernel), List.mem_of_getElem? (i := 1376) (by decide +kernel), List.mem_of_getElem? (i := 1377) (by decide +kernel)⟩
theorem lw_p70 : lw_okq (⟨"WitnessBenchModel", "numberAbove", "(I)I"⟩, 47) := ⟨⟨by decide +kernel, by decide +kernel⟩, List.mem_of_getElem? (i := 1013) (by decide +kernel), List.mem_of_getElem? (i := 1380) (by decide +kernel), List.mem_of_getElem? (i := 1381) (by decide +kernel)⟩
theorem lw_p71 : lw_okq (⟨"WitnessBenchModel", "pass", "(Z)V"⟩, 47) := ⟨⟨by decide +kernel, by decide +kernel⟩, List.mem_of_getElem? (i := 1013) (by decide +kernel), List.mem_of_getElem? (i := 1384) (by decide +kernel), List.mem_of_getElem? (i := 1385) (by decide +kernel)⟩
theorem lw_p72 : lw_okq (⟨"WitnessBenchModel", "keepWord", "(I)V"⟩, 47) := ⟨⟨by decide +kernel, by decide +kernel⟩, List.mem_of_getElem? (i := 1013) (by decide +kernel), List.mem_of_getElem? (i := 1388) (by decide +kernel), List.mem_of_getElem? (i := 1389) (by decide +kernel)⟩
theorem lw_p73 : lw_okq (⟨"WitnessBenchModel", "isLemma", "(I)Z"⟩, 47) := ⟨⟨by decide +kernel, by decide +kernel⟩, List.mem_of_getElem? (i := 1013) (by decide +kernel), List.mem_of_getElem? (i := 1392) (by decide +kernel), List.mem_of_getElem? (i := 1393) (by decide +kernel)⟩
theorem lw_p74 : lw_okq (⟨"WitnessBenchModel", "groups", "(I)I"⟩, 47) := ⟨⟨by decide +kernel, by decide +kernel⟩, List.mem_of_getElem? (i := 1013) (by decide +kernel), List.mem_of_getElem? (i := 1396) (by decide +kernel), List.mem_of_getElem? (i := 1397) (by decide +kernel)⟩
theorem lw_p75 : lw_okq (⟨"WitnessBenchModel", "siglaWith", "(I)I"⟩, 47) := ⟨⟨by decide +kernel, by decide +kernel⟩, List.mem_of_getElem? (i := 1013) (by decide +kernel), List.mem_of_getElem? (i := 1400) (by decide +kernel), List.mem_of_getElem? (i := 1401) (by decide +kernel)⟩
theorem lw_p76 : lw_okq (⟨"WitnessBenchModel", "keepText", "(I)V"⟩, 47) := ⟨⟨by decide +kernel, by decide +kernel⟩, List.mem_of_getElem? (i := 1013) (by decide +kernel), List.mem_of_getElem? (i := 1404) (by decide +kernel), List.mem_of_getElem? (i := 1405) (by decide +kernel)⟩
theorem lw_p77 : lw_okq (⟨"WitnessBenchModel", "isText", "(IZ)Z"⟩, 47) := ⟨⟨by decide +kernel, by decide +kernel⟩, List.mem_of_getElem? (i := 1013) (by decide +kernel), List.mem_of_getElem? (i := 1416) (by decide +kernel), List.mem_of_getElem? (i := 1417) (by decide +kernel)⟩
theorem lw_p78 : lw_okq (⟨"WitnessBenchModel", "isMoved", "(IIII)Z"⟩, 47) := ⟨⟨by decide +kernel, by decide +kernel⟩, List.mem_of_getElem? (i := 1013) (by decide +kernel), List.mem_of_getElem? (i := 1428) (by decide +kernel), List.mem_of_getElem? (i := 1429) (by decide +kernel)⟩
theorem lw_p79 : lw_okq (⟨"WitnessBenchModel", "changesAt", "(I)I"⟩, 47) := ⟨⟨by decide +kernel, by decide +kernel⟩, List.mem_of_getElem? (i := 1013) (by decide +kernel), List.mem_of_getElem? (i := 1444) (by decide +kernel), List.mem_of_getElem? (i := 1445) (by decide +kernel)⟩
def lw_privs_5 : List (MethodName × Nat) := [(⟨"WitnessBenchModel", "isReadBelow", "(III)Z"⟩, 47), (⟨"WitnessBenchModel", "sayGroup", "(IIZ)V"⟩, 47), (⟨"WitnessBenchModel", "readAll", "(I)V"⟩, 47), (⟨"WitnessBenchModel", "next", "()V"⟩, 47), (⟨"WitnessBenchModel", "many", "(III)I"⟩, 47), (⟨"WitnessBenchModel", "isFrom", "(III)Z"⟩, 47), (⟨"WitnessBenchModel", "numberAbove", "(I)I"⟩, 47), (⟨"WitnessBenchModel", "pass", "(Z)V"⟩, 47), (⟨"WitnessBenchModel", "keepWord", "(I)V"⟩, 47), (⟨"WitnessBenchModel", "isLemma", "(I)Z"⟩, 47), (⟨"WitnessBenchModel", "groups", "(I)I"⟩, 47), (⟨"WitnessBenchModel", "siglaWith", "(I)I"⟩, 47), (⟨"WitnessBenchModel", "keepText", "(I)V"⟩, 47), (⟨"WitnessBenchModel", "isText", "(IZ)Z"⟩, 47), (⟨"WitnessBenchModel", "isMoved", "(IIII)Z"⟩, 47), (⟨"WitnessBenchModel", "changesAt", "(I)I"⟩, 47)]
theorem lw_r5 : ∀ q ∈ lw_privs_5, lw_okq q := List.forall_mem_cons.mpr ⟨lw_p64, List.forall_mem_cons.mpr ⟨lw_p65, List.forall_mem_cons.mpr ⟨lw_p66, List.forall_mem_cons.mpr ⟨lw_p67, List.forall_mem_cons.mpr ⟨lw_p68, List.forall_mem_cons.mpr ⟨lw_p69, List.forall_mem_cons.mpr ⟨lw_p70, List.forall_mem_cons.mpr ⟨lw_p71, List.forall_mem_cons.mpr ⟨lw_p72, List.forall_mem_cons.mpr ⟨lw_p73, List.forall_mem_cons.mpr ⟨lw_p74, List.forall_mem_cons.mpr ⟨lw_p75, List.forall_mem_cons.mpr ⟨lw_p76, List.forall_mem_cons.mpr ⟨lw_p77, List.forall_mem_cons.mpr ⟨lw_p78, List.forall_mem_cons.mpr ⟨lw_p79, fun _ h => absurd h List.not_mem_nil⟩⟩⟩⟩⟩⟩⟩⟩⟩⟩⟩⟩⟩⟩⟩⟩
theorem lw_p80 : lw_okq (⟨"WitnessBenchModel", "note", "(I)V"⟩, 47) := ⟨⟨by decide +kernel, by decide +kernel⟩, List.mem_of_getElem? (i := 1013) (by decide +kernel), List.mem_of_getElem? (i := 1448) (by decide +kernel), List.mem_of_getElem? (i := 1449) (by decide +kernel)⟩
theorem lw_p81 : lw_okq (⟨"WitnessBenchModel", "tried", "(I)I"⟩, 47) := ⟨⟨by decide +kernel, by decide +kernel⟩, List.mem_of_getElem? (i := 1013) (by decide +kernel), List.mem_of_getElem? (i := 1452) (by decide +kernel), List.mem_of_getElem? (i := 1453) (by decide +kernel)⟩
def lw_privs_6 : List (MethodName × Nat) := [(⟨"WitnessBenchModel", "note", "(I)V"⟩, 47), (⟨"WitnessBenchModel", "tried", "(I)I"⟩, 47)]
theorem lw_r6 : ∀ q ∈ lw_privs_6, lw_okq q := List.forall_mem_cons.mpr ⟨lw_p80, List.forall_mem_cons.mpr ⟨lw_p81, fun _ h => absurd h List.not_mem_nil⟩⟩
def lw_privs : List (MethodName × Nat) := lw_privs_1 ++ (lw_privs_2 ++ (lw_privs_3 ++ (lw_privs_4 ++ (lw_privs_5 ++ (lw_privs_6)))))
def lw_tbl : List Cond := k2_sels lw_privs ++ tables_1
theorem lw_privs_ok : ∀ q ∈ lw_privs, lw_okq q := by
  show ∀ q ∈ lw_privs_1 ++ (lw_privs_2 ++ (lw_privs_3 ++ (lw_privs_4 ++ (lw_privs_5 ++ (lw_privs_6))))), lw_okq q
  exact List.forall_mem_append.mpr ⟨lw_r1, List.forall_mem_append.mpr ⟨lw_r2, List.forall_mem_append.mpr ⟨lw_r3, List.forall_mem_append.mpr ⟨lw_r4, List.forall_mem_append.mpr ⟨lw_r5, lw_r6⟩⟩⟩⟩⟩
end
section
/-! the classes, their fields; the four exceptions without fields -/
def ev_Let : String := "WitnessBench$Letters"
def ev_host : String := "WitnessBench"
def ev_nc : Nat := 11
def ev_ciL : Nat := 0
def ev_fl (l : List (String × String × String × Bool)) : u_T := fun k => (l[k]?).getD ("", "", "", false)
def ev_q0 : vw_C := (ev_Let, ev_fl [("WitnessBench$Letters", "row", "[C", true), ("WitnessBench$Letters", "length", "I", false)], 2)
def ev_q1 : vw_C := ("WitnessBench$Rules", ev_fl [("WitnessBench$Rules", "lefts", "[LWitnessBench$Letters;", true), ("WitnessBench$Rules", "rights", "[LWitnessBench$Letters;", true), ("WitnessBench$Rules", "count", "I", false)], 3)
def ev_q2 : vw_C := ("WitnessBench$Words", ev_fl [("WitnessBench$Words", "spellings", "[LWitnessBench$Letters;", true), ("WitnessBench$Words", "forms", "[LWitnessBench$Letters;", true), ("WitnessBench$Words", "counts", "[I", true), ("WitnessBench$Words", "alikeMarks", "[I", true), ("WitnessBench$Words", "equalMarks", "[I", true), ("WitnessBench$Words", "equalFirsts", "[I", true), ("WitnessBench$Words", "equalSeconds", "[I", true), ("WitnessBench$Words", "equalityCount", "I", false), ("WitnessBench$Words", "editRow", "[I", true)], 9)
def ev_q3 : vw_C := ("WitnessBench$Table", ev_fl [("WitnessBench$Table", "cells", "[I", true), ("WitnessBench$Table", "choices", "[I", true), ("WitnessBench$Table", "placeCount", "I", false), ("WitnessBench$Table", "joined", "[I", true), ("WitnessBench$Table", "joinedCount", "I", false), ("WitnessBench$Table", "baseWitness", "I", false)], 6)
def ev_q4 : vw_C := ("WitnessBench$Joiner", ev_fl [("WitnessBench$Joiner", "costs", "[I", true), ("WitnessBench$Joiner", "steps", "[I", true), ("WitnessBench$Joiner", "path", "[I", true), ("WitnessBench$Joiner", "pathLength", "I", false), ("WitnessBench$Joiner", "oldPlaces", "I", false), ("WitnessBench$Joiner", "newWords", "I", false)], 6)
def ev_q5 : vw_C := ("WitnessBench$Sheet", ev_fl [("WitnessBench$Sheet", "row", "[C", true), ("WitnessBench$Sheet", "length", "I", false)], 2)
def ev_q6 : vw_C := ("WitnessBench$Reader", ev_fl [("WitnessBench$Reader", "builtForms", "[LWitnessBench$Letters;", true), ("WitnessBench$Reader", "builtFormCount", "I", false), ("WitnessBench$Reader", "readingPlaces", "[I", true), ("WitnessBench$Reader", "sought", "I", false), ("WitnessBench$Reader", "next", "I", false), ("WitnessBench$Reader", "place", "I", false), ("WitnessBench$Reader", "seenWitnesses", "I", false)], 7)
def ev_q7 : vw_C := ("WitnessBench$BlockFinder", ev_fl [("WitnessBench$BlockFinder", "fields", "[I", true), ("WitnessBench$BlockFinder", "blockCount", "I", false)], 2)
def ev_q8 : vw_C := ("WitnessBench$Family", ev_fl [("WitnessBench$Family", "parents", "[I", true), ("WitnessBench$Family", "readings", "[I", true), ("WitnessBench$Family", "costs", "[I", true)], 3)
def ev_q9 : vw_C := ("WitnessBench", ev_fl [("WitnessBench", "draft", "LWitnessBench$Letters;", true), ("WitnessBench", "draftForm", "LWitnessBench$Letters;", true), ("WitnessBench", "rules", "LWitnessBench$Rules;", true), ("WitnessBench", "words", "LWitnessBench$Words;", true), ("WitnessBench", "table", "LWitnessBench$Table;", true), ("WitnessBench", "joiner", "LWitnessBench$Joiner;", true), ("WitnessBench", "sheet", "LWitnessBench$Sheet;", true), ("WitnessBench", "reader", "LWitnessBench$Reader;", true), ("WitnessBench", "finds", "[I", true), ("WitnessBench", "findCount", "I", false), ("WitnessBench", "blockFinder", "LWitnessBench$BlockFinder;", true), ("WitnessBench", "family", "LWitnessBench$Family;", true)], 12)
def ev_q10 : vw_C := ("WitnessBenchModel", ev_fl [("WitnessBenchModel", "thrown", "I", false), ("WitnessBenchModel", "draft", "[I", true), ("WitnessBenchModel", "drafted", "I", false), ("WitnessBenchModel", "sizes", "[I", true), ("WitnessBenchModel", "letters", "[I", true), ("WitnessBenchModel", "lengths", "[I", true), ("WitnessBenchModel", "forms", "[I", true), ("WitnessBenchModel", "formLengths", "[I", true), ("WitnessBenchModel", "group", "[I", true), ("WitnessBenchModel", "rules", "I", false), ("WitnessBenchModel", "lefts", "[I", true), ("WitnessBenchModel", "leftLengths", "[I", true), ("WitnessBenchModel", "rights", "[I", true), ("WitnessBenchModel", "rightLengths", "[I", true), ("WitnessBenchModel", "pairs", "I", false), ("WitnessBenchModel", "ones", "[I", true), ("WitnessBenchModel", "others", "[I", true), ("WitnessBenchModel", "text", "[I", true), ("WitnessBenchModel", "textLength", "I", false), ("WitnessBenchModel", "joined", "I", false), ("WitnessBenchModel", "order", "[I", true), ("WitnessBenchModel", "base", "I", false), ("WitnessBenchModel", "places", "I", false), ("WitnessBenchModel", "words", "[I", true), ("WitnessBenchModel", "choices", "[I", true), ("WitnessBenchModel", "parents", "[I", true), ("WitnessBenchModel", "costs", "[I", true), ("WitnessBenchModel", "edits", "[I", true), ("WitnessBenchModel", "outLength", "I", false), ("WitnessBenchModel", "out", "[I", true), ("WitnessBenchModel", "at", "I", false), ("WitnessBenchModel", "start", "I", false), ("WitnessBenchModel", "token", "I", false), ("WitnessBenchModel", "wrong", "Z", false), ("WitnessBenchModel", "built", "I", false), ("WitnessBenchModel", "builtLengths", "[I", true), ("WitnessBenchModel", "builtLetters", "[I", true), ("WitnessBenchModel", "fresh", "I", false), ("WitnessBenchModel", "freshLengths", "[I", true), ("WitnessBenchModel", "freshLetters", "[I", true), ("WitnessBenchModel", "finds", "I", false), ("WitnessBenchModel", "found", "[I", true), ("WitnessBenchModel", "blocks", "I", false), ("WitnessBenchModel", "block", "[I", true), ("WitnessBenchModel", "reads", "[I", true), ("WitnessBenchModel", "readings", "[I", true), ("WitnessBenchModel", "different", "I", false)], 47)
def ev_q11 : vw_C := ("java/lang/IllegalArgumentException", ev_fl [], 0)
def ev_q12 : vw_C := ("java/lang/IllegalStateException", ev_fl [], 0)
def ev_q13 : vw_C := ("java/lang/IndexOutOfBoundsException", ev_fl [], 0)
def ev_q14 : vw_C := ("java/lang/UnsupportedOperationException", ev_fl [], 0)
def ev_cl : List vw_C := [ev_q0, ev_q1, ev_q2, ev_q3, ev_q4, ev_q5, ev_q6, ev_q7, ev_q8, ev_q9, ev_q10, ev_q11, ev_q12, ev_q13, ev_q14]
theorem ev_clL : ev_cl[ev_ciL]? = some ev_q0 := rfl
def ev_sz (c : Nat) : Nat := if c < ev_nc then ((ev_cl[c]?).map (fun q => q.2.2)).getD 0 else 6
/-- the names of the classes that the law catches, by their entries; the texts, by theirs -/
def ev_cn (k : Nat) : String := (([(13, "java/lang/IllegalArgumentException"), (15, "java/lang/IllegalStateException"), (25, "java/lang/IndexOutOfBoundsException"), (27, "java/lang/UnsupportedOperationException")] : List (Nat × String)).lookup k).getD ""
def ev_tx (k : Nat) : String := (([(83, "not a letter a .. z"), (94, "the draft is full"), (101, "the draft has not so many letters"), (113, "the witness is joined"), (115, "the draft is too long for a word"), (123, "the witness is full"), (129, "the draft is no such rule"), (133, "no more rules"), (153, "a gap equals no word"), (158, "no more equalities"), (170, "the witness is joined, or has no words"), (179, "too many places"), (188, "no witness is joined"), (260, "not so many were found"), (263, "the witnesses are the same"), (270, "no such block"), (278, "a witness above itself"), (286, "no such witness"), (288, "no such word"), (290, "no such place"), (292, "the witness is not joined"), (294, "no such character")] : List (Nat × String)).lookup k).getD ""
def ev_nots : List Cond := [.not (.castable "java/lang/IllegalArgumentException" "java/lang/IllegalStateException"), .not (.castable "java/lang/IllegalArgumentException" "java/lang/IndexOutOfBoundsException"), .not (.castable "java/lang/IllegalArgumentException" "java/lang/UnsupportedOperationException"), .not (.castable "java/lang/IllegalStateException" "java/lang/IllegalArgumentException"), .not (.castable "java/lang/IllegalStateException" "java/lang/IndexOutOfBoundsException"), .not (.castable "java/lang/IllegalStateException" "java/lang/UnsupportedOperationException"), .not (.castable "java/lang/IndexOutOfBoundsException" "java/lang/IllegalArgumentException"), .not (.castable "java/lang/IndexOutOfBoundsException" "java/lang/IllegalStateException"), .not (.castable "java/lang/IndexOutOfBoundsException" "java/lang/UnsupportedOperationException"), .not (.castable "java/lang/UnsupportedOperationException" "java/lang/IllegalArgumentException"), .not (.castable "java/lang/UnsupportedOperationException" "java/lang/IllegalStateException"), .not (.castable "java/lang/UnsupportedOperationException" "java/lang/IndexOutOfBoundsException")]
end
section
/-! the small world: a heap that is a list; its k-th cell lies k behind the heap that the law was begun with -/
section EvWorld
abbrev ev_E : Type := (Nat × vp_A) ⊕ (Nat × List Value)
abbrev ev_H : Type := List ev_E
/-- launch, the law's first state, its arguments, the classes' numbers, the array classes' numbers, the script's address, how many cells and slots there may be in all, the script's length and numbers -/
abbrev ev_W : Type := Launch × State × Array Value × va_G × (Nat → ClassId) × Nat × Nat × Nat × Nat × (Nat → Int32)
/-- what a call comes to: a value or nothing, or the place of what it threw -/
abbrev ev_R : Type := Option Value ⊕ Nat
def ev_base (w : ev_W) : Nat := w.2.1.heap.size
def ev_A (w : ev_W) : Nat → Prop := fun q => ev_base w ≤ q
def ev_v (w : ev_W) (v : Value) : Value := match v with
  | .ref k => .ref (ev_base w + k)
  | .retAddr _ => .ref w.2.2.2.2.2.1
  | .int x => .int x
  | .long x => .long x
  | .float x => .float x
  | .double x => .double x
  | .null => .null
theorem ev_v_cat (w : ev_W) (v : Value) : (ev_v w v).category = v.category := by cases v <;> rfl
def ev_arr (w : ev_W) (x : vp_A) : vp_A := (x.1, match x.2 with
  | .inl f => .inl f
  | .inr (.inl f) => .inr (.inl f)
  | .inr (.inr (.inl f)) => .inr (.inr (.inl f))
  | .inr (.inr (.inr (.inl f))) => .inr (.inr (.inr (.inl f)))
  | .inr (.inr (.inr (.inr f))) => .inr (.inr (.inr (.inr (fun j => (f j).map (fun k => ev_base w + k))))))
def ev_e (w : ev_W) (x : ev_E) : va_E := match x with
  | .inl (k, a) => .inl (w.2.2.2.2.1 k, ev_arr w a)
  | .inr (c, fs) => .inr (c, fs.map (ev_v w))
def ev_ws (w : ev_W) (h : ev_H) : va_W := h.mapIdx (fun k x => (ev_base w + k, ev_e w x))
theorem ev_ws_len (w : ev_W) (h : ev_H) : (ev_ws w h).length = h.length := by simp [ev_ws]
theorem ev_ws_get {w : ev_W} {h : ev_H} {k : Nat} {x : ev_E} (hk : h[k]? = some x) : (ev_ws w h)[k]? = some (ev_base w + k, ev_e w x) := by
  simp [ev_ws, hk]
theorem ev_ws_at {w : ev_W} {h : ev_H} {k : Nat} {q : Nat × va_E} (hk : (ev_ws w h)[k]? = some q) : ∃ x, h[k]? = some x ∧ q = (ev_base w + k, ev_e w x) := by
  simp only [ev_ws, List.getElem?_mapIdx] at hk
  cases hx : h[k]? with
  | none => rw [hx] at hk; cases hk
  | some x => rw [hx] at hk; exact ⟨x, rfl, (Option.some.inj hk).symm⟩
theorem ev_ws_set (w : ev_W) (h : ev_H) (k : Nat) (x : ev_E) : ev_ws w (h.set k x) = (ev_ws w h).set k (ev_base w + k, ev_e w x) := by
  apply List.ext_getElem?
  intro i
  simp only [ev_ws, List.getElem?_mapIdx, List.getElem?_set, List.length_mapIdx]
  by_cases hik : k = i
  · subst hik
    by_cases hl : k < h.length
    · simp [hl]
    · simp [hl]
  · simp [hik]
theorem ev_ws_app (w : ev_W) (h : ev_H) (x : ev_E) : ev_ws w (h ++ [x]) = ev_ws w h ++ [(ev_base w + h.length, ev_e w x)] := by
  simp [ev_ws, List.mapIdx_append]
theorem ev_ws_D (w : ev_W) (h : ev_H) : va_D (ev_A w) (ev_ws w h) := by
  refine ⟨fun i j p q hi hj hpq => ?_, fun k q hk => ?_⟩
  · obtain ⟨x, -, rfl⟩ := ev_ws_at hi
    obtain ⟨y, -, rfl⟩ := ev_ws_at hj
    have h1 : ev_base w + i = ev_base w + j := hpq
    omega
  · obtain ⟨x, -, rfl⟩ := ev_ws_at hk
    show ev_base w ≤ ev_base w + k
    omega
/-- how many slots the cells have -/
def ev_c1 (x : ev_E) : Nat := match x with
  | .inl (_, a) => a.1
  | .inr (c, _) => ev_sz c
def ev_cost (h : ev_H) : Nat := (h.map ev_c1).sum
theorem ev_cost_app (h : ev_H) (x : ev_E) : ev_cost (h ++ [x]) = ev_cost h + ev_c1 x := by simp [ev_cost]
theorem ev_cost_set {h : ev_H} {k : Nat} {x y : ev_E} (hk : h[k]? = some x) (hc : ev_c1 y = ev_c1 x) : ev_cost (h.set k y) = ev_cost h := by
  induction h generalizing k with
  | nil => simp at hk
  | cons a t ih =>
    cases k with
    | zero =>
      simp only [List.getElem?_cons_zero, Option.some.injEq] at hk
      subst hk
      simp [ev_cost, hc]
    | succ k =>
      simp only [List.getElem?_cons_succ] at hk
      have h1 := ih hk
      simp only [ev_cost] at h1
      simp only [ev_cost, List.set_cons_succ, List.map_cons, List.sum_cons, h1]
/-- the heap H holds the small heap h, and nothing else is new -/
def ev_rep (w : ev_W) (h : ev_H) (H : Heap) : Prop :=
  va_P w.2.2.2.1 ev_cl (ev_ws w h) H ∧ H.size = ev_base w + h.length ∧ ∀ q : Nat, q < ev_base w → H[q]? = w.2.1.heap[q]?
/-- locals: what is known of them; all of one slot -/
def ev_lv (w : ev_W) (L : List (Option Value)) : List (Nat × Value) := (List.range L.length).filterMap (fun i => (L[i]?.join).map (fun v => (i, ev_v w v)))
theorem ev_lv_mem {w : ev_W} {L : List (Option Value)} {i : Nat} {v : Value} (h : L[i]? = some (some v)) : (i, ev_v w v) ∈ ev_lv w L := by
  refine List.mem_filterMap.mpr ⟨i, List.mem_range.mpr (List.getElem?_eq_some_iff.mp h).1, ?_⟩
  simp [h]
theorem ev_lv_of {w : ev_W} {L : List (Option Value)} {q : Nat × Value} (h : q ∈ ev_lv w L) : ∃ v, L[q.1]? = some (some v) ∧ q.2 = ev_v w v := by
  obtain ⟨i, -, hi⟩ := List.mem_filterMap.mp h
  cases hL : L[i]? with
  | none => simp [hL] at hi
  | some o =>
    cases o with
    | none => simp [hL] at hi
    | some v =>
      simp only [hL, Option.join_some, Option.map_some, Option.some.injEq] at hi
      subst hi
      exact ⟨v, hL, rfl⟩
def ev_ls (w : ev_W) (nL : Nat) (L : List (Option Value)) (ls : Array Slot) : Prop :=
  lv_has ls nL (ev_lv w L) ∧ ∀ (i : Nat) (v : Value), L[i]? = some (some v) → v.category = 1
theorem ev_ls.get {w : ev_W} {nL : Nat} {L : List (Option Value)} {ls : Array Slot} (h : ev_ls w nL L ls) {i : Nat} {v : Value} (hi : L[i]? = some (some v)) : ls[i]? = some (.val (ev_v w v)) :=
  h.1.2.2 _ (ev_lv_mem hi)
theorem ev_ls.put {w : ev_W} {nL : Nat} {L : List (Option Value)} {ls ls' : Array Slot} (h : ev_ls w nL L ls) {i : Nat} {v : Value} (hc : v.category = 1)
    (h' : lv_has ls' nL ((i, ev_v w v) :: (ev_lv w L).filter (fun q => !(q.1 == i) && !(q.1 + 1 == i && q.2.category == 2)))) : ev_ls w nL (L.set i (some v)) ls' := by
  have key : ∀ (j : Nat) (u : Value), (L.set i (some v))[j]? = some (some u) → (j = i ∧ u = v) ∨ (j ≠ i ∧ L[j]? = some (some u)) := by
    intro j u hj
    by_cases hji : i = j
    · subst hji
      rw [List.getElem?_set_self'] at hj
      cases hL : L[i]? with
      | none => rw [hL] at hj; cases hj
      | some o => rw [hL] at hj; simp at hj; exact Or.inl ⟨rfl, hj.symm⟩
    · rw [List.getElem?_set_ne hji] at hj
      exact Or.inr ⟨fun e => hji e.symm, hj⟩
  refine ⟨⟨h'.1, h'.2.1, fun q hq => ?_⟩, fun j u hj => ?_⟩
  · obtain ⟨u, hu, hq2⟩ := ev_lv_of hq
    obtain ⟨qi, qv⟩ := q
    dsimp only at hu hq2
    subst hq2
    rcases key qi u hu with ⟨rfl, rfl⟩ | ⟨hne, hL⟩
    · exact h'.2.2 _ List.mem_cons_self
    · refine h'.2.2 _ (List.mem_cons_of_mem _ (List.mem_filter.mpr ⟨ev_lv_mem hL, ?_⟩))
      have h1 : u.category = 1 := h.2 _ _ hL
      have h2 : (ev_v w u).category = 1 := by rw [ev_v_cat]; exact h1
      simp [hne, h2]
  · rcases key j u hj with ⟨rfl, rfl⟩ | ⟨hne, hL⟩
    · exact hc
    · exact h.2 _ _ hL
end EvWorld
end
section
/-! the judgement: a frame of a method over a small heap comes to its end with Q; a row an instruction -/
section EvG
/-- name, bytes, locals, return type, handlers, and the listing: place, instruction, two numbers of its link -/
abbrev ev_M : Type := MethodName × ByteArray × Nat × Option FieldType × List (Nat × Nat × Nat × Nat) × List (Nat × Instr × Nat × Nat)
def ev_len (i : Instr) (a : Nat) : Nat := match i with
  | .bipush _ => 2 | .iload _ => 2 | .istore _ => 2 | .aload _ => 2 | .astore _ => 2 | .newarray _ => 2 | .ldc _ => 2
  | .ldc_w _ => 3 | .sipush _ => 3 | .iinc _ _ => 3 | .ifCond _ _ => 3 | .if_icmp _ _ => 3 | .goto _ => 3 | .getfield _ => 3 | .putfield _ => 3
  | .invokevirtual _ => 3 | .invokespecial _ => 3 | .invokestatic _ => 3 | .new _ => 3 | .anewarray _ => 3
  | .tableswitch _ _ _ _ => a
  | _ => 1
def ev_ins (M : ev_M) (pc : Nat) : Option (Instr × Nat × Nat) := (M.2.2.2.2.2.find? (fun q => q.1 == pc)).map (fun q => q.2)
def ev_dec (M : ev_M) : Bool := M.2.2.2.2.2.all (fun q => decide (decode M.2.1 q.1 = .ok (q.2.1, ev_len q.2.1 q.2.2.1)))
theorem ev_ins_mem {M : ev_M} {pc : Nat} {x : Instr × Nat × Nat} (hi : ev_ins M pc = some x) : (pc, x) ∈ M.2.2.2.2.2 := by
  unfold ev_ins at hi
  cases hf : M.2.2.2.2.2.find? (fun q => q.1 == pc) with
  | none => rw [hf] at hi; cases hi
  | some q =>
    rw [hf] at hi
    have h1 : q.1 = pc := by simpa using List.find?_some hf
    have h2 : q.2 = x := Option.some.inj hi
    have h3 : q = (pc, x) := by rw [← h1, ← h2]
    rw [← h3]
    exact List.mem_of_find?_eq_some hf
theorem ev_dec_at {M : ev_M} {pc : Nat} {i : Instr} {a b : Nat} (hM : ev_dec M = true) (hi : ev_ins M pc = some (i, a, b)) : decode M.2.1 pc = .ok (i, ev_len i a) := by
  have h := List.all_eq_true.mp hM _ (ev_ins_mem hi)
  exact of_decide_eq_true h
/-- what stays the same while a method runs -/
def ev_fx (w : ev_W) (M : ev_M) (p : Program) (s : State) (m : MethodId) (meth : Method) (c : Code) : Prop :=
  p.tables.exec = Jvm.exec ∧ c.code = M.2.1 ∧ c.maxLocals = M.2.2.1 ∧ meth.sig.returnType = M.2.2.2.1 ∧ meth.locks = false ∧ s.vm.findClass M.1.cls = some m.cls ∧ meth.name = M.1.name ∧
  c.exceptionTable.toList.map (fun h => (h.startPc, h.endPc, h.handlerPc, h.catchType)) = M.2.2.2.2.1 ∧ w.2.1.WarmedH s.vm
/-- the room of a method that needs d.1 frames and d.2 words, begun with the small heap h0 -/
def ev_fit (w : ev_W) (d : Nat × Nat) (h0 : ev_H) (R : Room) : Prop := d.1 ≤ R.frames ∧ d.2 ≤ R.locals ∧ w.2.2.2.2.2.2.1 ≤ h0.length + R.cells ∧ w.2.2.2.2.2.2.2.1 ≤ ev_cost h0 + R.slots
def ev_out (w : ev_W) (r : ev_R) (h' : ev_H) (o : Outcome) : Prop := match r with
  | .inl v => o = .returned (v.map (ev_v w))
  | .inr k => o = .threw (ev_base w + k) ∧ ∃ c, h'[k]? = some (.inr (c, []))
def ev_end (w : ev_W) (h0 : ev_H) (Q : ev_R → ev_H → Prop) (s : State) (o : Outcome) (t : State) : Prop :=
  ∃ (r : ev_R) (h' : ev_H), Q r h' ∧ ev_out w r h' o ∧ ev_rep w h' t.heap ∧ h0.length ≤ h'.length ∧ ev_cost h0 ≤ ev_cost h' ∧ h'.length ≤ w.2.2.2.2.2.2.1 ∧ ev_cost h' ≤ w.2.2.2.2.2.2.2.1 ∧ s.WarmedH t.vm ∧
    ∃ L : List Loc, s.sameButNew ({ t with vm := s.vm } : State) L (h'.length - h0.length) (ev_cost h' - ev_cost h0) ∧ ∀ z ∈ L, ev_A w z.base
def ev_PQ (w : ev_W) (h0 : ev_H) (Q : ev_R → ev_H → Prop) (below : List Frame) (s : State) : State → Prop := fun t =>
  ∃ o, t.status = .running ∧ Ended t below o ∧ ev_end w h0 Q s o t
def ev_cx (w : ev_W) (M : ev_M) (d : Nat × Nat) (h0 : ev_H) (p : Program) (R : Room) (s : State) (m : MethodId) (meth : Method) (c : Code) (h : ev_H) (H : Heap) (locs : List Loc) (L : List (Option Value)) (ls : Array Slot) : Prop :=
  ev_fx w M p s m meth c ∧ ev_rep w h0 s.heap ∧ ev_fit w d h0 R ∧ va_P w.2.2.2.1 ev_cl (ev_ws w h) H ∧ va_S (ev_A w) s.heap H locs ∧ ev_ls w M.2.2.1 L ls ∧ h0.length ≤ h.length ∧ ev_cost h0 ≤ ev_cost h ∧ h.length ≤ w.2.2.2.2.2.2.1 ∧ ev_cost h ≤ w.2.2.2.2.2.2.2.1
def ev_G (w : ev_W) (M : ev_M) (d : Nat × Nat) (h0 : ev_H) (Q : ev_R → ev_H → Prop) (pc : Nat) (L : List (Option Value)) (st : List Value) (h : ev_H) : Prop :=
  ∀ (p : Program) (e : Env) (R : Room) (s : State) (m : MethodId) (args : Array Value) (below : List Frame) (meth : Method) (c : Code) (H : Heap) (locs : List Loc) (ls : Array Slot),
    ev_cx w M d h0 p R s m meth c h H locs L ls →
    W p w.1 e R s m args below meth c H locs (h.length - h0.length) (ev_cost h - ev_cost h0) (ev_PQ w h0 Q below s) (F0 m pc ls (st.map (ev_v w)))
variable {w : ev_W} {M : ev_M} {d : Nat × Nat} {h0 : ev_H} {Q : ev_R → ev_H → Prop} {pc : Nat} {L : List (Option Value)} {st : List Value} {h : ev_H} {a b : Nat}
theorem ev_cx.stored {p : Program} {R : Room} {s : State} {m : MethodId} {meth : Method} {c : Code} {H : Heap} {locs : List Loc} {ls ls' : Array Slot} (C : ev_cx w M d h0 p R s m meth c h H locs L ls) {i : Nat} {v : Value} (hc : v.category = 1)
    (h' : lv_has ls' M.2.2.1 ((i, ev_v w v) :: (ev_lv w L).filter (fun q => !(q.1 == i) && !(q.1 + 1 == i && q.2.category == 2)))) : ev_cx w M d h0 p R s m meth c h H locs (L.set i (some v)) ls' := by
  obtain ⟨c1, c2, c3, c4, c5, c6, c7⟩ := C
  exact ⟨c1, c2, c3, c4, c5, c6.put hc h', c7⟩
theorem ev_iconst (hM : ev_dec M = true) {n : Int} (hi : ev_ins M pc = some (.iconst n, a, b)) (k : ev_G w M d h0 Q (pc + 1) L (.int (Int32.ofInt n) :: st) h) : ev_G w M d h0 Q pc L st h := by
  intro p e R s m args below meth c H locs ls C
  exact lv_iconst C.1.1 C.1.2.1 (ev_dec_at hM hi) rfl (k p e R s m args below meth c H locs ls C)
theorem ev_bipush (hM : ev_dec M = true) {n : Int} (hi : ev_ins M pc = some (.bipush n, a, b)) (k : ev_G w M d h0 Q (pc + 2) L (.int (Int8.ofInt n).toInt32 :: st) h) : ev_G w M d h0 Q pc L st h := by
  intro p e R s m args below meth c H locs ls C
  exact lv_bipush C.1.1 C.1.2.1 (ev_dec_at hM hi) rfl (k p e R s m args below meth c H locs ls C)
theorem ev_sipush (hM : ev_dec M = true) {n : Int} (hi : ev_ins M pc = some (.sipush n, a, b)) (k : ev_G w M d h0 Q (pc + 3) L (.int (Int16.ofInt n).toInt32 :: st) h) : ev_G w M d h0 Q pc L st h := by
  intro p e R s m args below meth c H locs ls C
  exact lv_sipush C.1.1 C.1.2.1 (ev_dec_at hM hi) rfl (k p e R s m args below meth c H locs ls C)
theorem ev_iload_n (hM : ev_dec M = true) {i : Fin 4} {x : Int32} (hi : ev_ins M pc = some (.iload_n i, a, b)) (hl : L[(i : Nat)]? = some (some (.int x))) (k : ev_G w M d h0 Q (pc + 1) L (.int x :: st) h) : ev_G w M d h0 Q pc L st h := by
  intro p e R s m args below meth c H locs ls C
  exact lv_iload_n C.1.1 C.1.2.1 (ev_dec_at hM hi) rfl (C.2.2.2.2.2.1.get hl) (k p e R s m args below meth c H locs ls C)
theorem ev_iload (hM : ev_dec M = true) {i : Nat} {x : Int32} (hi : ev_ins M pc = some (.iload i, a, b)) (hl : L[i]? = some (some (.int x))) (k : ev_G w M d h0 Q (pc + 2) L (.int x :: st) h) : ev_G w M d h0 Q pc L st h := by
  intro p e R s m args below meth c H locs ls C
  exact lv_iload C.1.1 C.1.2.1 (ev_dec_at hM hi) (C.2.2.2.2.2.1.get hl) (k p e R s m args below meth c H locs ls C)
theorem ev_aload_n (hM : ev_dec M = true) {i : Fin 4} {x : Nat} (hi : ev_ins M pc = some (.aload_n i, a, b)) (hl : L[(i : Nat)]? = some (some (.ref x))) (k : ev_G w M d h0 Q (pc + 1) L (.ref x :: st) h) : ev_G w M d h0 Q pc L st h := by
  intro p e R s m args below meth c H locs ls C
  exact lv_aload_n C.1.1 C.1.2.1 (ev_dec_at hM hi) rfl (C.2.2.2.2.2.1.get hl) (k p e R s m args below meth c H locs ls C)
theorem ev_aload (hM : ev_dec M = true) {i : Nat} {x : Nat} (hi : ev_ins M pc = some (.aload i, a, b)) (hl : L[i]? = some (some (.ref x))) (k : ev_G w M d h0 Q (pc + 2) L (.ref x :: st) h) : ev_G w M d h0 Q pc L st h := by
  intro p e R s m args below meth c H locs ls C
  exact lv_aload C.1.1 C.1.2.1 (ev_dec_at hM hi) (C.2.2.2.2.2.1.get hl) (k p e R s m args below meth c H locs ls C)
theorem ev_aload_nS (hM : ev_dec M = true) {i : Fin 4} {x : Nat} (hi : ev_ins M pc = some (.aload_n i, a, b)) (hl : L[(i : Nat)]? = some (some (.retAddr x))) (k : ev_G w M d h0 Q (pc + 1) L (.retAddr x :: st) h) : ev_G w M d h0 Q pc L st h := by
  intro p e R s m args below meth c H locs ls C
  exact lv_aload_n C.1.1 C.1.2.1 (ev_dec_at hM hi) rfl (C.2.2.2.2.2.1.get hl) (k p e R s m args below meth c H locs ls C)
theorem ev_aloadS (hM : ev_dec M = true) {i : Nat} {x : Nat} (hi : ev_ins M pc = some (.aload i, a, b)) (hl : L[i]? = some (some (.retAddr x))) (k : ev_G w M d h0 Q (pc + 2) L (.retAddr x :: st) h) : ev_G w M d h0 Q pc L st h := by
  intro p e R s m args below meth c H locs ls C
  exact lv_aload C.1.1 C.1.2.1 (ev_dec_at hM hi) (C.2.2.2.2.2.1.get hl) (k p e R s m args below meth c H locs ls C)
theorem ev_istore_n (hM : ev_dec M = true) {i : Fin 4} {x : Int32} (hi : ev_ins M pc = some (.istore_n i, a, b)) (hn : (i : Nat) < M.2.2.1) (k : ev_G w M d h0 Q (pc + 1) (L.set (i : Nat) (some (.int x))) st h) : ev_G w M d h0 Q pc L (.int x :: st) h := by
  intro p e R s m args below meth c H locs ls C
  exact lv_istore_n C.1.1 C.1.2.1 (ev_dec_at hM hi) rfl C.2.2.2.2.2.1.1 hn rfl (fun ls' h' => k p e R s m args below meth c H locs ls' (C.stored (v := .int x) rfl h'))
theorem ev_istore (hM : ev_dec M = true) {i : Nat} {x : Int32} (hi : ev_ins M pc = some (.istore i, a, b)) (hn : i < M.2.2.1) (k : ev_G w M d h0 Q (pc + 2) (L.set i (some (.int x))) st h) : ev_G w M d h0 Q pc L (.int x :: st) h := by
  intro p e R s m args below meth c H locs ls C
  exact lv_istore C.1.1 C.1.2.1 (ev_dec_at hM hi) C.2.2.2.2.2.1.1 hn rfl (fun ls' h' => k p e R s m args below meth c H locs ls' (C.stored (v := .int x) rfl h'))
theorem ev_astore_n (hM : ev_dec M = true) {i : Fin 4} {x : Nat} (hi : ev_ins M pc = some (.astore_n i, a, b)) (hn : (i : Nat) < M.2.2.1) (k : ev_G w M d h0 Q (pc + 1) (L.set (i : Nat) (some (.ref x))) st h) : ev_G w M d h0 Q pc L (.ref x :: st) h := by
  intro p e R s m args below meth c H locs ls C
  exact lv_astore_n C.1.1 C.1.2.1 (ev_dec_at hM hi) rfl C.2.2.2.2.2.1.1 hn rfl (fun ls' h' => k p e R s m args below meth c H locs ls' (C.stored (v := .ref x) rfl h'))
theorem ev_astore (hM : ev_dec M = true) {i : Nat} {x : Nat} (hi : ev_ins M pc = some (.astore i, a, b)) (hn : i < M.2.2.1) (k : ev_G w M d h0 Q (pc + 2) (L.set i (some (.ref x))) st h) : ev_G w M d h0 Q pc L (.ref x :: st) h := by
  intro p e R s m args below meth c H locs ls C
  exact lv_astore C.1.1 C.1.2.1 (ev_dec_at hM hi) C.2.2.2.2.2.1.1 hn rfl (fun ls' h' => k p e R s m args below meth c H locs ls' (C.stored (v := .ref x) rfl h'))
theorem ev_astore_nS (hM : ev_dec M = true) {i : Fin 4} {x : Nat} (hi : ev_ins M pc = some (.astore_n i, a, b)) (hn : (i : Nat) < M.2.2.1) (k : ev_G w M d h0 Q (pc + 1) (L.set (i : Nat) (some (.retAddr x))) st h) : ev_G w M d h0 Q pc L (.retAddr x :: st) h := by
  intro p e R s m args below meth c H locs ls C
  exact lv_astore_n C.1.1 C.1.2.1 (ev_dec_at hM hi) rfl C.2.2.2.2.2.1.1 hn rfl (fun ls' h' => k p e R s m args below meth c H locs ls' (C.stored (v := .retAddr x) rfl h'))
theorem ev_astoreS (hM : ev_dec M = true) {i : Nat} {x : Nat} (hi : ev_ins M pc = some (.astore i, a, b)) (hn : i < M.2.2.1) (k : ev_G w M d h0 Q (pc + 2) (L.set i (some (.retAddr x))) st h) : ev_G w M d h0 Q pc L (.retAddr x :: st) h := by
  intro p e R s m args below meth c H locs ls C
  exact lv_astore C.1.1 C.1.2.1 (ev_dec_at hM hi) C.2.2.2.2.2.1.1 hn rfl (fun ls' h' => k p e R s m args below meth c H locs ls' (C.stored (v := .retAddr x) rfl h'))
theorem ev_iinc (hM : ev_dec M = true) {i : Nat} {n : Int} {x : Int32} (hi : ev_ins M pc = some (.iinc i n, a, b)) (hl : L[i]? = some (some (.int x))) (hn : i < M.2.2.1) (k : ev_G w M d h0 Q (pc + 3) (L.set i (some (.int (x + Int32.ofInt n)))) st h) : ev_G w M d h0 Q pc L st h := by
  intro p e R s m args below meth c H locs ls C
  obtain ⟨j, hj⟩ := List.getElem?_of_mem (ev_lv_mem (w := w) hl)
  exact lv_iinc (k := j) (x := x) C.1.1 C.1.2.1 (ev_dec_at hM hi) C.2.2.2.2.2.1.1 hj rfl hn rfl (fun ls' h' => k p e R s m args below meth c H locs ls' (C.stored (v := .int (x + Int32.ofInt n)) rfl h'))
theorem ev_iadd (hM : ev_dec M = true) {x y : Int32} (hi : ev_ins M pc = some (.iadd, a, b)) (k : ev_G w M d h0 Q (pc + 1) L (.int (x + y) :: st) h) : ev_G w M d h0 Q pc L (.int y :: .int x :: st) h := by
  intro p e R s m args below meth c H locs ls C
  exact lv_iadd C.1.1 C.1.2.1 (ev_dec_at hM hi) (k p e R s m args below meth c H locs ls C)
theorem ev_isub (hM : ev_dec M = true) {x y : Int32} (hi : ev_ins M pc = some (.isub, a, b)) (k : ev_G w M d h0 Q (pc + 1) L (.int (x - y) :: st) h) : ev_G w M d h0 Q pc L (.int y :: .int x :: st) h := by
  intro p e R s m args below meth c H locs ls C
  exact lv_isub C.1.1 C.1.2.1 (ev_dec_at hM hi) (k p e R s m args below meth c H locs ls C)
theorem ev_imul (hM : ev_dec M = true) {x y : Int32} (hi : ev_ins M pc = some (.imul, a, b)) (k : ev_G w M d h0 Q (pc + 1) L (.int (x * y) :: st) h) : ev_G w M d h0 Q pc L (.int y :: .int x :: st) h := by
  intro p e R s m args below meth c H locs ls C
  exact lv_imul C.1.1 C.1.2.1 (ev_dec_at hM hi) (k p e R s m args below meth c H locs ls C)
theorem ev_iand (hM : ev_dec M = true) {x y : Int32} (hi : ev_ins M pc = some (.iand, a, b)) (k : ev_G w M d h0 Q (pc + 1) L (.int (x &&& y) :: st) h) : ev_G w M d h0 Q pc L (.int y :: .int x :: st) h := by
  intro p e R s m args below meth c H locs ls C
  exact lv_iand C.1.1 C.1.2.1 (ev_dec_at hM hi) (k p e R s m args below meth c H locs ls C)
theorem ev_ior (hM : ev_dec M = true) {x y : Int32} (hi : ev_ins M pc = some (.ior, a, b)) (k : ev_G w M d h0 Q (pc + 1) L (.int (x ||| y) :: st) h) : ev_G w M d h0 Q pc L (.int y :: .int x :: st) h := by
  intro p e R s m args below meth c H locs ls C
  exact lv_ior C.1.1 C.1.2.1 (ev_dec_at hM hi) (k p e R s m args below meth c H locs ls C)
theorem ev_ishl (hM : ev_dec M = true) {x y : Int32} (hi : ev_ins M pc = some (.ishl, a, b)) (k : ev_G w M d h0 Q (pc + 1) L (.int (x <<< (y &&& 31)) :: st) h) : ev_G w M d h0 Q pc L (.int y :: .int x :: st) h := by
  intro p e R s m args below meth c H locs ls C
  exact lv_ishl C.1.1 C.1.2.1 (ev_dec_at hM hi) (k p e R s m args below meth c H locs ls C)
theorem ev_ishr (hM : ev_dec M = true) {x y : Int32} (hi : ev_ins M pc = some (.ishr, a, b)) (k : ev_G w M d h0 Q (pc + 1) L (.int (x >>> (y &&& 31)) :: st) h) : ev_G w M d h0 Q pc L (.int y :: .int x :: st) h := by
  intro p e R s m args below meth c H locs ls C
  exact lv_ishr C.1.1 C.1.2.1 (ev_dec_at hM hi) (k p e R s m args below meth c H locs ls C)
theorem ev_idiv (hM : ev_dec M = true) {x y : Int32} (hi : ev_ins M pc = some (.idiv, a, b)) (hne : ¬ y = 0) (k : ev_G w M d h0 Q (pc + 1) L (.int (x / y) :: st) h) : ev_G w M d h0 Q pc L (.int y :: .int x :: st) h := by
  intro p e R s m args below meth c H locs ls C
  exact lv_idiv C.1.1 C.1.2.1 (ev_dec_at hM hi) hne (k p e R s m args below meth c H locs ls C)
theorem ev_irem (hM : ev_dec M = true) {x y : Int32} (hi : ev_ins M pc = some (.irem, a, b)) (hne : ¬ y = 0) (k : ev_G w M d h0 Q (pc + 1) L (.int (x - x / y * y) :: st) h) : ev_G w M d h0 Q pc L (.int y :: .int x :: st) h := by
  intro p e R s m args below meth c H locs ls C
  exact lv_irem C.1.1 C.1.2.1 (ev_dec_at hM hi) hne (k p e R s m args below meth c H locs ls C)
theorem ev_ineg (hM : ev_dec M = true) {x : Int32} (hi : ev_ins M pc = some (.ineg, a, b)) (k : ev_G w M d h0 Q (pc + 1) L (.int (-x) :: st) h) : ev_G w M d h0 Q pc L (.int x :: st) h := by
  intro p e R s m args below meth c H locs ls C
  exact lv_ineg C.1.1 C.1.2.1 (ev_dec_at hM hi) (k p e R s m args below meth c H locs ls C)
theorem ev_i2c (hM : ev_dec M = true) {x : Int32} (hi : ev_ins M pc = some (.i2c, a, b)) (k : ev_G w M d h0 Q (pc + 1) L (.int (x.toUInt32 % 65536).toInt32 :: st) h) : ev_G w M d h0 Q pc L (.int x :: st) h := by
  intro p e R s m args below meth c H locs ls C
  exact lv_i2c C.1.1 C.1.2.1 (ev_dec_at hM hi) rfl (k p e R s m args below meth c H locs ls C)
theorem ev_i2l (hM : ev_dec M = true) {x : Int32} (hi : ev_ins M pc = some (.i2l, a, b)) (k : ev_G w M d h0 Q (pc + 1) L (.long x.toInt64 :: st) h) : ev_G w M d h0 Q pc L (.int x :: st) h := by
  intro p e R s m args below meth c H locs ls C
  exact lv_i2l C.1.1 C.1.2.1 (ev_dec_at hM hi) rfl (k p e R s m args below meth c H locs ls C)
theorem ev_lcmp (hM : ev_dec M = true) {x y : Int64} (hi : ev_ins M pc = some (.lcmp, a, b)) (k : ev_G w M d h0 Q (pc + 1) L (.int (lg_cmp x y) :: st) h) : ev_G w M d h0 Q pc L (.long y :: .long x :: st) h := by
  intro p e R s m args below meth c H locs ls C
  exact W.lcmp C.1.1 C.1.2.1 (ev_dec_at hM hi) (k p e R s m args below meth c H locs ls C)
theorem ev_dup (hM : ev_dec M = true) {v : Value} (hi : ev_ins M pc = some (.dup, a, b)) (hv : v.category = 1) (k : ev_G w M d h0 Q (pc + 1) L (v :: v :: st) h) : ev_G w M d h0 Q pc L (v :: st) h := by
  intro p e R s m args below meth c H locs ls C
  exact lv_dup C.1.1 C.1.2.1 (ev_dec_at hM hi) ((ev_v_cat w v).trans hv) (k p e R s m args below meth c H locs ls C)
theorem ev_pop (hM : ev_dec M = true) {v : Value} (hi : ev_ins M pc = some (.pop, a, b)) (hv : v.category = 1) (k : ev_G w M d h0 Q (pc + 1) L st h) : ev_G w M d h0 Q pc L (v :: st) h := by
  intro p e R s m args below meth c H locs ls C
  exact lv_pop C.1.1 C.1.2.1 (ev_dec_at hM hi) ((ev_v_cat w v).trans hv) (k p e R s m args below meth c H locs ls C)
theorem ev_dup_x1 (hM : ev_dec M = true) {v u : Value} (hi : ev_ins M pc = some (.dup_x1, a, b)) (hv : v.category = 1) (hu : u.category = 1) (k : ev_G w M d h0 Q (pc + 1) L (v :: u :: v :: st) h) : ev_G w M d h0 Q pc L (v :: u :: st) h := by
  intro p e R s m args below meth c H locs ls C
  exact lv_dup_x1 C.1.1 C.1.2.1 (ev_dec_at hM hi) ((ev_v_cat w v).trans hv) ((ev_v_cat w u).trans hu) (k p e R s m args below meth c H locs ls C)
theorem ev_dup2 (hM : ev_dec M = true) {v u : Value} (hi : ev_ins M pc = some (.dup2, a, b)) (hv : v.category = 1) (hu : u.category = 1) (k : ev_G w M d h0 Q (pc + 1) L (v :: u :: v :: u :: st) h) : ev_G w M d h0 Q pc L (v :: u :: st) h := by
  intro p e R s m args below meth c H locs ls C
  exact lv_dup2_11 C.1.1 C.1.2.1 (ev_dec_at hM hi) ((ev_v_cat w v).trans hv) ((ev_v_cat w u).trans hu) (k p e R s m args below meth c H locs ls C)
/-- the conditions of the branches -/
def ev_c0 (c : Jvm.ClassFile.Cond) (x : Int32) : Bool := match c with
  | .eq => decide (x = 0) | .ne => decide (¬ x = 0) | .lt => decide (x < 0) | .ge => decide (0 ≤ x) | .gt => decide (0 < x) | .le => decide (x ≤ 0)
def ev_c2 (c : Jvm.ClassFile.Cond) (x y : Int32) : Bool := match c with
  | .eq => decide (x = y) | .ne => decide (¬ x = y) | .lt => decide (x < y) | .ge => decide (y ≤ x) | .gt => decide (y < x) | .le => decide (x ≤ y)
theorem ev_goto (hM : ev_dec M = true) {off : Int} {tgt : Nat} (hi : ev_ins M pc = some (.goto off, a, b)) (ht : (pc : Int) + off = (tgt : Int)) (k : ev_G w M d h0 Q tgt L st h) : ev_G w M d h0 Q pc L st h := by
  intro p e R s m args below meth c H locs ls C
  exact lv_goto C.1.1 C.1.2.1 (ev_dec_at hM hi) ht (k p e R s m args below meth c H locs ls C)
theorem ev_if (hM : ev_dec M = true) {x : Int32} {cd : Jvm.ClassFile.Cond} {off : Int} {tgt : Nat} (hi : ev_ins M pc = some (.ifCond cd off, a, b)) (ht : (pc : Int) + off = (tgt : Int)) (kt : ev_c0 cd x = true → ev_G w M d h0 Q tgt L st h) (kf : ev_c0 cd x = false → ev_G w M d h0 Q (pc + 3) L st h) : ev_G w M d h0 Q pc L (.int x :: st) h := by
  intro p e R s m args below meth c H locs ls C
  cases cd
  · exact lv_if_eq C.1.1 C.1.2.1 (ev_dec_at hM hi) ht (fun q => kt (decide_eq_true q) p e R s m args below meth c H locs ls C) (fun q => kf (decide_eq_false q) p e R s m args below meth c H locs ls C)
  · exact lv_if_ne C.1.1 C.1.2.1 (ev_dec_at hM hi) ht (fun q => kt (decide_eq_true q) p e R s m args below meth c H locs ls C) (fun q => kf (decide_eq_false (fun z => z q)) p e R s m args below meth c H locs ls C)
  · exact lv_if_lt C.1.1 C.1.2.1 (ev_dec_at hM hi) ht (fun q => kt (decide_eq_true q) p e R s m args below meth c H locs ls C) (fun q => kf (decide_eq_false q) p e R s m args below meth c H locs ls C)
  · exact lv_if_ge C.1.1 C.1.2.1 (ev_dec_at hM hi) ht (fun q => kt (decide_eq_true q) p e R s m args below meth c H locs ls C) (fun q => kf (decide_eq_false q) p e R s m args below meth c H locs ls C)
  · exact lv_if_gt C.1.1 C.1.2.1 (ev_dec_at hM hi) ht (fun q => kt (decide_eq_true q) p e R s m args below meth c H locs ls C) (fun q => kf (decide_eq_false q) p e R s m args below meth c H locs ls C)
  · exact lv_if_le C.1.1 C.1.2.1 (ev_dec_at hM hi) ht (fun q => kt (decide_eq_true q) p e R s m args below meth c H locs ls C) (fun q => kf (decide_eq_false q) p e R s m args below meth c H locs ls C)
theorem ev_icmp (hM : ev_dec M = true) {x y : Int32} {cd : Jvm.ClassFile.Cond} {off : Int} {tgt : Nat} (hi : ev_ins M pc = some (.if_icmp cd off, a, b)) (ht : (pc : Int) + off = (tgt : Int)) (kt : ev_c2 cd x y = true → ev_G w M d h0 Q tgt L st h) (kf : ev_c2 cd x y = false → ev_G w M d h0 Q (pc + 3) L st h) : ev_G w M d h0 Q pc L (.int y :: .int x :: st) h := by
  intro p e R s m args below meth c H locs ls C
  cases cd
  · exact lv_icmp_eq C.1.1 C.1.2.1 (ev_dec_at hM hi) ht (fun q => kt (decide_eq_true q) p e R s m args below meth c H locs ls C) (fun q => kf (decide_eq_false q) p e R s m args below meth c H locs ls C)
  · exact lv_icmp_ne C.1.1 C.1.2.1 (ev_dec_at hM hi) ht (fun q => kt (decide_eq_true q) p e R s m args below meth c H locs ls C) (fun q => kf (decide_eq_false (fun z => z q)) p e R s m args below meth c H locs ls C)
  · exact lv_icmp_lt C.1.1 C.1.2.1 (ev_dec_at hM hi) ht (fun q => kt (decide_eq_true q) p e R s m args below meth c H locs ls C) (fun q => kf (decide_eq_false q) p e R s m args below meth c H locs ls C)
  · exact lv_icmp_ge C.1.1 C.1.2.1 (ev_dec_at hM hi) ht (fun q => kt (decide_eq_true q) p e R s m args below meth c H locs ls C) (fun q => kf (decide_eq_false q) p e R s m args below meth c H locs ls C)
  · exact lv_icmp_gt C.1.1 C.1.2.1 (ev_dec_at hM hi) ht (fun q => kt (decide_eq_true q) p e R s m args below meth c H locs ls C) (fun q => kf (decide_eq_false q) p e R s m args below meth c H locs ls C)
  · exact lv_icmp_le C.1.1 C.1.2.1 (ev_dec_at hM hi) ht (fun q => kt (decide_eq_true q) p e R s m args below meth c H locs ls C) (fun q => kf (decide_eq_false q) p e R s m args below meth c H locs ls C)
theorem ev_tableIn (hM : ev_dec M = true) {x : Int32} {dflt lo hi' off : Int} {offs : Array Int} {tgt : Nat} (hi : ev_ins M pc = some (.tableswitch dflt lo hi' offs, a, b)) (h1 : ¬ x.toInt < lo) (h2 : ¬ hi' < x.toInt) (ho : offs[(x.toInt - lo).toNat]? = some off) (ht : (pc : Int) + off = (tgt : Int)) (k : ev_G w M d h0 Q tgt L st h) : ev_G w M d h0 Q pc L (.int x :: st) h := by
  intro p e R s m args below meth c H locs ls C
  exact lv_tableIn C.1.1 C.1.2.1 (ev_dec_at hM hi) h1 h2 ho ht (k p e R s m args below meth c H locs ls C)
theorem ev_tableOut (hM : ev_dec M = true) {x : Int32} {dflt lo hi' : Int} {offs : Array Int} {tgt : Nat} (hi : ev_ins M pc = some (.tableswitch dflt lo hi' offs, a, b)) (h1 : x.toInt < lo ∨ hi' < x.toInt) (ht : (pc : Int) + dflt = (tgt : Int)) (k : ev_G w M d h0 Q tgt L st h) : ev_G w M d h0 Q pc L (.int x :: st) h := by
  intro p e R s m args below meth c H locs ls C
  exact lv_tableOut C.1.1 C.1.2.1 (ev_dec_at hM hi) h1 ht (k p e R s m args below meth c H locs ls C)
end EvG
end
section
/-! the rows that read and write the heap, and those that make cells -/
section EvHeap
def ev_has (x : Cond) : Bool := decide (x ∈ lw_tbl) && goodWord x
def ev_Tg : List Cond := lw_tbl.filter goodWord
theorem ev_has_mem {x : Cond} (hx : ev_has x = true) : x ∈ ev_Tg := by
  simp only [ev_has, Bool.and_eq_true, decide_eq_true_eq] at hx
  exact List.mem_filter.mpr ⟨hx.1, hx.2⟩
def ev_tys (w : ev_W) : List (ClassId × FieldType) := [(w.2.2.2.2.1 0, .int), (w.2.2.2.2.1 1, .char), (w.2.2.2.2.1 2, .long), (w.2.2.2.2.1 3, .object ev_Let)]
/-- what is known of the world: the tables' words, the classes, no traces, the script -/
def ev_ok (w : ev_W) : Prop := (∀ x ∈ lw_tbl, x.before w.2.2.1 w.2.1 = true) ∧ va_K w.2.2.2.1 ev_cl (ev_tys w) w.2.1 ∧ w.1.stackTraces = false ∧
  va_X w.2.2.2.2.2.1 w.2.2.2.2.2.2.2.2.1 w.2.2.2.2.2.2.2.2.2 w.2.1 w.2.1.heap ∧ w.2.2.2.2.2.1 < w.2.1.heap.size
theorem ev_word {w : ev_W} (ok : ev_ok w) {s : State} (hW : w.2.1.WarmedH s.vm) {x : Cond} (hx : ev_has x = true) (args : Array Value) : x.before args s = true := by
  simp only [ev_has, Bool.and_eq_true, decide_eq_true_eq] at hx
  exact word_at hW (good_of_word hx.2) (ok.1 x hx.1)
theorem ev_hts {w : ev_W} (ok : ev_ok w) {s : State} (hW : w.2.1.WarmedH s.vm) {args : Array Value} : ∀ x ∈ ev_Tg, x.before args s = true := fun x hx =>
  word_at hW (good_of_word (List.mem_filter.mp hx).2) (ok.1 x (List.mem_filter.mp hx).1)
def ev_fty (q : vw_C) (k : Nat) : FieldType := (parseFieldDescriptor (q.2.1 k).2.2.1).getD .int
def ev_clq (q : vw_C) : Bool := (u_ws q.1 q.2.1 q.2.2).all ev_has && (List.range q.2.2).all (fun k => decide (parseFieldDescriptor (q.2.1 k).2.2.1 = some (ev_fty q k))) &&
  (List.range q.2.2).all (fun a => (List.range q.2.2).all (fun b => decide (a = b) || decide ((q.2.1 a).2.1 ≠ (q.2.1 b).2.1)))
theorem ev_clq_in {q : vw_C} (h : ev_clq q = true) : ∀ x ∈ u_ws q.1 q.2.1 q.2.2, x ∈ ev_Tg := by
  simp only [ev_clq, Bool.and_eq_true] at h
  exact fun x hx => ev_has_mem (List.all_eq_true.mp h.1.1 x hx)
theorem ev_clq_ty {q : vw_C} (h : ev_clq q = true) : ∀ k, k < q.2.2 → parseFieldDescriptor (q.2.1 k).2.2.1 = some (ev_fty q k) := by
  simp only [ev_clq, Bool.and_eq_true] at h
  exact fun k hk => of_decide_eq_true (List.all_eq_true.mp h.1.2 k (List.mem_range.mpr hk))
theorem ev_clq_nm {q : vw_C} (h : ev_clq q = true) : ∀ a, a < q.2.2 → ∀ b, b < q.2.2 → a ≠ b → (q.2.1 a).2.1 ≠ (q.2.1 b).2.1 := by
  simp only [ev_clq, Bool.and_eq_true] at h
  intro a ha b hb hne
  have h1 := List.all_eq_true.mp (List.all_eq_true.mp h.2 a (List.mem_range.mpr ha)) b (List.mem_range.mpr hb)
  simp only [Bool.or_eq_true, decide_eq_true_eq] at h1
  exact h1.resolve_left hne
theorem ev_cl_all : ev_cl.all ev_clq = true := by decide +kernel
end EvHeap
end
section
section EvHeap2
theorem ev_cl_q {ci : Nat} {q : vw_C} (hc : ev_cl[ci]? = some q) : ev_clq q = true := List.all_eq_true.mp ev_cl_all q (List.mem_of_getElem? hc)
/-- a field's link -/
def ev_lkf (own : String) (idx ci k : Nat) : Bool := match ev_cl[ci]? with
  | none => false
  | some q => decide (k < q.2.2) && (ev_has (.fieldLink own idx (q.2.1 k).1 (q.2.1 k).2.1 (q.2.1 k).2.2.1) || ev_has (.fieldLinkNest own idx (q.2.1 k).1 (q.2.1 k).2.1 (q.2.1 k).2.2.1 ev_host))
theorem ev_lkf_of {own : String} {idx ci k : Nat} (h : ev_lkf own idx ci k = true) : ∃ q : vw_C, ev_cl[ci]? = some q ∧ k < q.2.2 ∧
    (ev_has (.fieldLink own idx (q.2.1 k).1 (q.2.1 k).2.1 (q.2.1 k).2.2.1) = true ∨ ev_has (.fieldLinkNest own idx (q.2.1 k).1 (q.2.1 k).2.1 (q.2.1 k).2.2.1 ev_host) = true) := by
  unfold ev_lkf at h
  cases hc : ev_cl[ci]? with
  | none => rw [hc] at h; cases h
  | some q =>
    rw [hc] at h
    simp only [Bool.and_eq_true, Bool.or_eq_true, decide_eq_true_eq] at h
    exact ⟨q, rfl, h.1, h.2⟩
variable {w : ev_W} {M : ev_M} {d : Nat × Nat} {h0 : ev_H} {Q : ev_R → ev_H → Prop} {pc : Nat} {L : List (Option Value)} {st : List Value} {h : ev_H} {a b : Nat}
theorem ev_fx.warm {p : Program} {s : State} {m : MethodId} {meth : Method} {c : Code} (F : ev_fx w M p s m meth c) : w.2.1.WarmedH s.vm := F.2.2.2.2.2.2.2.2
theorem ev_fx.own {p : Program} {s : State} {m : MethodId} {meth : Method} {c : Code} (F : ev_fx w M p s m meth c) : s.vm.findClass M.1.cls = some m.cls := F.2.2.2.2.2.1
theorem ev_getf (ok : ev_ok w) (hM : ev_dec M = true) {idx ci k x : Nat} {fs : List Value} {v : Value} (hi : ev_ins M pc = some (.getfield idx, ci, k)) (hlk : ev_lkf M.1.cls idx ci k = true) (hcell : h[x]? = some (.inr (ci, fs))) (hv : fs[k]? = some v)
    (kk : ev_G w M d h0 Q (pc + 3) L (v :: st) h) : ev_G w M d h0 Q pc L (.ref x :: st) h := by
  intro p e R s m args below meth c H locs ls C
  obtain ⟨⟨R0, T0, N0⟩, hc, hk, hl⟩ := ev_lkf_of hlk
  have hW := C.1.warm
  have hv' : (fs.map (ev_v w))[k]? = some (ev_v w v) := by rw [List.getElem?_map, hv]; rfl
  rcases hl with hl | hl
  · exact va_get C.1.1 C.1.2.1 (ev_hts ok hW) (ev_clq_in (ev_cl_q hc)) C.1.own (va_K.moved hW.alike ok.2.1) C.2.2.2.1 x (ev_ws_get hcell) hc k hk (ev_word ok hW hl args) (fun _ z => z) hv' (ev_dec_at hM hi) (kk p e R s m args below meth c H locs ls C)
  · exact va_getN C.1.1 C.1.2.1 (ev_hts ok hW) (ev_clq_in (ev_cl_q hc)) C.1.own (va_K.moved hW.alike ok.2.1) C.2.2.2.1 x (ev_ws_get hcell) hc k hk (ev_word ok hW hl args) (fun _ z => z) hv' (ev_dec_at hM hi) (kk p e R s m args below meth c H locs ls C)
/-- behind a store: the same heap but for one cell -/
theorem ev_G_set {x : Nat} {y y' : ev_E} (kk : ev_G w M d h0 Q pc L st (h.set x y')) (hx : h[x]? = some y) (hc : ev_c1 y' = ev_c1 y) {p : Program} {e : Env} {R : Room} {s : State} {m : MethodId} {args : Array Value} {below : List Frame} {meth : Method} {c : Code} {H H1 : Heap} {locs locs1 : List Loc} {ls : Array Slot}
    (C : ev_cx w M d h0 p R s m meth c h H locs L ls) (hP1 : va_P w.2.2.2.1 ev_cl ((ev_ws w h).set x (ev_base w + x, ev_e w y')) H1) (hS1 : va_S (ev_A w) s.heap H1 locs1) :
    W p w.1 e R s m args below meth c H1 locs1 (h.length - h0.length) (ev_cost h - ev_cost h0) (ev_PQ w h0 Q below s) (F0 m pc ls (st.map (ev_v w))) := by
  obtain ⟨c1, c2, c3, c4, c5, c6, c7, c8, c9, c10⟩ := C
  have h1 := kk p e R s m args below meth c H1 locs1 ls ⟨c1, c2, c3, by rw [ev_ws_set]; exact hP1, hS1, c6, by rw [List.length_set]; exact c7, by rw [ev_cost_set hx hc]; exact c8, by rw [List.length_set]; exact c9, by rw [ev_cost_set hx hc]; exact c10⟩
  rw [List.length_set, ev_cost_set hx hc] at h1
  exact h1
/-- what a field of a type takes -/
def ev_fitv (ty : FieldType) (v : Value) : Bool := match ty, v with
  | .int, .int _ => true
  | .boolean, .int x => decide (x = 0) || decide (x = 1)
  | .object _, .ref _ => true
  | .array _, .ref _ => true
  | _, _ => false
theorem ev_fitv_of {ty : FieldType} {v : Value} (hf : ev_fitv ty v = true) : narrow ty (ev_v w v) = ev_v w v ∧ fits ty (ev_v w v) = true := by
  cases ty <;> cases v <;> first | (exact ⟨rfl, rfl⟩) | (simp [ev_fitv] at hf; done) | skip
  all_goals
    simp only [ev_fitv, Bool.or_eq_true, decide_eq_true_eq] at hf
    rcases hf with rfl | rfl <;> exact ⟨rfl, rfl⟩
theorem ev_putf (ok : ev_ok w) (hM : ev_dec M = true) {idx ci k x : Nat} {q : vw_C} {fs : List Value} {v : Value} (hi : ev_ins M pc = some (.putfield idx, ci, k)) (hlk : ev_lkf M.1.cls idx ci k = true) (hq : ev_cl[ci]? = some q)
    (hfin : (q.2.1 k).2.2.2 = false ∨ ((q.2.1 k).2.2.2 = true ∧ M.1.name = "<init>" ∧ (q.2.1 k).1 = M.1.cls ∧ ev_has (.fieldLink M.1.cls idx (q.2.1 k).1 (q.2.1 k).2.1 (q.2.1 k).2.2.1) = true)) (hfit : ev_fitv (ev_fty q k) v = true) (hcell : h[x]? = some (.inr (ci, fs))) (hkl : k < fs.length)
    (kk : ev_G w M d h0 Q (pc + 3) L st (h.set x (.inr (ci, fs.set k v)))) : ev_G w M d h0 Q pc L (v :: .ref x :: st) h := by
  intro p e R s m args below meth c H locs ls C
  obtain ⟨q', hc, hk, hl⟩ := ev_lkf_of hlk
  cases hq.symm.trans hc
  have hW := C.1.warm
  have hcq := ev_cl_q hq
  obtain ⟨hnar, hfits⟩ := ev_fitv_of (w := w) hfit
  have hkl' : k < (fs.map (ev_v w)).length := by rw [List.length_map]; exact hkl
  have key : ∀ (H1 : Heap) (locs1 : List Loc), va_P w.2.2.2.1 ev_cl ((ev_ws w h).set x (ev_base w + x, .inr (ci, (fs.map (ev_v w)).set k (ev_v w v)))) H1 → va_D (ev_A w) ((ev_ws w h).set x (ev_base w + x, .inr (ci, (fs.map (ev_v w)).set k (ev_v w v)))) → va_S (ev_A w) s.heap H1 locs1 →
      W p w.1 e R s m args below meth c H1 locs1 (h.length - h0.length) (ev_cost h - ev_cost h0) (ev_PQ w h0 Q below s) (F0 m (pc + 3) ls (st.map (ev_v w))) := by
    intro H1 locs1 hP1 _ hS1
    refine ev_G_set kk hcell rfl C ?_ hS1
    show va_P w.2.2.2.1 ev_cl ((ev_ws w h).set x (ev_base w + x, .inr (ci, (fs.set k v).map (ev_v w)))) H1
    rw [List.map_set]
    exact hP1
  obtain ⟨R0, T0, N0⟩ := q
  rcases hfin with hfin | ⟨hfin, hnm, hdecl, hl⟩
  · rcases hl with hl | hl
    · exact va_put C.1.1 C.1.2.1 (ev_hts ok hW) (ev_clq_in hcq) (ev_fty (R0, T0, N0)) (ev_clq_ty hcq) (ev_clq_nm hcq) C.1.own (va_K.moved hW.alike ok.2.1) C.2.2.2.1 (ev_ws_D w h) C.2.2.2.2.1 x (ev_ws_get hcell) hq k hk (ev_word ok hW hl args) (fun _ z => z) hfin (ev_clq_ty hcq k hk) hnar hfits hkl' (ev_dec_at hM hi) key
    · exact va_putN C.1.1 C.1.2.1 (ev_hts ok hW) (ev_clq_in hcq) (ev_fty (R0, T0, N0)) (ev_clq_ty hcq) (ev_clq_nm hcq) C.1.own (va_K.moved hW.alike ok.2.1) C.2.2.2.1 (ev_ws_D w h) C.2.2.2.2.1 x (ev_ws_get hcell) hq k hk (ev_word ok hW hl args) (fun _ z => z) hfin (ev_clq_ty hcq k hk) hnar hfits hkl' (ev_dec_at hM hi) key
  · exact va_putF C.1.1 C.1.2.1 (ev_hts ok hW) (ev_clq_in hcq) (ev_fty (R0, T0, N0)) (ev_clq_ty hcq) (ev_clq_nm hcq) C.1.own (va_K.moved hW.alike ok.2.1) C.2.2.2.1 (ev_ws_D w h) C.2.2.2.2.1 x (ev_ws_get hcell) hq k hk (ev_word ok hW hl args) (fun _ z => z) hfin (C.1.2.2.2.2.2.2.1.trans hnm) hdecl (ev_clq_ty hcq k hk) hnar hfits hkl' (ev_dec_at hM hi) key
theorem ev_iald (ok : ev_ok w) (hM : ev_dec M = true) {x n : Nat} {f : Nat → Int32} {i : Int32} (hi : ev_ins M pc = some (.iaload, a, b)) (hcell : h[x]? = some (.inl (0, n, .inl f))) (hin : vp_in i n) (kk : ev_G w M d h0 Q (pc + 1) L (.int (f i.toNatClampNeg) :: st) h) : ev_G w M d h0 Q pc L (.int i :: .ref x :: st) h := by
  intro p e R s m args below meth c H locs ls C
  exact va_iald C.1.1 C.1.2.1 (va_K.moved C.1.warm.alike ok.2.1) C.2.2.2.1 x 0 (ev_ws_get hcell) rfl hin (ev_dec_at hM hi) (kk p e R s m args below meth c H locs ls C)
theorem ev_cald (ok : ev_ok w) (hM : ev_dec M = true) {x n : Nat} {f : Nat → Int32} {i : Int32} (hi : ev_ins M pc = some (.caload, a, b)) (hcell : h[x]? = some (.inl (1, n, .inl f))) (hin : vp_in i n) (kk : ev_G w M d h0 Q (pc + 1) L (.int (f i.toNatClampNeg) :: st) h) : ev_G w M d h0 Q pc L (.int i :: .ref x :: st) h := by
  intro p e R s m args below meth c H locs ls C
  exact va_cald C.1.1 C.1.2.1 (va_K.moved C.1.warm.alike ok.2.1) C.2.2.2.1 x 1 (ev_ws_get hcell) rfl hin (ev_dec_at hM hi) (kk p e R s m args below meth c H locs ls C)
theorem ev_lald (ok : ev_ok w) (hM : ev_dec M = true) {x n : Nat} {f : Nat → Int64} {i : Int32} (hi : ev_ins M pc = some (.laload, a, b)) (hcell : h[x]? = some (.inl (2, n, .inr (.inl f)))) (hin : vp_in i n) (kk : ev_G w M d h0 Q (pc + 1) L (.long (f i.toNatClampNeg) :: st) h) : ev_G w M d h0 Q pc L (.int i :: .ref x :: st) h := by
  intro p e R s m args below meth c H locs ls C
  exact va_lald C.1.1 C.1.2.1 (va_K.moved C.1.warm.alike ok.2.1) C.2.2.2.1 x 2 (ev_ws_get hcell) rfl hin (ev_dec_at hM hi) (kk p e R s m args below meth c H locs ls C)
theorem ev_iast (ok : ev_ok w) (hM : ev_dec M = true) {x n : Nat} {f : Nat → Int32} {i : Int32} {v : Int32} (hi : ev_ins M pc = some (.iastore, a, b)) (hcell : h[x]? = some (.inl (0, n, .inl f))) (hin : vp_in i n) (kk : ev_G w M d h0 Q (pc + 1) L st (h.set x (.inl (0, n, .inl (upd f i.toNatClampNeg v))))) : ev_G w M d h0 Q pc L (.int v :: .int i :: .ref x :: st) h := by
  intro p e R s m args below meth c H locs ls C
  exact va_iast C.1.1 C.1.2.1 (va_K.moved C.1.warm.alike ok.2.1) C.2.2.2.1 (ev_ws_D w h) C.2.2.2.2.1 x 0 (ev_ws_get hcell) rfl hin (ev_dec_at hM hi) (fun H1 locs1 hP1 _ hS1 => ev_G_set kk hcell rfl C hP1 hS1)
theorem ev_cast (ok : ev_ok w) (hM : ev_dec M = true) {x n : Nat} {f : Nat → Int32} {i : Int32} {v : Int32} (hi : ev_ins M pc = some (.castore, a, b)) (hcell : h[x]? = some (.inl (1, n, .inl f))) (hin : vp_in i n) (kk : ev_G w M d h0 Q (pc + 1) L st (h.set x (.inl (1, n, .inl (upd f i.toNatClampNeg (vp_nar .char v)))))) : ev_G w M d h0 Q pc L (.int v :: .int i :: .ref x :: st) h := by
  intro p e R s m args below meth c H locs ls C
  exact va_cast C.1.1 C.1.2.1 (va_K.moved C.1.warm.alike ok.2.1) C.2.2.2.1 (ev_ws_D w h) C.2.2.2.2.1 x 1 (ev_ws_get hcell) rfl hin (ev_dec_at hM hi) (fun H1 locs1 hP1 _ hS1 => ev_G_set kk hcell rfl C hP1 hS1)
theorem ev_last (ok : ev_ok w) (hM : ev_dec M = true) {x n : Nat} {f : Nat → Int64} {i : Int32} {v : Int64} (hi : ev_ins M pc = some (.lastore, a, b)) (hcell : h[x]? = some (.inl (2, n, .inr (.inl f)))) (hin : vp_in i n) (kk : ev_G w M d h0 Q (pc + 1) L st (h.set x (.inl (2, n, .inr (.inl (vp_updL f i.toNatClampNeg v)))))) : ev_G w M d h0 Q pc L (.long v :: .int i :: .ref x :: st) h := by
  intro p e R s m args below meth c H locs ls C
  exact va_last C.1.1 C.1.2.1 (va_K.moved C.1.warm.alike ok.2.1) C.2.2.2.1 (ev_ws_D w h) C.2.2.2.2.1 x 2 (ev_ws_get hcell) rfl hin (ev_dec_at hM hi) (fun H1 locs1 hP1 _ hS1 => ev_G_set kk hcell rfl C hP1 hS1)
theorem ev_v_rf (r : Option Nat) : ev_v w (va_rf r) = va_rf (r.map (fun k => ev_base w + k)) := by cases r <;> rfl
theorem ev_aald (ok : ev_ok w) (hM : ev_dec M = true) {x n : Nat} {f : Nat → Option Nat} {i : Int32} (hi : ev_ins M pc = some (.aaload, a, b)) (hcell : h[x]? = some (.inl (3, n, .inr (.inr (.inr (.inr f)))))) (hin : vp_in i n) (kk : ev_G w M d h0 Q (pc + 1) L (va_rf (f i.toNatClampNeg) :: st) h) : ev_G w M d h0 Q pc L (.int i :: .ref x :: st) h := by
  intro p e R s m args below meth c H locs ls C
  refine va_aldq C.1.1 C.1.2.1 (va_K.moved C.1.warm.alike ok.2.1) C.2.2.2.1 x 3 (ev_ws_get hcell) rfl hin (ev_dec_at hM hi) ?_
  have h1 := kk p e R s m args below meth c H locs ls C
  rw [List.map_cons, ev_v_rf] at h1
  exact h1
theorem ev_aast (ok : ev_ok w) (hM : ev_dec M = true) {x n y ci : Nat} {q : vw_C} {fs : List Value} {f : Nat → Option Nat} {i : Int32} (hi : ev_ins M pc = some (.aastore, a, b)) (hcell : h[x]? = some (.inl (3, n, .inr (.inr (.inr (.inr f)))))) (hy : h[y]? = some (.inr (ci, fs))) (hq : ev_cl[ci]? = some q) (hqn : q.1 = ev_Let) (hin : vp_in i n)
    (kk : ev_G w M d h0 Q (pc + 1) L st (h.set x (.inl (3, n, .inr (.inr (.inr (.inr (va_up f i.toNatClampNeg (some y))))))))) : ev_G w M d h0 Q pc L (.ref y :: .int i :: .ref x :: st) h := by
  intro p e R s m args below meth c H locs ls C
  refine va_astq (r := q) C.1.1 C.1.2.1 (va_K.moved C.1.warm.alike ok.2.1) C.2.2.2.1 (ev_ws_D w h) C.2.2.2.2.1 x 3 y ci (ev_ws_get hcell) (by rw [hqn]; rfl) (ev_ws_get hy) hq hin (ev_dec_at hM hi) (fun H1 locs1 hP1 _ hS1 => ?_)
  refine ev_G_set kk hcell rfl C ?_ hS1
  have e1 : (fun j => (va_up f i.toNatClampNeg (some y) j).map (fun k => ev_base w + k)) = va_up (fun j => (f j).map (fun k => ev_base w + k)) i.toNatClampNeg (some (ev_base w + y)) := by
    funext j
    unfold va_up
    split <;> rfl
  show va_P w.2.2.2.1 ev_cl ((ev_ws w h).set x (ev_base w + x, .inl (w.2.2.2.2.1 3, n, .inr (.inr (.inr (.inr (fun j => (va_up f i.toNatClampNeg (some y) j).map (fun k => ev_base w + k)))))))) H1
  rw [e1]
  exact hP1
theorem ev_alen (ok : ev_ok w) (hM : ev_dec M = true) {x t : Nat} {z : vp_A} (ht : t < 4) (hi : ev_ins M pc = some (.arraylength, a, b)) (hcell : h[x]? = some (.inl (t, z))) (kk : ev_G w M d h0 Q (pc + 1) L (.int (Int32.ofNat z.1) :: st) h) : ev_G w M d h0 Q pc L (.ref x :: st) h := by
  intro p e R s m args below meth c H locs ls C
  have hK := va_K.moved C.1.warm.alike ok.2.1
  match t, ht, hcell with
  | 0, _, hcell => exact va_alen C.1.1 C.1.2.1 hK C.2.2.2.1 x 0 (ev_ws_get hcell) rfl rfl (ev_dec_at hM hi) (kk p e R s m args below meth c H locs ls C)
  | 1, _, hcell => exact va_alen C.1.1 C.1.2.1 hK C.2.2.2.1 x 1 (ev_ws_get hcell) rfl rfl (ev_dec_at hM hi) (kk p e R s m args below meth c H locs ls C)
  | 2, _, hcell => exact va_alen C.1.1 C.1.2.1 hK C.2.2.2.1 x 2 (ev_ws_get hcell) rfl rfl (ev_dec_at hM hi) (kk p e R s m args below meth c H locs ls C)
  | 3, _, hcell => exact va_alen C.1.1 C.1.2.1 hK C.2.2.2.1 x 3 (ev_ws_get hcell) rfl rfl (ev_dec_at hM hi) (kk p e R s m args below meth c H locs ls C)
theorem ev_scr (ok : ev_ok w) {p : Program} {R : Room} {s : State} {m : MethodId} {meth : Method} {c : Code} {H : Heap} {locs : List Loc} {ls : Array Slot} (C : ev_cx w M d h0 p R s m meth c h H locs L ls) :
    va_X w.2.2.2.2.2.1 w.2.2.2.2.2.2.2.2.1 w.2.2.2.2.2.2.2.2.2 s s.heap ∧ w.2.2.2.2.2.1 < s.heap.size ∧ ¬ ev_A w w.2.2.2.2.2.1 := by
  have h1 := C.2.1.2.1
  have hb : w.2.2.2.2.2.1 < ev_base w := ok.2.2.2.2
  exact ⟨(ok.2.2.2.1.moved C.1.warm.alike).kept (C.2.1.2.2 _ hb), by omega, by unfold ev_A; omega⟩
theorem ev_sld (ok : ev_ok w) (hM : ev_dec M = true) {x : Nat} {i : Int32} (hi : ev_ins M pc = some (.iaload, a, b)) (hin : vp_in i w.2.2.2.2.2.2.2.2.1) (kk : ev_G w M d h0 Q (pc + 1) L (.int (w.2.2.2.2.2.2.2.2.2 i.toNatClampNeg) :: st) h) : ev_G w M d h0 Q pc L (.int i :: .retAddr x :: st) h := by
  intro p e R s m args below meth c H locs ls C
  obtain ⟨h1, h2, h3⟩ := ev_scr ok C
  exact va_sld C.1.1 C.1.2.1 h1 h2 h3 C.2.2.2.2.1 hin (ev_dec_at hM hi) (kk p e R s m args below meth c H locs ls C)
theorem ev_slen (ok : ev_ok w) (hM : ev_dec M = true) {x : Nat} (hi : ev_ins M pc = some (.arraylength, a, b)) (kk : ev_G w M d h0 Q (pc + 1) L (.int (Int32.ofNat w.2.2.2.2.2.2.2.2.1) :: st) h) : ev_G w M d h0 Q pc L (.retAddr x :: st) h := by
  intro p e R s m args below meth c H locs ls C
  obtain ⟨h1, h2, h3⟩ := ev_scr ok C
  exact va_slen C.1.1 C.1.2.1 h1 h2 h3 C.2.2.2.2.1 (ev_dec_at hM hi) (kk p e R s m args below meth c H locs ls C)
/-- behind a new cell: it lies just behind the others -/
theorem ev_G_app {y : ev_E} (hcap1 : h.length + 1 ≤ w.2.2.2.2.2.2.1) (hcap2 : ev_cost h + ev_c1 y ≤ w.2.2.2.2.2.2.2.1) (kk : ev_G w M d h0 Q pc L (.ref h.length :: st) (h ++ [y])) {p : Program} {e : Env} {R : Room} {s : State} {m : MethodId} {args : Array Value} {below : List Frame} {meth : Method} {c : Code} {H H1 : Heap} {locs : List Loc} {ls : Array Slot} {x n : Nat} (hn : n = ev_c1 y)
    (C : ev_cx w M d h0 p R s m meth c h H locs L ls) (hP1 : va_P w.2.2.2.1 ev_cl (ev_ws w h ++ [(x, ev_e w y)]) H1) (hD1 : va_D (ev_A w) (ev_ws w h ++ [(x, ev_e w y)])) (hS1 : va_S (ev_A w) s.heap H1 locs) :
    W p w.1 e R s m args below meth c H1 locs (h.length - h0.length + 1) (ev_cost h - ev_cost h0 + n) (ev_PQ w h0 Q below s) (F0 m pc ls (.ref x :: st.map (ev_v w))) := by
  obtain ⟨c1, c2, c3, c4, c5, c6, c7, c8, c9, c10⟩ := C
  subst hn
  intro T hT X
  have hz := X.heapSize
  have hs := c2.2.1
  have hlast : (ev_ws w h ++ [(x, ev_e w y)])[h.length]? = some (x, ev_e w y) := by
    rw [List.getElem?_append_right (by rw [ev_ws_len]; exact Nat.le_refl _), ev_ws_len, Nat.sub_self]; rfl
  have hlt : x < H1.size := (hP1 h.length _ hlast).lt
  have hge : ev_base w ≤ x := hD1.2 h.length _ hlast
  have hne : ∀ j, j < h.length → x ≠ ev_base w + j := by
    intro j hj hxj
    obtain ⟨z, hz'⟩ : ∃ z, h[j]? = some z := ⟨_, List.getElem?_eq_getElem hj⟩
    have h2 : (ev_ws w h ++ [(x, ev_e w y)])[j]? = some (ev_base w + j, ev_e w z) := by
      rw [List.getElem?_append_left (by rw [ev_ws_len]; exact hj)]; exact ev_ws_get hz'
    have h3 := hD1.1 h.length j _ _ hlast h2 hxj
    omega
  have hx : x = ev_base w + h.length := by
    rw [hT] at hz
    rcases Nat.lt_or_ge (x - ev_base w) h.length with hl | hl
    · exact absurd (by omega) (hne (x - ev_base w) hl)
    · omega
  subst hx
  have h1 := kk p e R s m args below meth c H1 locs ls ⟨c1, c2, c3, by rw [ev_ws_app]; exact hP1, hS1, c6, by rw [List.length_append]; exact Nat.le_trans c7 (Nat.le_add_right _ _), by rw [ev_cost_app]; exact Nat.le_trans c8 (Nat.le_add_right _ _), by rw [List.length_append]; exact hcap1, by rw [ev_cost_app]; exact hcap2⟩
  have e1 : (h ++ [y]).length - h0.length = h.length - h0.length + 1 := by rw [List.length_append, List.length_singleton]; omega
  have e2 : ev_cost (h ++ [y]) - ev_cost h0 = ev_cost h - ev_cost h0 + ev_c1 y := by rw [ev_cost_app]; omega
  rw [e1, e2] at h1
  exact h1 T hT X
theorem ev_cx.room {p : Program} {R : Room} {s : State} {m : MethodId} {meth : Method} {c : Code} {H : Heap} {locs : List Loc} {ls : Array Slot} (C : ev_cx w M d h0 p R s m meth c h H locs L ls) {n : Nat} (h1 : h.length + 1 ≤ w.2.2.2.2.2.2.1) (h2 : ev_cost h + n ≤ w.2.2.2.2.2.2.2.1) :
    h.length - h0.length + 1 ≤ R.cells ∧ ev_cost h - ev_cost h0 + n ≤ R.slots := by
  obtain ⟨-, -, ⟨-, -, f3, f4⟩, -, -, -, c7, c8, -, -⟩ := C
  omega
theorem ev_cx.A {p : Program} {R : Room} {s : State} {m : MethodId} {meth : Method} {c : Code} {H : Heap} {locs : List Loc} {ls : Array Slot} (C : ev_cx w M d h0 p R s m meth c h H locs L ls) : ∀ q, s.heap.size ≤ q → ev_A w q := by
  intro q hq
  have h1 := C.2.1.2.1
  show ev_base w ≤ q
  omega
def ev_dft (q : vw_C) : List Value := (List.range q.2.2).map (fun j => defaultValue (ev_fty q j))
theorem ev_v_dft (ty : FieldType) : ev_v w (defaultValue ty) = defaultValue ty := by cases ty <;> rfl
theorem ev_dft_map (q : vw_C) : (ev_dft q).map (ev_v w) = ev_dft q := by
  simp [ev_dft, ev_v_dft]
theorem ev_dft_V (q : vw_C) : ∀ j, j < q.2.2 → defaultValue (ev_fty q j) = vp_V (ev_dft q) j := by
  intro j hj
  simp [vp_V, ev_dft, hj]
theorem ev_new (ok : ev_ok w) (hM : ev_dec M = true) {idx ci : Nat} {q : vw_C} (hi : ev_ins M pc = some (.new idx, ci, b)) (hq : ev_cl[ci]? = some q) (hn : q.2.2 = ev_sz ci) (hl : ev_has (.classLink M.1.cls idx q.1) = true) (hin : ev_has (.instantiable q.1 q.2.2) = true) (hii : ev_has (.initialized q.1) = true)
    (h1 : h.length + 1 ≤ w.2.2.2.2.2.2.1) (h2 : ev_cost h + q.2.2 ≤ w.2.2.2.2.2.2.2.1) (kk : ev_G w M d h0 Q (pc + 3) L (.ref h.length :: st) (h ++ [.inr (ci, ev_dft q)])) : ev_G w M d h0 Q pc L st h := by
  intro p e R s m args below meth c H locs ls C
  have hW := C.1.warm
  have hcq := ev_cl_q hq
  obtain ⟨r1, r2⟩ := C.room h1 h2
  have hA := C.A
  obtain ⟨R0, T0, N0⟩ := q
  refine va_new (fs := ev_dft (R0, T0, N0)) C.1.1 C.1.2.1 (ev_hts ok hW) (ev_clq_in hcq) (ev_fty (R0, T0, N0)) (ev_clq_ty hcq) C.1.own (ev_word ok hW hl args) (ev_word ok hW hin args) (ev_word ok hW hii args) (va_K.moved hW.alike ok.2.1) C.2.2.2.1 (ev_ws_D w h) C.2.2.2.2.1 hA hq (ev_dft_V (R0, T0, N0)) r1 r2 (ev_dec_at hM hi) (fun x H1 hP1 hD1 hS1 => ?_)
  have e1 : ev_e w (.inr (ci, ev_dft (R0, T0, N0))) = .inr (ci, ev_dft (R0, T0, N0)) := by
    show Sum.inr (ci, (ev_dft (R0, T0, N0)).map (ev_v w)) = _
    rw [ev_dft_map]
  exact ev_G_app h1 (by show ev_cost h + ev_sz ci ≤ _; rw [← hn]; exact h2) kk (y := .inr (ci, ev_dft (R0, T0, N0))) hn C (by rw [e1]; exact hP1) (by rw [e1]; exact hD1) hS1
theorem ev_RA_eq {U : State} {cA cB : ClassId} {ty : FieldType} (h1 : va_RA U cA ty) (h2 : va_RA U cB ty) : cA = cB := by
  cases ty with
  | object C =>
    obtain ⟨_, _, _, _, _, q1⟩ := h1
    obtain ⟨_, _, _, _, _, q2⟩ := h2
    exact Option.some.inj (q1.symm.trans q2)
  | _ => exact Option.some.inj (Eq.trans (Eq.symm h1) h2)
theorem ev_tyN {U : State} {D : va_G} {tys : List (ClassId × FieldType)} {cA cB : ClassId} {ty : FieldType} {t : Nat} (hK : va_K D ev_cl (tys ++ [(cA, ty)]) U) (ht : tys[t]? = some (cB, ty)) : cA = cB := by
  have h1 := (hK.2 tys.length (cA, ty) (by rw [List.getElem?_append_right (Nat.le_refl _), Nat.sub_self]; rfl)).2
  have h2 := (hK.2 t (cB, ty) (by rw [List.getElem?_append_left (List.getElem?_eq_some_iff.mp ht).1]; exact ht)).2
  exact ev_RA_eq h1 h2
theorem ev_newR (ok : ev_ok w) (hM : ev_dec M = true) {idx : Nat} {n : Int32} (hi : ev_ins M pc = some (.anewarray idx, a, b)) (hl : ev_has (.classLink M.1.cls idx ev_Let) = true) (ho : ev_has (.arrayOver (.object ev_Let)) = true) (hn : ¬ n < 0) (hb : n.toNatClampNeg ≤ 10000) (h1 : h.length + 1 ≤ w.2.2.2.2.2.2.1) (h2 : ev_cost h + n.toNatClampNeg ≤ w.2.2.2.2.2.2.2.1)
    (kk : ev_G w M d h0 Q (pc + 3) L (.ref h.length :: st) (h ++ [.inl (3, n.toNatClampNeg, .inr (.inr (.inr (.inr (fun _ => none)))))])) : ev_G w M d h0 Q pc L (.int n :: st) h := by
  intro p e R s m args below meth c H locs ls C
  have hW := C.1.warm
  obtain ⟨r1, r2⟩ := C.room h1 h2
  refine va_newq C.1.1 C.1.2.1 C.1.own (ev_word ok hW hl args) (ev_word ok hW ho #[]) (va_K.moved hW.alike ok.2.1) C.2.2.2.1 (ev_ws_D w h) C.2.2.2.2.1 C.A hn rfl (by omega) r1 r2 (ev_dec_at hM hi) (fun x cA H1 hK1 hP1 hD1 hS1 => ?_)
  obtain rfl : cA = w.2.2.2.2.1 3 := ev_tyN (t := 3) hK1 rfl
  exact ev_G_app h1 h2 kk (y := .inl (3, n.toNatClampNeg, .inr (.inr (.inr (.inr (fun _ => none)))))) rfl C hP1 hD1 hS1
end EvHeap2
end
section
section EvNew
variable {w : ev_W} {M : ev_M} {d : Nat × Nat} {h0 : ev_H} {Q : ev_R → ev_H → Prop} {pc : Nat} {L : List (Option Value)} {st : List Value} {h : ev_H} {a b : Nat}
theorem ev_a0I (N : Nat) : ∀ cA : ClassId, vp_cell cA (N, .inl (fun _ => 0)) = arrV cA N (fun _ => defaultValue .int) := fun cA => by rw [vp_cell_i]; rfl
theorem ev_a0C (N : Nat) : ∀ cA : ClassId, vp_cell cA (N, .inl (fun _ => 0)) = arrV cA N (fun _ => defaultValue .char) := fun cA => by rw [vp_cell_i]; rfl
theorem ev_a0L (N : Nat) : ∀ cA : ClassId, vp_cell cA (N, .inr (.inl (fun _ => 0))) = arrV cA N (fun _ => defaultValue .long) := fun cA => by rw [vp_cell_l]; rfl
theorem ev_newI (ok : ev_ok w) (hM : ev_dec M = true) {n : Int32} (hi : ev_ins M pc = some (.newarray .int, a, b)) (hl : ev_has (.arrayClass .int) = true) (hn : ¬ n < 0) (hb : n.toNatClampNeg ≤ 10000) (h1 : h.length + 1 ≤ w.2.2.2.2.2.2.1) (h2 : ev_cost h + n.toNatClampNeg ≤ w.2.2.2.2.2.2.2.1)
    (kk : ev_G w M d h0 Q (pc + 2) L (.ref h.length :: st) (h ++ [.inl (0, n.toNatClampNeg, .inl (fun _ => 0))])) : ev_G w M d h0 Q pc L (.int n :: st) h := by
  intro p e R s m args below meth c H locs ls C
  have hW := C.1.warm
  obtain ⟨r1, r2⟩ := C.room h1 h2
  have e4 : componentBytes FieldType.int = 4 := rfl
  have hb4 : n.toNatClampNeg * componentBytes FieldType.int ≤ 536870912 := by rw [e4]; omega
  generalize hN : n.toNatClampNeg = N at hb4 r2 h2 kk ⊢
  refine va_newa (atype := .int) (ty := .int) (N' := N) (a0 := (N, .inl (fun _ => 0))) C.1.1 C.1.2.1 (ev_word ok hW hl args) rfl (va_K.moved hW.alike ok.2.1) C.2.2.2.1 (ev_ws_D w h) C.2.2.2.2.1 C.A (ev_a0I N) hn hN hb4 r1 r2 (ev_dec_at hM hi) (fun x cA H1 hK1 hP1 hD1 hS1 => ?_)
  obtain rfl : cA = w.2.2.2.2.1 0 := ev_tyN (t := 0) hK1 rfl
  exact ev_G_app h1 h2 kk (y := .inl (0, N, .inl (fun _ => 0))) rfl C hP1 hD1 hS1
theorem ev_newC (ok : ev_ok w) (hM : ev_dec M = true) {n : Int32} (hi : ev_ins M pc = some (.newarray .char, a, b)) (hl : ev_has (.arrayClass .char) = true) (hn : ¬ n < 0) (hb : n.toNatClampNeg ≤ 10000) (h1 : h.length + 1 ≤ w.2.2.2.2.2.2.1) (h2 : ev_cost h + n.toNatClampNeg ≤ w.2.2.2.2.2.2.2.1)
    (kk : ev_G w M d h0 Q (pc + 2) L (.ref h.length :: st) (h ++ [.inl (1, n.toNatClampNeg, .inl (fun _ => 0))])) : ev_G w M d h0 Q pc L (.int n :: st) h := by
  intro p e R s m args below meth c H locs ls C
  have hW := C.1.warm
  obtain ⟨r1, r2⟩ := C.room h1 h2
  have e4 : componentBytes FieldType.char = 2 := rfl
  have hb4 : n.toNatClampNeg * componentBytes FieldType.char ≤ 536870912 := by rw [e4]; omega
  generalize hN : n.toNatClampNeg = N at hb4 r2 h2 kk ⊢
  refine va_newa (atype := .char) (ty := .char) (N' := N) (a0 := (N, .inl (fun _ => 0))) C.1.1 C.1.2.1 (ev_word ok hW hl args) rfl (va_K.moved hW.alike ok.2.1) C.2.2.2.1 (ev_ws_D w h) C.2.2.2.2.1 C.A (ev_a0C N) hn hN hb4 r1 r2 (ev_dec_at hM hi) (fun x cA H1 hK1 hP1 hD1 hS1 => ?_)
  obtain rfl : cA = w.2.2.2.2.1 1 := ev_tyN (t := 1) hK1 rfl
  exact ev_G_app h1 h2 kk (y := .inl (1, N, .inl (fun _ => 0))) rfl C hP1 hD1 hS1
theorem ev_newL (ok : ev_ok w) (hM : ev_dec M = true) {n : Int32} (hi : ev_ins M pc = some (.newarray .long, a, b)) (hl : ev_has (.arrayClass .long) = true) (hn : ¬ n < 0) (hb : n.toNatClampNeg ≤ 10000) (h1 : h.length + 1 ≤ w.2.2.2.2.2.2.1) (h2 : ev_cost h + n.toNatClampNeg ≤ w.2.2.2.2.2.2.2.1)
    (kk : ev_G w M d h0 Q (pc + 2) L (.ref h.length :: st) (h ++ [.inl (2, n.toNatClampNeg, .inr (.inl (fun _ => 0)))])) : ev_G w M d h0 Q pc L (.int n :: st) h := by
  intro p e R s m args below meth c H locs ls C
  have hW := C.1.warm
  obtain ⟨r1, r2⟩ := C.room h1 h2
  have e4 : componentBytes FieldType.long = 8 := rfl
  have hb4 : n.toNatClampNeg * componentBytes FieldType.long ≤ 536870912 := by rw [e4]; omega
  generalize hN : n.toNatClampNeg = N at hb4 r2 h2 kk ⊢
  refine va_newa (atype := .long) (ty := .long) (N' := N) (a0 := (N, .inr (.inl (fun _ => 0)))) C.1.1 C.1.2.1 (ev_word ok hW hl args) rfl (va_K.moved hW.alike ok.2.1) C.2.2.2.1 (ev_ws_D w h) C.2.2.2.2.1 C.A (ev_a0L N) hn hN hb4 r1 r2 (ev_dec_at hM hi) (fun x cA H1 hK1 hP1 hD1 hS1 => ?_)
  obtain rfl : cA = w.2.2.2.2.1 2 := ev_tyN (t := 2) hK1 rfl
  exact ev_G_app h1 h2 kk (y := .inl (2, N, .inr (.inl (fun _ => 0)))) rfl C hP1 hD1 hS1
end EvNew
end
section
/-! returns and calls: a callee is walked in its caller's room, by its own judgement -/
section EvCall
variable {w : ev_W} {M : ev_M} {d : Nat × Nat} {h0 : ev_H} {Q : ev_R → ev_H → Prop} {pc : Nat} {L : List (Option Value)} {st : List Value} {h : ev_H} {a b : Nat}
theorem ev_weaken {tb : Tables} {e : Env} {mid below : List Frame} {x y : State} (hs : Steps tb e (mid ++ below) x y) : Steps tb e below x y := by
  obtain ⟨n, hn, hw⟩ := hs
  exact ⟨n, hn, fun k hk => (hw k hk).weaken⟩
theorem ev_size {p : Program} {e : Env} {R : Room} {s : State} {m : MethodId} {args : Array Value} {below : List Frame} {meth : Method} {c : Code} {H : Heap} {locs : List Loc} {ls : Array Slot} (C : ev_cx w M d h0 p R s m meth c h H locs L ls) {T : State} {slots : Nat} (hT : T.heap = H)
    (X : Stand p w.1 e R s m args below meth c T locs (h.length - h0.length) slots) : H.size = ev_base w + h.length := by
  have hz := X.heapSize
  have hs := C.2.1.2.1
  have h7 := C.2.2.2.2.2.2.1
  rw [hT] at hz
  have hge : ev_base w + h.length ≤ H.size := by
    rcases Nat.eq_zero_or_pos h.length with hl | hl
    · have h5 := C.2.2.2.2.1.1
      omega
    · have hn : h.length - 1 < h.length := by omega
      have h1 := (C.2.2.2.1 (h.length - 1) _ (ev_ws_get (List.getElem?_eq_getElem hn))).lt
      have h2 : ev_base w + (h.length - 1) < H.size := h1
      omega
  omega
theorem ev_rep_of {p : Program} {R : Room} {s : State} {m : MethodId} {meth : Method} {c : Code} {H : Heap} {locs : List Loc} {ls : Array Slot} (C : ev_cx w M d h0 p R s m meth c h H locs L ls) (hsz : H.size = ev_base w + h.length) {H' : Heap} (ht : H' = H) : ev_rep w h H' := by
  subst ht
  refine ⟨C.2.2.2.1, hsz, fun q hq => ?_⟩
  have hs := C.2.1.2.1
  rw [C.2.2.2.2.1.2.1 q (by omega) (by unfold ev_A; omega)]
  exact C.2.1.2.2 q hq
theorem ev_ireturn (hM : ev_dec M = true) {v : Int32} {ty : FieldType} (hi : ev_ins M pc = some (.ireturn, a, b)) (hr : M.2.2.2.1 = some ty) (hn : narrow ty (.int v) = .int v) (hQ : Q (.inl (some (.int v))) h) : ev_G w M d h0 Q pc L [.int v] h := by
  intro p e R s m args below meth c H locs ls C T hT X
  have hsz := ev_size C hT X
  obtain ⟨t, st1, o, b1, b2, ⟨ho, ht, hW'⟩, L1, hF, hL⟩ := (W.zret (Qc := fun _ s' o t => o = .returned (some (.int v)) ∧ t.heap = H ∧ s'.WarmedH t.vm) (free := ev_A w) C.1.1 C.1.2.1 (C.1.2.2.2.1.trans hr) hn (fun t ht hW => ⟨rfl, ht, hW⟩) C.2.2.2.2.1.2.2 (ev_dec_at hM hi) C.1.2.2.2.2.1) T hT X
  exact ⟨t, st1, o, b1, b2, .inl (some (.int v)), h, hQ, ho, ev_rep_of C hsz ht, C.2.2.2.2.2.2.1, C.2.2.2.2.2.2.2.1, C.2.2.2.2.2.2.2.2.1, C.2.2.2.2.2.2.2.2.2, hW', L1, hF.2.2, hL⟩
theorem ev_return (hM : ev_dec M = true) (hi : ev_ins M pc = some (.return_, a, b)) (hr : M.2.2.2.1 = none) (hQ : Q (.inl none) h) : ev_G w M d h0 Q pc L [] h := by
  intro p e R s m args below meth c H locs ls C T hT X
  have hsz := ev_size C hT X
  obtain ⟨t, st1, o, b1, b2, ⟨ho, ht, hW'⟩, L1, hF, hL⟩ := (W.vret (Qc := fun _ s' o t => o = .returned none ∧ t.heap = H ∧ s'.WarmedH t.vm) (free := ev_A w) C.1.1 C.1.2.1 (C.1.2.2.2.1.trans hr) (fun t ht hW => ⟨rfl, ht, hW⟩) C.2.2.2.2.1.2.2 (ev_dec_at hM hi) C.1.2.2.2.2.1) T hT X
  exact ⟨t, st1, o, b1, b2, .inl none, h, hQ, ho, ev_rep_of C hsz ht, C.2.2.2.2.2.2.1, C.2.2.2.2.2.2.2.1, C.2.2.2.2.2.2.2.2.1, C.2.2.2.2.2.2.2.2.2, hW', L1, hF.2.2, hL⟩
theorem ev_areturn (hM : ev_dec M = true) {x : Nat} {rt : FieldType} (hi : ev_ins M pc = some (.areturn, a, b)) (hr : M.2.2.2.1 = some rt) (hrt : (∃ n, rt = .object n) ∨ ∃ t, rt = .array t) (hQ : Q (.inl (some (.ref x))) h) : ev_G w M d h0 Q pc L [.ref x] h := by
  intro p e R s m args below meth c H locs ls C T hT X
  have hsz := ev_size C hT X
  obtain ⟨t, st1, o, b1, b2, ⟨ho, ht, hW'⟩, L1, hF, hL⟩ := (W.aret (v := .ref (ev_base w + x)) (Qc := fun _ s' o t => o = .returned (some (.ref (ev_base w + x))) ∧ t.heap = H ∧ s'.WarmedH t.vm) (free := ev_A w) C.1.1 C.1.2.1 (C.1.2.2.2.1.trans hr) hrt (Or.inr ⟨_, rfl⟩) (fun t ht hW => ⟨rfl, ht, hW⟩) C.2.2.2.2.1.2.2 (ev_dec_at hM hi) C.1.2.2.2.2.1) T hT X
  exact ⟨t, st1, o, b1, b2, .inl (some (.ref x)), h, hQ, ho, ev_rep_of C hsz ht, C.2.2.2.2.2.2.1, C.2.2.2.2.2.2.2.1, C.2.2.2.2.2.2.2.2.1, C.2.2.2.2.2.2.2.2.2, hW', L1, hF.2.2, hL⟩
/-- the locals at an entry -/
def ev_L0 (n : Nat) (vs : List Value) : List (Option Value) := vs.map some ++ List.replicate (n - vs.length) none
theorem ev_args_mem : ∀ (vs : List Value) (i : Nat), (∀ v ∈ vs, v.category = 1) → ∀ (j : Nat) (v : Value), vs[j]? = some v → (i + j, v) ∈ lv_args i vs
  | [], _, _, j, v, hj => by simp at hj
  | u :: vs, i, hc, 0, v, hj => by
    simp only [List.getElem?_cons_zero, Option.some.injEq] at hj
    subst hj
    exact List.mem_cons_self
  | u :: vs, i, hc, j + 1, v, hj => by
    simp only [List.getElem?_cons_succ] at hj
    have h1 : ¬ u.category = 2 := by rw [hc u List.mem_cons_self]; decide
    have h2 := ev_args_mem vs (i + 1) (fun v hv => hc v (List.mem_cons_of_mem _ hv)) j v hj
    show (i + (j + 1), v) ∈ (i, u) :: lv_args (if u.category = 2 then i + 2 else i + 1) vs
    rw [if_neg h1]
    have e1 : i + (j + 1) = i + 1 + j := by omega
    rw [e1]
    exact List.mem_cons_of_mem _ h2
theorem ev_sl_len (vs : List Value) (hc : ∀ v ∈ vs, v.category = 1) : (lg_sl vs).length = vs.length := by
  induction vs with
  | nil => rfl
  | cons u vs ih =>
    have h1 : ¬ u.category = 2 := by rw [hc u List.mem_cons_self]; decide
    have h2 := ih (fun v hv => hc v (List.mem_cons_of_mem _ hv))
    simp only [lg_sl] at h2
    simp only [lg_sl, List.flatMap_cons, if_neg h1, List.length_append, List.length_cons, List.length_nil, h2]
    omega
theorem ev_entry (w : ev_W) (vs : List Value) (n : Nat) (hc : ∀ v ∈ vs, v.category = 1) (hn : vs.length ≤ n) :
    ev_ls w n (ev_L0 n vs) ((lg_sl (vs.map (ev_v w)) ++ List.replicate (n - (lg_sl (vs.map (ev_v w))).length) Slot.unset).toArray) := by
  have hc' : ∀ v ∈ vs.map (ev_v w), v.category = 1 := by
    intro v hv
    obtain ⟨u, hu, rfl⟩ := List.mem_map.mp hv
    rw [ev_v_cat]; exact hc u hu
  have key : ∀ (i : Nat) (v : Value), (ev_L0 n vs)[i]? = some (some v) → vs[i]? = some v := by
    intro i v hi
    unfold ev_L0 at hi
    by_cases hl : i < (vs.map some).length
    · rw [List.getElem?_append_left hl, List.getElem?_map] at hi
      cases hv : vs[i]? with
      | none => rw [hv] at hi; cases hi
      | some u => rw [hv] at hi; simp at hi; rw [hi]
    · rw [List.getElem?_append_right (by omega)] at hi
      have h1 := List.mem_of_getElem? hi
      have h2 := (List.mem_replicate.mp h1).2
      cases h2
  have h1 := lv_entry (vs.map (ev_v w)) (n := n) (by rw [ev_sl_len _ hc', List.length_map]; exact hn)
  refine ⟨⟨h1.1, h1.2.1, fun q hq => ?_⟩, fun i v hi => hc v (List.mem_of_getElem? (key i v hi))⟩
  obtain ⟨v, hv, hq2⟩ := ev_lv_of hq
  obtain ⟨qi, qv⟩ := q
  dsimp only at hv hq2
  subst hq2
  have h2 := ev_args_mem (vs.map (ev_v w)) 0 hc' qi (ev_v w v) (by rw [List.getElem?_map, key qi v hv]; rfl)
  rw [Nat.zero_add] at h2
  exact h1.2.2 _ h2
/-- a method's words -/
def ev_mw (M' : ev_M) : Bool := (match M'.2.2.2.2.1 with
  | [] => ev_has (.code M'.1 M'.2.1 M'.2.2.1 M'.2.2.2.1)
  | hs => ev_has (.codeWith M'.1 M'.2.1 M'.2.2.1 M'.2.2.2.1 hs)) && ev_has (.initialized M'.1.cls) && plainName M'.1.cls && decide (M'.1.cls ≠ "java/lang/invoke/MethodHandle" ∧ M'.1.cls ≠ "java/lang/invoke/VarHandle") && ev_dec M'
theorem ev_mw_of (ok : ev_ok w) {M' : ev_M} (hm : ev_mw M' = true) {s : State} (hW : w.2.1.WarmedH s.vm) (args : Array Value) : ∃ (mk : MethodId) (meth : Method) (c : Code), s.methodNamed? M'.1 = some mk ∧ s.vm.method? mk = some meth ∧ meth.code = some c ∧ c.code = M'.2.1 ∧ c.maxLocals = M'.2.2.1 ∧ meth.sig.returnType = M'.2.2.2.1 ∧ meth.locks = false ∧
    c.exceptionTable.toList.map (fun h => (h.startPc, h.endPc, h.handlerPc, h.catchType)) = M'.2.2.2.2.1 ∧ parseMethodDescriptor M'.1.desc = some meth.sig ∧ (Cond.initialized M'.1.cls).before args s = true ∧ plainName M'.1.cls = true ∧ (M'.1.cls ≠ "java/lang/invoke/MethodHandle" ∧ M'.1.cls ≠ "java/lang/invoke/VarHandle") ∧ ev_dec M' = true := by
  simp only [ev_mw, Bool.and_eq_true, decide_eq_true_eq] at hm
  obtain ⟨⟨⟨⟨hc, hi⟩, hp⟩, hy⟩, hd⟩ := hm
  cases hh : M'.2.2.2.2.1 with
  | nil =>
    rw [hh] at hc
    have h1 := ev_word ok hW hc args
    obtain ⟨mk, hmk⟩ := Cond.code_named h1
    obtain ⟨meth, c, q1, q2, q3, q4, q5, q6, q7, q8⟩ := Cond.code_spec hmk h1
    refine ⟨mk, meth, c, hmk, q1, q2, q3, q4, q5, q6, ?_, q8, ev_word ok hW hi args, hp, hy, hd⟩
    have e1 : c.exceptionTable = #[] := by simpa using q7
    rw [e1]; rfl
  | cons x xs =>
    rw [hh] at hc
    have h1 := ev_word ok hW hc args
    obtain ⟨mk, meth, c, hmk, q1, q2, q3, q4, q5, q6, q7, q8⟩ := Cond.codeWith_spec h1
    exact ⟨mk, meth, c, hmk, q1, q2, q3, q4, q6, q7, q5, q8, ev_word ok hW hi args, hp, hy, hd⟩
/-- what a call has come to: it returned, or it threw -/
def ev_Cr (w : ev_W) (M : ev_M) (d : Nat × Nat) (h0 : ev_H) (L : List (Option Value)) (Q' : ev_R → ev_H → Prop) (p : Program) (e : Env) (R : Room) (s : State) (m : MethodId) (args : Array Value) (below : List Frame) (meth : Method) (c : Code) (ls : Array Slot) (T : State) (g : JFrame) (mk : MethodId) (av : Array Value) : Prop :=
  (∃ (v : Option Value) (h' : ev_H) (T' : State) (locs' : List Loc), Q' (.inl v) h' ∧ Stand p w.1 e R s m args below meth c T' locs' (h'.length - h0.length) (ev_cost h' - ev_cost h0) ∧ ev_cx w M d h0 p R s m meth c h' T'.heap locs' L ls ∧
    ∀ acts, Steps p.tables e below (doInvoke e (T.setTop g) acts mk av).1 (T'.setTop { g with pc := g.pc + 3, stack := (v.map (ev_v w)).toList ++ g.stack })) ∨
  (∃ (k ce : Nat) (h' : ev_H) (T' : State) (locs' : List Loc), Q' (.inr k) h' ∧ h'[k]? = some (.inr (ce, [])) ∧ Stand p w.1 e R s m args below meth c T' locs' (h'.length - h0.length) (ev_cost h' - ev_cost h0) ∧ ev_cx w M d h0 p R s m meth c h' T'.heap locs' L ls ∧
    ∀ acts, Steps p.tables e below (doInvoke e (T.setTop g) acts mk av).1 ((T'.setTop g).pushFrame (.throwing (ev_base w + k))))
theorem ev_callee {d' : Nat × Nat} {M' : ev_M} {Q' : ev_R → ev_H → Prop} {vs : List Value} (K : ev_G w M' d' h Q' 0 (ev_L0 M'.2.2.1 vs) [] h) (hvs : ∀ v ∈ vs, v.category = 1) (hvn : vs.length ≤ M'.2.2.1) (hdf : d'.1 + 1 ≤ d.1)
    {p : Program} {e : Env} {R : Room} {s : State} {m : MethodId} {args : Array Value} {below : List Frame} {meth : Method} {c : Code} {H : Heap} {locs : List Loc} {ls : Array Slot} (C : ev_cx w M d h0 p R s m meth c h H locs L ls) {T : State} (hT : T.heap = H)
    (X : Stand p w.1 e R s m args below meth c T locs (h.length - h0.length) (ev_cost h - ev_cost h0)) {g : JFrame} (hg : g.method = m) (hsize : g.locals.size = c.maxLocals) (hgm : g.monitorRoom = 0) {ig : Instr} (hdg : decode c.code g.pc = .ok (ig, 3)) (hgs : (g.stack.map fun v => v.category).sum + (M'.2.2.1 + 11) + d'.2 ≤ d.2)
    {mk : MethodId} {methk : Method} {ck : Code} (hnm : s.methodNamed? M'.1 = some mk) (hmk : s.vm.method? mk = some methk) (hck : methk.code = some ck) (hcb : ck.code = M'.2.1) (hcl : ck.maxLocals = M'.2.2.1) (hcr : methk.sig.returnType = M'.2.2.2.1) (hlk : methk.locks = false)
    (hch : ck.exceptionTable.toList.map (fun h => (h.startPc, h.endPc, h.handlerPc, h.catchType)) = M'.2.2.2.2.1) (hpn : plainName M'.1.cls = true) :
    ev_Cr w M d h0 L Q' p e R s m args below meth c ls T g mk (vs.map (ev_v w)).toArray := by
  have hsz := ev_size C hT X
  have hWT : w.2.1.WarmedH T.vm := State.WarmedH.trans C.1.warm X.warmed
  have hmkT : T.vm.method? mk = some methk := by rw [X.warmed.alike.method?]; exact hmk
  have hnmT : T.methodNamed? M'.1 = some mk := X.named hnm
  have hplain : T.plainMethod mk := State.plainMethod.of_named (plainFor_of_name hpn) hnmT hmkT
  have c3 := C.2.2.1
  have c7 := C.2.2.2.2.2.2.1
  have c8 := C.2.2.2.2.2.2.2.1
  have c9 := C.2.2.2.2.2.2.2.2.1
  have c10 := C.2.2.2.2.2.2.2.2.2
  obtain ⟨f1, f2, f3, f4⟩ := c3
  obtain ⟨Y, hin⟩ := X.into (R' := { frames := d'.1, locals := d'.2, cells := w.2.2.2.2.2.2.1 - h.length, slots := w.2.2.2.2.2.2.2.1 - ev_cost h }) hg hsize hdg (vs.map (ev_v w)).toArray hmkT hck hlk hplain (by show d'.1 + 1 ≤ _; omega)
    (by show 2 * g.monitorRoom + (g.stack.map fun v => v.category).sum + (ck.maxLocals + 11) + d'.2 ≤ R.locals; rw [hgm, hcl]; omega) (by show h.length - h0.length + (w.2.2.2.2.2.2.1 - h.length) ≤ _; omega) (by show ev_cost h - ev_cost h0 + (w.2.2.2.2.2.2.2.1 - ev_cost h) ≤ _; omega)
  rw [hcl, lg_entry_eq] at Y hin
  have hls := ev_entry w vs M'.2.2.1 hvs hvn
  generalize (lg_sl (vs.map (ev_v w)) ++ List.replicate (M'.2.2.1 - (lg_sl (vs.map (ev_v w))).length) Slot.unset).toArray = lk at Y hin hls
  generalize hT0 : (T.setTop g).pushFrame (.java (F0 mk 0 lk [])) = T0 at Y hin
  have hT0h : T0.heap = H := by rw [← hT0, ← hT]; rfl
  have hsh : (T.calling g mk (vs.map (ev_v w)).toArray).heap = H := by rw [← hT]; rfl
  have hCk : ev_cx w M' d' h p { frames := d'.1, locals := d'.2, cells := w.2.2.2.2.2.2.1 - h.length, slots := w.2.2.2.2.2.2.2.1 - ev_cost h } (T.calling g mk (vs.map (ev_v w)).toArray) mk methk ck h H [] (ev_L0 M'.2.2.1 vs) lk := by
    refine ⟨⟨C.1.1, hcb, hcl, hcr, hlk, ?_, (name_of_methodNamed hnm hmk).1, hch, hWT⟩, ?_, ⟨Nat.le_refl _, Nat.le_refl _, ?_, ?_⟩, C.2.2.2.1, ?_, hls, Nat.le_refl _, Nat.le_refl _, c9, c10⟩
    · exact findClass_of_methodNamed hnmT
    · exact ev_rep_of C hsz hsh
    · show w.2.2.2.2.2.2.1 ≤ h.length + (w.2.2.2.2.2.2.1 - h.length); omega
    · show w.2.2.2.2.2.2.2.1 ≤ ev_cost h + (w.2.2.2.2.2.2.2.1 - ev_cost h); omega
    · rw [hsh]; exact va_S.rf
  have hWk := K p e _ (T.calling g mk (vs.map (ev_v w)).toArray) mk (vs.map (ev_v w)).toArray (.java g :: below) methk ck H [] lk hCk
  rw [Nat.sub_self, Nat.sub_self] at hWk
  obtain ⟨t, hst, o, hrun, hend, r, h', hQ', hout, hrep, g1, g2, g3, g4, hWt, Lk, hsame, hLk⟩ := hWk T0 hT0h Y
  have hst2 : Steps p.tables e below (T0.setTop (F0 mk 0 lk [])) t := ev_weaken (mid := [.java g]) hst
  have hcx : ∀ (T' : State), T'.heap = t.heap → ev_cx w M d h0 p R s m meth c h' T'.heap (locs ++ Lk) L ls := by
    intro T' e1
    obtain ⟨k1, k2, k3, k4, k5, k6, -, -, -, -⟩ := C
    refine ⟨k1, k2, k3, by rw [e1]; exact hrep.1, ⟨?_, fun q q1 q2 => ?_, fun z hz => ?_⟩, k6, by omega, by omega, g3, g4⟩
    · have h1 := hrep.2.1
      have h2 := k2.2.1
      rw [e1]; omega
    · have hq : q < ev_base w := by unfold ev_A at q2; omega
      rw [e1, hrep.2.2 q hq, k2.2.2 q hq]
    · rcases List.mem_append.mp hz with hz | hz
      · exact k5.2.2 z hz
      · exact hLk z hz
  have e1 : h.length - h0.length + (h'.length - h.length) = h'.length - h0.length := by omega
  have e2 : ev_cost h - ev_cost h0 + (ev_cost h' - ev_cost h) = ev_cost h' - ev_cost h0 := by omega
  cases r with
  | inl v =>
    have ho : o = .returned (v.map (ev_v w)) := hout
    subst ho
    obtain ⟨T', X', -, -, ht⟩ := X.outOf hg hdg hend hWt hsame
    rw [e1, e2] at X'
    have hh : T'.heap = t.heap := by rw [ht]; rfl
    refine Or.inl ⟨v, h', T', locs ++ Lk, hQ', X', hcx T' hh, fun acts => ?_⟩
    rw [hin acts, ← ht]
    exact hst2
  | inr k =>
    obtain ⟨ho, ce, hce⟩ : o = .threw (ev_base w + k) ∧ ∃ c, h'[k]? = some (.inr (c, [])) := hout
    subst ho
    obtain ⟨T', X', -, -, ht⟩ := X.outOfThrown hg hend hWt hsame
    rw [e1, e2] at X'
    have hh : T'.heap = t.heap := by rw [ht]; rfl
    refine Or.inr ⟨k, ce, h', T', locs ++ Lk, hQ', hce, X', hcx T' hh, fun acts => ?_⟩
    rw [hin acts, ← ht]
    exact hst2
/-- a frame over which something was thrown -/
def ev_X (w : ev_W) (M : ev_M) (d : Nat × Nat) (h0 : ev_H) (Q : ev_R → ev_H → Prop) (pc : Nat) (L : List (Option Value)) (st : List Value) (h : ev_H) (k : Nat) : Prop :=
  ∀ (p : Program) (e : Env) (R : Room) (s : State) (m : MethodId) (args : Array Value) (below : List Frame) (meth : Method) (c : Code) (H : Heap) (locs : List Loc) (ls : Array Slot),
    ev_cx w M d h0 p R s m meth c h H locs L ls → ∀ T : State, T.heap = H → Stand p w.1 e R s m args below meth c T locs (h.length - h0.length) (ev_cost h - ev_cost h0) →
    ∃ t, Steps p.tables e below ((T.setTop (F0 m pc ls (st.map (ev_v w)))).pushFrame (.throwing (ev_base w + k))) t ∧ ev_PQ w h0 Q below s t
def ev_npar (y : MethodName) (n : Nat) : Bool := decide ((parseMethodDescriptor y.desc).map (fun q => q.parameters.length) = some n)
theorem ev_npar_of {y : MethodName} {n : Nat} (hp : ev_npar y n = true) {sig : MethodDescriptor} (hs : parseMethodDescriptor y.desc = some sig) : n = sig.parameters.length := by
  have h1 := of_decide_eq_true hp
  rw [hs] at h1
  exact (Option.some.inj h1).symm
/-- the end of a call: with what came of it the caller goes on -/
theorem ev_goOn {Q' : ev_R → ev_H → Prop} {p : Program} {e : Env} {R : Room} {s : State} {m : MethodId} {args : Array Value} {below : List Frame} {meth : Method} {c : Code} {ls : Array Slot} {T T1 : State} {mk : MethodId} {av : Array Value} {g0 : JFrame}
    (hr : ev_Cr w M d h0 L Q' p e R s m args below meth c ls T1 (F0 m pc ls (st.map (ev_v w))) mk av)
    (hstep : ∀ target, (∀ acts, Steps p.tables e below (doInvoke e (T1.setTop (F0 m pc ls (st.map (ev_v w)))) acts mk av).1 target) → Steps p.tables e below (T.setTop g0) target)
    (kk : ∀ (v : Option Value) (h' : ev_H), Q' (.inl v) h' → ev_G w M d h0 Q (pc + 3) L (v.toList ++ st) h')
    (kx : ∀ (k ce : Nat) (h' : ev_H), Q' (.inr k) h' → h'[k]? = some (.inr (ce, [])) → ev_X w M d h0 Q pc L st h' k) :
    ∃ t, Steps p.tables e below (T.setTop g0) t ∧ ev_PQ w h0 Q below s t := by
  rcases hr with ⟨v, h', T', locs', hQ', X', C', hs⟩ | ⟨k, ce, h', T', locs', hQ', hce, X', C', hs⟩
  · obtain ⟨t, st1, q⟩ := kk v h' hQ' p e R s m args below meth c T'.heap locs' ls C' T' rfl X'
    refine ⟨t, (hstep _ hs).trans ?_, q⟩
    have e1 : (v.map (ev_v w)).toList ++ st.map (ev_v w) = (v.toList ++ st).map (ev_v w) := by cases v <;> rfl
    show Steps p.tables e below (T'.setTop (F0 m (pc + 3) ls ((v.map (ev_v w)).toList ++ st.map (ev_v w)))) t
    rw [e1]
    exact st1
  · obtain ⟨t, st1, q⟩ := kx k ce h' hQ' hce p e R s m args below meth c T'.heap locs' ls C' T' rfl X'
    exact ⟨t, (hstep _ hs).trans st1, q⟩
theorem ev_catsum (st : List Value) : ((st.map (ev_v w)).map fun v => v.category).sum = (st.map fun v => v.category).sum := by
  rw [List.map_map]
  congr 1
  apply List.map_congr_left
  intro v _
  exact ev_v_cat w v
/-- a static method -/
theorem ev_callS {d' : Nat × Nat} (ok : ev_ok w) (hM : ev_dec M = true) {idx : Nat} {M' : ev_M} {vs : List Value} {Q' : ev_R → ev_H → Prop} (hi : ev_ins M pc = some (.invokestatic idx, a, b)) (hm : ev_mw M' = true) (hl : ev_has (.methodLink M.1.cls idx M'.1) = true ∨ ev_has (.methodLinkNest M.1.cls idx M'.1 ev_host) = true) (hs' : ev_has (.static M'.1) = true)
    (hnp : ev_npar M'.1 vs.length = true) (hvn : vs.length ≤ M'.2.2.1) (hvs : ∀ v ∈ vs, v.category = 1) (hdf : d'.1 + 1 ≤ d.1) (hgs : (st.map fun v => v.category).sum + (M'.2.2.1 + 11) + d'.2 ≤ d.2) (K : ev_G w M' d' h Q' 0 (ev_L0 M'.2.2.1 vs) [] h)
    (kk : ∀ (v : Option Value) (h' : ev_H), Q' (.inl v) h' → ev_G w M d h0 Q (pc + 3) L (v.toList ++ st) h')
    (kx : ∀ (k ce : Nat) (h' : ev_H), Q' (.inr k) h' → h'[k]? = some (.inr (ce, [])) → ev_X w M d h0 Q pc L st h' k) : ev_G w M d h0 Q pc L (vs.reverse ++ st) h := by
  intro p e R s m args below meth c H locs ls C T hT X
  have hW := C.1.warm
  obtain ⟨mk, methk, ck, q1, q2, q3, q4, q5, q6, q7, q8, q9, q10, q11, q12, -⟩ := ev_mw_of ok hm hW args
  have hstatic : methk.isStatic = true := Cond.static_spec q1 q2 (ev_word ok hW hs' args)
  obtain ⟨kP, hkP, -⟩ := className_of_methodNamed q1
  have hinitP : kP.init = .initialized := Cond.initialized_spec (findClass_of_methodNamed q1) hkP q10
  have hst : (F0 m pc ls ((vs.reverse ++ st).map (ev_v w))).stack = (vs.map (ev_v w)).reverse ++ st.map (ev_v w) := by
    show (vs.reverse ++ st).map (ev_v w) = _
    rw [List.map_append, List.map_reverse]
  have hd : decode c.code (F0 m pc ls ((vs.reverse ++ st).map (ev_v w))).pc = .ok (.invokestatic idx, 3) := by rw [C.1.2.1]; exact ev_dec_at hM hi
  have hlen : (vs.map (ev_v w)).length = methk.sig.parameters.length := by rw [List.length_map]; exact ev_npar_of hnp q9
  have hlsz : ls.size = c.maxLocals := by rw [C.1.2.2.1]; exact C.2.2.2.2.2.1.1.1
  obtain ⟨vm1, X1, hstep⟩ : ∃ vm', Stand p w.1 e R s m args below meth c (T.setVm vm') locs (h.length - h0.length) (ev_cost h - ev_cost h0) ∧
      ∀ target, (∀ acts, Steps p.tables e below (doInvoke e ((T.setVm vm').setTop { (F0 m pc ls ((vs.reverse ++ st).map (ev_v w))) with stack := st.map (ev_v w) }) acts mk (vs.map (ev_v w)).toArray).1 target) → Steps p.tables e below (T.setTop (F0 m pc ls ((vs.reverse ++ st).map (ev_v w)))) target := by
    rcases hl with hl | hl
    · exact X.invokestatic C.1.1 C.1.own (ev_word ok hW hl args) q1 q2 hstatic hkP hinitP q12 rfl hlen hst hd
    · exact X.invokestaticNest C.1.1 C.1.own (ev_word ok hW hl args) q1 q2 hstatic hkP hinitP q12 rfl hlen hst hd
  have hr := ev_callee K hvs hvn hdf C (T := T.setVm vm1) hT X1 (g := F0 m pc ls (st.map (ev_v w))) rfl hlsz rfl hd (by rw [ev_catsum]; exact hgs) q1 q2 q3 q4 q5 q6 q7 q8 q11
  exact ev_goOn hr hstep kk kx
/-- a method of an object -/
theorem ev_callV {d' : Nat × Nat} (ok : ev_ok w) (hM : ev_dec M = true) {idx x ci : Nat} {q : vw_C} {fs : List Value} {M' : ev_M} {vs : List Value} {Q' : ev_R → ev_H → Prop} (hi : ev_ins M pc = some (.invokevirtual idx, a, b)) (hm : ev_mw M' = true) (hl : ev_has (.methodLink M.1.cls idx M'.1) = true ∨ ev_has (.methodLinkNest M.1.cls idx M'.1 ev_host) = true)
    (hin : ev_has (.instanceMethod M'.1) = true) (hsel : ev_has (.selects M'.1.cls M'.1 M'.1) = true) (hcell : h[x]? = some (.inr (ci, fs))) (hq : ev_cl[ci]? = some q) (hqn : q.1 = M'.1.cls)
    (hnp : ev_npar M'.1 vs.length = true) (hvn : vs.length + 1 ≤ M'.2.2.1) (hvs : ∀ v ∈ vs, v.category = 1) (hdf : d'.1 + 1 ≤ d.1) (hgs : (st.map fun v => v.category).sum + (M'.2.2.1 + 11) + d'.2 ≤ d.2) (K : ev_G w M' d' h Q' 0 (ev_L0 M'.2.2.1 (.ref x :: vs)) [] h)
    (kk : ∀ (v : Option Value) (h' : ev_H), Q' (.inl v) h' → ev_G w M d h0 Q (pc + 3) L (v.toList ++ st) h')
    (kx : ∀ (k ce : Nat) (h' : ev_H), Q' (.inr k) h' → h'[k]? = some (.inr (ce, [])) → ev_X w M d h0 Q pc L st h' k) : ev_G w M d h0 Q pc L (vs.reverse ++ .ref x :: st) h := by
  intro p e R s m args below meth c H locs ls C T hT X
  have hW := C.1.warm
  obtain ⟨mk, methk, ck, q1, q2, q3, q4, q5, q6, q7, q8, q9, q10, q11, q12, -⟩ := ev_mw_of ok hm hW args
  obtain ⟨mk2, methM, hnamed, hmethM, hstM, habM⟩ := Cond.instanceMethod_spec (ev_word ok hW hin args)
  cases q1.symm.trans hnamed
  cases q2.symm.trans hmethM
  obtain ⟨r0, hr0, cell, hcl1, hcl2, hcl3, -⟩ := C.2.2.2.1 x _ (ev_ws_get hcell)
  cases hq.symm.trans hr0
  have hK := va_K.moved hW.alike ok.2.1
  have hfc : s.vm.findClass q.1 = some cell.cls := by rw [hcl2]; exact (hK.1 ci q hq).2.1
  obtain ⟨c2, r2, m2, s1, s2, s3, s4, kP, hkP, hkPi⟩ := Cond.selects_spec (ev_word ok hW hsel args)
  rw [← hqn] at s1
  cases hfc.symm.trans s1
  cases (State.methodFound?_of_named q1 q12).symm.trans s2
  cases q1.symm.trans s3
  have hselP : selectMethod e.platform s.vm cell.cls mk = .method mk := by rw [Launch.admits_selectMethod X.admits]; exact s4
  have hst : (F0 m pc ls ((vs.reverse ++ .ref x :: st).map (ev_v w))).stack = (vs.map (ev_v w)).reverse ++ .ref (ev_base w + x) :: st.map (ev_v w) := by
    show (vs.reverse ++ .ref x :: st).map (ev_v w) = _
    rw [List.map_append, List.map_reverse]; rfl
  have hd : decode c.code (F0 m pc ls ((vs.reverse ++ .ref x :: st).map (ev_v w))).pc = .ok (.invokevirtual idx, 3) := by rw [C.1.2.1]; exact ev_dec_at hM hi
  have hlen : (vs.map (ev_v w)).length = methk.sig.parameters.length := by rw [List.length_map]; exact ev_npar_of hnp q9
  have hlsz : ls.size = c.maxLocals := by rw [C.1.2.2.1]; exact C.2.2.2.2.2.1.1.1
  have hcT : T.heap[ev_base w + x]? = some cell := by rw [hT]; exact hcl1
  obtain ⟨vm1, X1, hstep⟩ : ∃ vm', Stand p w.1 e R s m args below meth c (T.setVm vm') locs (h.length - h0.length) (ev_cost h - ev_cost h0) ∧
      ∀ target, (∀ acts, Steps p.tables e below (doInvoke e ((T.setVm vm').setTop { (F0 m pc ls ((vs.reverse ++ .ref x :: st).map (ev_v w))) with stack := st.map (ev_v w) }) acts mk (Value.ref (ev_base w + x) :: vs.map (ev_v w)).toArray).1 target) → Steps p.tables e below (T.setTop (F0 m pc ls ((vs.reverse ++ .ref x :: st).map (ev_v w)))) target := by
    rcases hl with hl | hl
    · exact X.invokevirtual C.1.1 C.1.own (ev_word ok hW hl args) q1 q2 hstM hkP hkPi q12 hcT (fun z hz => by rw [hcl3] at hz; cases hz) hselP q2 habM hkP hkPi rfl hlen hst hd
    · exact X.invokevirtualNest C.1.1 C.1.own (ev_word ok hW hl args) q1 q2 hstM hkP hkPi q12 hcT (fun z hz => by rw [hcl3] at hz; cases hz) hselP q2 habM hkP hkPi rfl hlen hst hd
  have hr := ev_callee (vs := .ref x :: vs) K (fun v hv => (List.mem_cons.mp hv).elim (fun e => by rw [e]; rfl) (hvs v)) (by rw [List.length_cons]; exact hvn) hdf C (T := T.setVm vm1) hT X1 (g := F0 m pc ls (st.map (ev_v w))) rfl hlsz rfl hd (by rw [ev_catsum]; exact hgs) q1 q2 q3 q4 q5 q6 q7 q8 q11
  exact ev_goOn hr hstep kk kx
/-- a constructor of ours -/
theorem ev_callI {d' : Nat × Nat} (ok : ev_ok w) (hM : ev_dec M = true) {idx x : Nat} {M' : ev_M} {vs : List Value} {Q' : ev_R → ev_H → Prop} (hi : ev_ins M pc = some (.invokespecial idx, a, b)) (hm : ev_mw M' = true) (hh : M'.2.2.2.2.1 = []) (hrn : M'.2.2.2.1 = none) (hl : ev_has (.methodLink M.1.cls idx M'.1) = true ∨ ev_has (.methodLinkNest M.1.cls idx M'.1 ev_host) = true)
    (hin : ev_has (.instanceMethod M'.1) = true) (hname : M'.1.name = "<init>")
    (hnp : ev_npar M'.1 vs.length = true) (hvn : vs.length + 1 ≤ M'.2.2.1) (hvs : ∀ v ∈ vs, v.category = 1) (hdf : d'.1 + 1 ≤ d.1) (hgs : (st.map fun v => v.category).sum + (M'.2.2.1 + 11) + d'.2 ≤ d.2) (K : ev_G w M' d' h Q' 0 (ev_L0 M'.2.2.1 (.ref x :: vs)) [] h)
    (kk : ∀ (v : Option Value) (h' : ev_H), Q' (.inl v) h' → ev_G w M d h0 Q (pc + 3) L (v.toList ++ st) h')
    (kx : ∀ (k ce : Nat) (h' : ev_H), Q' (.inr k) h' → h'[k]? = some (.inr (ce, [])) → ev_X w M d h0 Q pc L st h' k) : ev_G w M d h0 Q pc L (vs.reverse ++ .ref x :: st) h := by
  intro p e R s m args below meth c H locs ls C T hT X
  have hW := C.1.warm
  obtain ⟨mk, methk, ck, q1, q2, q3, q4, q5, q6, q7, q8, q9, q10, q11, q12, -⟩ := ev_mw_of ok hm hW args
  have hcode : (Cond.code M'.1 M'.2.1 M'.2.2.1 none).before args s = true := by
    have h1 := hm
    simp only [ev_mw, Bool.and_eq_true, hh, hrn] at h1
    exact ev_word ok hW h1.1.1.1.1 args
  have hpl : e.platform.magicAccessors = ({} : Platform).magicAccessors := by rw [X.admits.platform]
  have hst : (F0 m pc ls ((vs.reverse ++ .ref x :: st).map (ev_v w))).stack = (vs.map (ev_v w)).reverse ++ .ref (ev_base w + x) :: st.map (ev_v w) := by
    show (vs.reverse ++ .ref x :: st).map (ev_v w) = _
    rw [List.map_append, List.map_reverse]; rfl
  have hd : decode c.code (F0 m pc ls ((vs.reverse ++ .ref x :: st).map (ev_v w))).pc = .ok (.invokespecial idx, 3) := by rw [C.1.2.1]; exact ev_dec_at hM hi
  have hlen : ∀ sig, parseMethodDescriptor M'.1.desc = some sig → (vs.map (ev_v w)).length = sig.parameters.length := fun sig hsig => by rw [List.length_map]; exact ev_npar_of hnp hsig
  have hlsz : ls.size = c.maxLocals := by rw [C.1.2.2.1]; exact C.2.2.2.2.2.1.1.1
  obtain ⟨vm1, hW1, hstep⟩ : ∃ vm', s.WarmedH vm' ∧
      ∀ target, (∀ acts, Steps p.tables e below (doInvoke e ((T.setVm vm').setTop { (F0 m pc ls ((vs.reverse ++ .ref x :: st).map (ev_v w))) with stack := st.map (ev_v w) }) acts mk (Value.ref (ev_base w + x) :: vs.map (ev_v w)).toArray).1 target) → Steps p.tables e below (T.setTop (F0 m pc ls ((vs.reverse ++ .ref x :: st).map (ev_v w)))) target := by
    rcases hl with hl | hl
    · obtain ⟨mk2, -, -, -, vm1, z1, -, -, -, -, -, -, -, z2, z3⟩ := Steps.initColdArgs (e := e) X.here C.1.1 X.warmed hpl C.1.own hname q12 (ev_word ok hW hl args) (ev_word ok hW hin args) hcode (f := F0 m pc ls ((vs.reverse ++ .ref x :: st).map (ev_v w))) rfl hlen hst hd
      cases q1.symm.trans z1
      exact ⟨vm1, z2, z3⟩
    · obtain ⟨mk2, -, -, -, vm1, z1, -, -, -, -, -, -, -, z2, z3⟩ := Steps.initColdArgsNest (e := e) X.here C.1.1 X.warmed hpl C.1.own hname q12 (ev_word ok hW hl args) (ev_word ok hW hin args) hcode (f := F0 m pc ls ((vs.reverse ++ .ref x :: st).map (ev_v w))) rfl hlen hst hd
      cases q1.symm.trans z1
      exact ⟨vm1, z2, z3⟩
  have X1 := X.noted hW1
  have hr := ev_callee (vs := .ref x :: vs) K (fun v hv => (List.mem_cons.mp hv).elim (fun e => by rw [e]; rfl) (hvs v)) (by rw [List.length_cons]; exact hvn) hdf C (T := T.setVm vm1) hT X1 (g := F0 m pc ls (st.map (ev_v w))) rfl hlsz rfl hd (by rw [ev_catsum]; exact hgs) q1 q2 q3 q4 q5 q6 q7 q8 q11
  exact ev_goOn hr hstep kk kx
/-- Object's constructor -/
theorem ev_objInit (ok : ev_ok w) (hM : ev_dec M = true) {idx x : Nat} (hi : ev_ins M pc = some (.invokespecial idx, a, b)) (hl : ev_has (.methodLink M.1.cls idx Lib.objectInit) = true) (hin : ev_has (.instanceMethod Lib.objectInit) = true) (hc : ev_has (.code Lib.objectInit ⟨#[0xb1]⟩ 1 none) = true) (hdf : 1 ≤ d.1) (hgs : (st.map fun v => v.category).sum + 12 ≤ d.2)
    (kk : ev_G w M d h0 Q (pc + 3) L st h) : ev_G w M d h0 Q pc L (.ref x :: st) h := by
  intro p e R s m args below meth c H locs ls C
  have hW := C.1.warm
  obtain ⟨f1, f2, -, -⟩ := C.2.2.1
  have hlsz : ls.size = c.maxLocals := by rw [C.1.2.2.1]; exact C.2.2.2.2.2.1.1.1
  refine W.objInit C.1.1 C.1.2.1 C.1.own (ev_word ok hW hl args) (ev_word ok hW hin args) (ev_word ok hW hc args) rfl hlsz rfl (ev_dec_at hM hi) (by omega) ?_ (kk p e R s m args below meth c H locs ls C)
  show 2 * 0 + ((st.map (ev_v w)).map fun v => v.category).sum + 12 ≤ R.locals
  rw [ev_catsum]; omega
/-- what was thrown leaves the method -/
theorem ev_leaves {k ce : Nat} (hce : h[k]? = some (.inr (ce, []))) (hh : ∀ q ∈ M.2.2.2.2.1, (decide (q.1 ≤ pc) && decide (pc < q.2.1)) = false) (hQ : Q (.inr k) h) : ev_X w M d h0 Q pc L st h k := by
  intro p e R s m args below meth c H locs ls C T hT X
  have hsz := ev_size C hT X
  obtain ⟨st1, hrun, hend, hW, hsm⟩ := X.leaveThrown (ev_base w + k) (g := F0 m pc ls (st.map (ev_v w))) rfl rfl rfl (fun x hx => by
    have h1 := hh (x.startPc, x.endPc, x.handlerPc, x.catchType) (by rw [← C.1.2.2.2.2.2.2.2.1]; exact List.mem_map.mpr ⟨x, hx, rfl⟩)
    simpa [covers] using h1) C.1.2.2.2.2.1
  exact ⟨_, st1, .threw (ev_base w + k), hrun, hend, .inr k, h, hQ, ⟨rfl, ce, hce⟩, ev_rep_of C hsz hT, C.2.2.2.2.2.2.1, C.2.2.2.2.2.2.2.1, C.2.2.2.2.2.2.2.2.1, C.2.2.2.2.2.2.2.2.2, hW, locs, hsm, C.2.2.2.2.1.2.2⟩
end EvCall
end
section
/-! throwing and catching -/
section EvThrow
/-- the first row of a handler table that takes an object of the class 'thrown' at pc is the one that goes on at n -/
def ev_first (pl : Platform) (s0 : State) (dc : ClassId) (pc : Nat) (thrown : ClassId) : List ExceptionTableEntry → Nat → Prop
  | [], _ => False
  | x :: t, n => (covers x pc = false ∧ ev_first pl s0 dc pc thrown t n) ∨
      (covers x pc = true ∧ x.catchType ≠ 0 ∧ ∃ c, s0.vm.ClassLinks pl dc x.catchType c ∧ ((s0.vm.assignable thrown c = true ∧ x.handlerPc = n) ∨ (s0.vm.assignable thrown c = false ∧ ev_first pl s0 dc pc thrown t n)))
theorem ev_find {e : Env} {s0 : State} {f : JFrame} {q : Addr} {cell : Cell} (hobj : ∀ k, cell.vm ≠ .statics k) (hk0 : ∃ k, s0.vm.classes[cell.cls]? = some k) {n : Nat} :
    ∀ (es : List ExceptionTableEntry) (S : State), s0.WarmedH S.vm → S.heap[q]? = some cell → ev_first e.platform s0 f.method.cls f.pc cell.cls es n →
      ∃ vm', s0.WarmedH vm' ∧ ∀ (Q : Handler → Pre) (E : CtlPost) (dd : Bool) (acts : List Action), wp (findHandler.go f q es) Q E e dd acts S ↔ Q (.found n) dd acts (S.setVm vm') := by
  obtain ⟨k0, hk0⟩ := hk0
  intro es
  induction es with
  | nil => intro S _ _ hf; exact hf.elim
  | cons x t ih =>
    intro S hW hcell hf
    rcases hf with ⟨hx, hf⟩ | ⟨hx, h0, c, hl, hc⟩
    · obtain ⟨vm', hW', hq⟩ := ih S hW hcell hf
      exact ⟨vm', hW', fun Q E dd acts => (W.findHandler_go_skip hx).trans (hq Q E dd acts)⟩
    · have hlS := hW.classLinks hl
      obtain ⟨dk, _, _, kt, hdk, _, _, _, _, hkt, _, hopen⟩ := hl.here
      have hWn : s0.WarmedH (S.vm.noted f.method.cls x.catchType (.cls c)) := hW.noted hdk hopen (State.rightAt_cls hl)
      have hal : S.vm.Alike (S.vm.noted f.method.cls x.catchType (.cls c)) := (Vm.Alike.refl S.vm).noted _ _ _
      obtain ⟨ha, ht⟩ := (resolveClass_links e.toSetting hlS).op (op := VmOp.resolveClass f.method.cls x.catchType) rfl
      obtain ⟨k1, hk1, -⟩ := hWn.alike.2.2 _ _ hk0
      obtain ⟨k2, hk2, -⟩ := hWn.alike.2.2 _ _ hkt
      have hx' := hx
      simp only [covers] at hx'
      rcases hc with ⟨has, rfl⟩ | ⟨has, hf⟩
      · have has' : (S.vm.noted f.method.cls x.catchType (.cls c)).assignable cell.cls c = true := by rw [hWn.alike.assignable]; exact has
        refine ⟨_, hWn, fun Q E dd acts => ?_⟩
        simp [findHandler.go, hx', h0, ha, ht, hcell, hobj, hk1, hk2, has', VmOp.dirties, VmOp.acts]
      · have has' : (S.vm.noted f.method.cls x.catchType (.cls c)).assignable cell.cls c = false := by rw [hWn.alike.assignable]; exact has
        obtain ⟨vm', hW', hq⟩ := ih (S.setVm (S.vm.noted f.method.cls x.catchType (.cls c))) hWn hcell hf
        refine ⟨vm', hW', fun Q E dd acts => ?_⟩
        have h1 : wp (findHandler.go f q (x :: t)) Q E e dd acts S ↔ wp (findHandler.go f q t) Q E e dd acts (S.setVm (S.vm.noted f.method.cls x.catchType (.cls c))) := by
          simp [findHandler.go, hx', h0, ha, ht, hcell, hobj, hk1, hk2, has', VmOp.dirties, VmOp.acts]
        exact h1.trans (hq Q E dd acts)
variable {w : ev_W} {M : ev_M} {d : Nat × Nat} {h0 : ev_H} {Q : ev_R → ev_H → Prop} {pc : Nat} {L : List (Option Value)} {st : List Value} {h : ev_H} {a b : Nat}
/-- does the first row that takes an exception of the class named E at pc go on at n? the rows ahead that cover pc name classes to which E can't be cast -/
def ev_fst (own E : String) (pc n : Nat) : List (Nat × Nat × Nat × Nat) → Bool
  | [] => false
  | q :: t => if (decide (q.1 ≤ pc) && decide (pc < q.2.1)) = true then
      decide (q.2.2.2 ≠ 0) && ev_has (.classLink own q.2.2.2 (ev_cn q.2.2.2)) &&
        (if ev_cn q.2.2.2 = E then ev_has (.castable E E) && decide (q.2.2.1 = n) else decide (Cond.not (.castable E (ev_cn q.2.2.2)) ∈ ev_nots) && ev_fst own E pc n t)
    else ev_fst own E pc n t
theorem ev_fst_of (ok : ev_ok w) (hnots : ∀ x ∈ ev_nots, x.before w.2.2.1 w.2.1 = true) {pl : Platform} (hpl : pl.magicAccessors = ({} : Platform).magicAccessors) {s : State} (hW : w.2.1.WarmedH s.vm) {own E : String} {dc cE : ClassId} (hown : s.vm.findClass own = some dc) (hE : s.vm.findClass E = some cE) {n : Nat} :
    ∀ es : List ExceptionTableEntry, ev_fst own E pc n (es.map (fun h => (h.startPc, h.endPc, h.handlerPc, h.catchType))) = true → ev_first pl s dc pc cE es n := by
  intro es
  induction es with
  | nil => intro hf; cases hf
  | cons x t ih =>
    intro hf
    simp only [List.map_cons, ev_fst] at hf
    by_cases hc : covers x pc = true
    · have hc' : (decide (x.startPc ≤ pc) && decide (pc < x.endPc)) = true := hc
      rw [if_pos hc'] at hf
      simp only [Bool.and_eq_true, decide_eq_true_eq] at hf
      obtain ⟨⟨h0, hl⟩, hr⟩ := hf
      obtain ⟨c', hc1, hcl⟩ := Cond.classLink_spec hown (ev_word ok hW hl #[]) pl hpl
      refine Or.inr ⟨hc, h0, c', hcl, ?_⟩
      by_cases hn : ev_cn x.catchType = E
      · rw [if_pos hn] at hr
        simp only [Bool.and_eq_true, decide_eq_true_eq] at hr
        obtain ⟨c3, c4, hc3, hc4, hasg⟩ := Cond.castable_spec (ev_word ok hW hr.1 #[])
        rw [hn] at hc1
        cases Option.some.inj (hc3.symm.trans hE)
        cases Option.some.inj (hc4.symm.trans hc1)
        exact Or.inl ⟨hasg, hr.2⟩
      · rw [if_neg hn] at hr
        simp only [Bool.and_eq_true, decide_eq_true_eq] at hr
        obtain ⟨c3, c4, hc3, hc4, hasg⟩ := (va_Nc.of (hnots _ hr.1)).moved hW.alike
        cases Option.some.inj (hc3.symm.trans hE)
        cases Option.some.inj (hc4.symm.trans hc1)
        exact Or.inr ⟨hasg, ih hr.2⟩
    · have hc' : covers x pc = false := by simpa using hc
      rw [if_neg hc] at hf
      exact Or.inl ⟨hc', ih hf⟩
theorem ev_caught {tb : Tables} {e : Env} {s target : State} {g : JFrame} {c : Code} {below : List Frame} {q : Addr} {n : Nat} {vm' : Vm} (hAt : At s g.method c below)
    (hf : ∀ (Q : Handler → Pre) (E : CtlPost) (dd : Bool) (acts : List Action), wp (findHandler g q) Q E e dd acts ((s.setTop g).pushFrame (.throwing q)) ↔ Q (.found n) dd acts (((s.setTop g).pushFrame (.throwing q)).setVm vm'))
    (hrest : Steps tb e below ((s.setVm vm').setTop { g with pc := n, stack := [.ref q] }) target) : Steps tb e below ((s.setTop g).pushFrame (.throwing q)) target := by
  obtain ⟨hgo, hw⟩ := hAt.throwing q
  refine Steps.head hgo hw ?_
  have hstep : (stepThrowing e ((s.setTop g).pushFrame (.throwing q)) q (.java g :: s.frames.tail)).Is ((((s.setTop g).pushFrame (.throwing q)).setVm vm').setFrames (.java { g with pc := n, stack := [.ref q] } :: s.frames.tail)) [] := by
    simp only [stepThrowing, searchFrame, vmDo]
    generalize hr : Sem.go _ e false [] _ = res
    obtain ⟨as, rfl, ha⟩ := Sem.eq_ok_of hr (a := Handler.found n) (s' := ((s.setTop g).pushFrame (.throwing q)).setVm vm') (acts' := []) (by simp [hf _ _ _ _])
    exact ⟨rfl, ha⟩
  rw [stepThread_throwing (frames_entered hAt.top _), hstep.1]
  obtain ⟨g0, hg⟩ := Option.isSome_iff_exists.mp hAt.top
  obtain ⟨r, hr⟩ := State.topJava?_eq_some.mp hg
  have hr' : (s.setVm vm').frames = .java g0 :: r := hr
  rw [State.setTop_of_frames _ hr'] at hrest
  rw [State.pushFrame, State.setTop_of_frames _ hr, State.setFrames_setFrames, hr]
  show Steps tb e below (((s.setVm vm').setFrames _).setFrames _) target
  rw [State.setFrames_setFrames]
  exact hrest
theorem ev_catch (ok : ev_ok w) (hnots : ∀ x ∈ ev_nots, x.before w.2.2.1 w.2.1 = true) {k ce n : Nat} {q : vw_C} (hce : h[k]? = some (.inr (ce, []))) (hq : ev_cl[ce]? = some q) (hf : ev_fst M.1.cls q.1 pc n M.2.2.2.2.1 = true) (kk : ev_G w M d h0 Q n L [.ref k] h) : ev_X w M d h0 Q pc L st h k := by
  intro p e R s m args below meth c H locs ls C T hT X
  have hW := C.1.warm
  have hpl : e.platform.magicAccessors = ({} : Platform).magicAccessors := by rw [X.admits.platform]
  obtain ⟨r0, hr0, cell, hcl1, hcl2, hcl3, -⟩ := C.2.2.2.1 k _ (ev_ws_get hce)
  cases hq.symm.trans hr0
  have hK := va_K.moved hW.alike ok.2.1
  have hfc : s.vm.findClass q.1 = some cell.cls := by rw [hcl2]; exact (hK.1 ce q hq).2.1
  have hcT : T.heap[ev_base w + k]? = some cell := by rw [hT]; exact hcl1
  have h1 : ev_fst M.1.cls q.1 pc n (c.exceptionTable.toList.map (fun h => (h.startPc, h.endPc, h.handlerPc, h.catchType))) = true := by rw [C.1.2.2.2.2.2.2.2.1]; exact hf
  have h2 := ev_fst_of ok hnots hpl hW C.1.own hfc c.exceptionTable.toList h1
  obtain ⟨vm', hW', hgo⟩ := ev_find (e := e) (s0 := s) (f := F0 m pc ls (st.map (ev_v w))) (q := ev_base w + k) (cell := cell) (fun z hz => by rw [hcl3] at hz; cases hz) (Vm.classAt_of_findClass hfc) c.exceptionTable.toList
    ((T.setTop (F0 m pc ls (st.map (ev_v w)))).pushFrame (.throwing (ev_base w + k))) X.warmed hcT h2
  have hm' : ((T.setTop (F0 m pc ls (st.map (ev_v w)))).pushFrame (.throwing (ev_base w + k))).vm.method? (F0 m pc ls (st.map (ev_v w))).method = some meth := X.method'
  obtain ⟨t, st1, hq1⟩ := kk p e R s m args below meth c H locs ls C (T.setVm vm') hT (X.noted hW')
  have hAt : At T (F0 m pc ls (st.map (ev_v w))).method c below := X.here
  exact ⟨t, ev_caught hAt (fun Q E dd acts => (W.findHandler_eq hm' X.code).trans (hgo Q E dd acts)) st1, hq1⟩
/-! a throw of one's own -/
theorem ev_stat {C n dsc : String} {a1 a2 : Array Value} {s U : State} (hal : s.vm.Alike U.vm) (hold : ∀ q : Nat, q < s.heap.size → U.heap[q]? = s.heap[q]?) (hl : (Cond.laysStatic C n dsc).before a1 s = true) : (Cond.laysStatic C n dsc).before a2 U = true := by
  obtain ⟨c, k, i, f, x, cell, q1, q2, q3, q4, q5, q6, q7, q8, q9⟩ := Cond.laysStatic_spec hl
  obtain ⟨k', hi', he⟩ := State.fieldFound?_setVm hal q2
  have hx : x < s.heap.size := (Array.getElem?_eq_some_iff.mp q5).1
  show (Cond.laysStatic C n dsc).holds a2 U none U [] = true
  exact Cond.laysStatic_of (by rw [hal.findClass]; exact q1) (by simpa only [State.fieldFound?, State.vm_setVm] using hi') q3 (by rw [he]; exact q4) (by rw [hold x hx]; exact q5) q6 q7 q8 (by rw [he]; exact q9)
theorem ev_statR {C n dsc : String} {a1 a2 : Array Value} {s U : State} (hal : s.vm.Alike U.vm) (hold : ∀ q : Nat, q < s.heap.size → U.heap[q]? = s.heap[q]?) (hl : (Cond.laysStatic C n dsc).before a1 s = true) (hr : (Cond.isRef (.static C n dsc)).before a1 s = true) : (Cond.isRef (.static C n dsc)).before a2 U = true := by
  obtain ⟨c, k, i, f, x, cell, q1, q2, q3, q4, q5, q6, q7, q8, q9⟩ := Cond.laysStatic_spec hl
  obtain ⟨k', hi', he⟩ := State.fieldFound?_setVm hal q2
  have hx : x < s.heap.size := (Array.getElem?_eq_some_iff.mp q5).1
  have hfU : U.fieldFound? C n dsc = some (c, k', i, f) := by simpa only [State.fieldFound?, State.vm_setVm] using hi'
  have hsU : k'.statics = some x := by rw [he]; exact q4
  have hcU : U.heap[x]? = some cell := by rw [hold x hx]; exact q5
  have e1 : (Term.static C n dsc).eval a1 s none [] s = cell.slots[f.slot]? := by
    simp [Term.eval, State.fieldNamed?, q2, q3, q4, q5, q6]
  have e2 : (Term.static C n dsc).eval a2 U none [] U = cell.slots[f.slot]? := by
    simp [Term.eval, State.fieldNamed?, hfU, q3, hsU, hcU, q6]
  simp only [Cond.before, Cond.holds, Cond.value, e1] at hr
  simp only [Cond.before, Cond.holds, Cond.value, e2]
  exact hr
/-- the frame as if the method had been called just now -/
theorem ev_anew {p : Program} {l : Launch} {e : Env} {R R' : Room} {s : State} {m : MethodId} {args : Array Value} {below : List Frame} {meth : Method} {c : Code} {T : State} {locs : List Loc} {cells slots : Nat} (X : Stand p l e R s m args below meth c T locs cells slots)
    (hf : R'.frames ≤ R.frames) (hl : R'.locals ≤ R.locals) (hc : cells + R'.cells ≤ R.cells) (hs : slots + R'.slots ≤ R.slots) : Stand p l e R' ((T.setVm s.vm).setFrames (.invoking m args :: below)) m args below meth c T [] 0 0 := by
  obtain ⟨g0, hg0⟩ := X.frames_eq
  have hg1 : (T.setVm s.vm).frames = .java g0 :: below := hg0
  have hF : ((T.setVm s.vm).setFrames (.invoking m args :: below)).frames = .invoking m args :: below := State.frames_setFrames _ (State.cur_lt_of_frames hg1)
  have e1 : e.platform.stackLimits (T.setVm s.vm).me = e.platform.stackLimits s.me := X.limits
  have e2 : (T.setVm s.vm).me.stackBytes = s.me.stackBytes := X.bytes
  have hU : ((T.setVm s.vm).setFrames (.invoking m args :: below)).localsInUse = s.localsInUse := by
    rw [State.localsInUse_invoking hF (meth := meth) (c := c) X.method X.code, State.localsInUse_invoking X.frames X.method X.code]
  have hz := X.heapSize
  have hu := X.used
  have hb := X.book
  have hr := X.room
  simp only [State.hasRoom, Bool.and_eq_true, decide_eq_true_eq] at hr
  obtain ⟨⟨⟨⟨r1, r2, r3, r4, r5, r6⟩, r7⟩, r8⟩, -⟩ := hr
  rw [X.frames, List.length_cons] at r2 r3
  refine ⟨X.admits, X.cas, X.clock, hF, ?_, X.hears, X.method, X.code, X.here, X.tail, X.warmed, ?_, ?_, ?_⟩
  · simp only [State.hasRoom, Bool.and_eq_true, decide_eq_true_eq, hF, hU, List.length_cons, State.stackLimits_setFrames, State.stackBytes_setFrames, e1, e2]
    refine ⟨⟨⟨⟨by omega, by omega, by omega, by omega, by omega, r6⟩, ?_⟩, ?_⟩, hb⟩
    · show T.heap.size + R'.cells ≤ e.platform.maxCells
      omega
    · show T.slotsUsed + R'.slots ≤ e.platform.maxSlots
      omega
  · rw [State.stackLimits_setFrames]; rfl
  · rw [State.stackBytes_setFrames]; rfl
  · have hd : T.heap.toList.drop T.heap.size = [] := List.drop_eq_nil_of_le (Nat.le_of_eq Array.length_toList)
    refine ⟨?_, Nat.le_refl _, Nat.le_refl _, ?_, ?_, fun x c9 h9 => ⟨c9, h9, rfl, rfl, fun _ _ => rfl⟩⟩
    · obtain ⟨t, ht, -⟩ := State.frames_cons hg1
      show T.setVm s.vm = { ((T.setVm s.vm).setFrames (.invoking m args :: below)).setFrames (T.setVm s.vm).frames with heap := T.heap, slotsUsed := T.slotsUsed }
      rw [State.setFrames_setFrames, State.setFrames_self ht]
      rfl
    · show T.slotsUsed = T.slotsUsed + ((T.heap.toList.drop T.heap.size).map (·.slots.size)).sum
      rw [hd]; rfl
    · show ((T.heap.toList.drop T.heap.size).map (·.slots.size)).sum ≤ 0
      rw [hd]; exact Nat.le_refl _
/-- where nothing was written, every cell is as it was -/
theorem ev_same {s U : State} {k n : Nat} (hs : s.sameButNew ({ U with vm := s.vm } : State) [] k n) : s.heap.size ≤ U.heap.size ∧ U.heap.size ≤ s.heap.size + k ∧ ∀ q : Nat, q < s.heap.size → U.heap[q]? = s.heap[q]? := by
  obtain ⟨-, h2, h3, -, -, h6⟩ := hs
  refine ⟨h2, h3, fun q hq => ?_⟩
  obtain ⟨c9, e1, e2, e3, e4⟩ := h6 q _ (Array.getElem?_eq_getElem hq)
  have e5 : c9.slots = (s.heap[q]).slots := Array.ext_getElem? fun i => e4 i (fun hm => by cases hm)
  have e6 : c9 = s.heap[q] := by rw [e5] at e2; exact e2
  have e7 : U.heap[q]? = some c9 := e1
  rw [e7, e6, Array.getElem?_eq_getElem hq]
/-- the words of a throw: each is a good one of the tables, or one of the four that speak of the heap -/
def ev_sp : List Cond := [.isRef (.static Bundle.tN "UNASSIGNED_STACK" Bundle.steD), .isRef (.static Bundle.tN "SUPPRESSED_SENTINEL" Bundle.listD), .laysStatic Bundle.tN "UNASSIGNED_STACK" Bundle.steD, .laysStatic Bundle.tN "SUPPRESSED_SENTINEL" Bundle.listD]
def ev_names : List String := ["java/lang/RuntimeException", "java/lang/Exception"]
def ev_thw (own : String) (ik is ic : Nat) (E tx : String) : Bool := (Bundle.ownAtoms own ic E ev_names).all (fun x => ev_has x || decide (x ∈ ev_sp)) && ev_has (.classLink own ik E) && ev_has (.initialized E) && decide (Cond.stringRef own is tx ∈ lw_tbl) && Bundle.fit E
theorem ev_throw (ok : ev_ok w) (hsp : ∀ x ∈ ev_sp, x.before w.2.2.1 w.2.1 = true) (hM : ev_dec M = true) {ik is ic ce a3 b3 a4 b4 a6 b6 a9 b9 : Nat} {q : vw_C} {tx : String} (hq : ev_cl[ce]? = some q) (hq0 : q.2.2 = 0) (hqs : ev_sz ce = 6)
    (i0 : ev_ins M pc = some (.new ik, ce, b)) (i3 : ev_ins M (pc + 3) = some (.dup, a3, b3)) (i4 : ev_ins M (pc + 4) = some (.ldc is, a4, b4)) (i6 : ev_ins M (pc + 6) = some (.invokespecial ic, a6, b6)) (i9 : ev_ins M (pc + 9) = some (.athrow, a9, b9))
    (hw : ev_thw M.1.cls ik is ic q.1 tx = true) (hh : ∀ z ∈ M.2.2.2.2.1, (decide (z.1 ≤ pc + 9) && decide (pc + 9 < z.2.1)) = false) (hdf : 6 ≤ d.1) (hgs : (st.map fun v => v.category).sum + 82 ≤ d.2)
    (h1 : h.length + 1 ≤ w.2.2.2.2.2.2.1) (h2 : ev_cost h + 6 ≤ w.2.2.2.2.2.2.2.1) (hQ : Q (.inr h.length) (h ++ [.inr (ce, [])])) : ev_G w M d h0 Q pc L st h := by
  intro p e R s m args below meth c H locs ls C T hT X
  have hW := C.1.warm
  have hsz := ev_size C hT X
  have hb := C.1.2.1
  have hexec := C.1.1
  obtain ⟨r1, r2⟩ := C.room h1 h2
  obtain ⟨f1, f2, -, -⟩ := C.2.2.1
  have hlsz : ls.size = c.maxLocals := by rw [C.1.2.2.1]; exact C.2.2.2.2.2.1.1.1
  have htr : e.platform.stackTraces = false := (show e.platform.stackTraces = w.1.stackTraces by rw [X.admits.platform]).trans ok.2.2.1
  have Y := ev_anew X (R' := { frames := R.frames, locals := R.locals, cells := 1, slots := 6 }) (Nat.le_refl _) (Nat.le_refl _) r1 r2
  obtain ⟨s', hs'⟩ : ∃ z, z = (T.setVm s.vm).setFrames (.invoking m args :: below) := ⟨_, rfl⟩
  rw [← hs'] at Y
  have hvm : s'.vm = s.vm := by rw [hs']; rfl
  have hhp : s'.heap = H := by rw [hs']; exact hT
  have hW' : w.2.1.WarmedH s'.vm := by rw [hvm]; exact hW
  have hrep := ev_rep_of C hsz hhp
  have hold : ∀ x : Nat, x < w.2.1.heap.size → s'.heap[x]? = w.2.1.heap[x]? := hrep.2.2
  simp only [ev_thw, Bool.and_eq_true, decide_eq_true_eq] at hw
  obtain ⟨⟨⟨⟨hat, hk⟩, hini⟩, hstr⟩, hfit⟩ := hw
  have hlU := hsp (.laysStatic Bundle.tN "UNASSIGNED_STACK" Bundle.steD) (by simp [ev_sp])
  have hlS := hsp (.laysStatic Bundle.tN "SUPPRESSED_SENTINEL" Bundle.listD) (by simp [ev_sp])
  have hat' : ∀ x ∈ Bundle.ownAtoms M.1.cls ic q.1 ev_names, x.before args s' = true := by
    intro x hx
    have h3 := List.all_eq_true.mp hat x hx
    simp only [Bool.or_eq_true, decide_eq_true_eq] at h3
    rcases h3 with h3 | h3
    · exact ev_word ok hW' h3 args
    · simp only [ev_sp, List.mem_cons, List.not_mem_nil, or_false] at h3
      rcases h3 with rfl | rfl | rfl | rfl
      · exact ev_statR hW'.alike hold hlU (hsp _ (by simp [ev_sp]))
      · exact ev_statR hW'.alike hold hlS (hsp _ (by simp [ev_sp]))
      · exact ev_stat hW'.alike hold hlU
      · exact ev_stat hW'.alike hold hlS
  have hown' : s'.vm.findClass M.1.cls = some m.cls := by rw [hvm]; exact C.1.own
  have hins : (Cond.instantiable q.1 6).before args s' = true := hat' _ (by simp [Bundle.ownAtoms])
  have d0 : decode c.code pc = .ok (.new ik, 3) := by rw [hb]; exact ev_dec_at hM i0
  have d3 : decode c.code (pc + 3) = .ok (.dup, 1) := by rw [hb]; exact ev_dec_at hM i3
  have d4 : decode c.code (pc + 4) = .ok (.ldc is, 2) := by rw [hb]; exact ev_dec_at hM i4
  have d6 : decode c.code (pc + 6) = .ok (.invokespecial ic, 3) := by rw [hb]; exact ev_dec_at hM i6
  have d9 : decode c.code (pc + 9) = .ok (.athrow, 1) := by rw [hb]; exact ev_dec_at hM i9
  have hstr0 : (Cond.stringRef M.1.cls is tx).before w.2.2.1 w.2.1 = true := ok.1 _ hstr
  obtain ⟨cown0, hcown0⟩ : ∃ z, w.2.1.vm.findClass M.1.cls = some z := ⟨m.cls, by rw [← hW'.alike.findClass]; exact hown'⟩
  obtain ⟨-, -, -, sa, -, -, -, -, -, hev⟩ := Cond.stringRef_spec hcown0 hstr0
  have hv := vk_R.warm hW' (vk_R.of hstr0 hev)
  obtain ⟨vm₁, cX, kX, hfX, hkX, -, -, X₁, st1⟩ := Y.newCold hexec (own := M.1.cls) (C := q.1) (index := ik) (n := 6) hown' (ev_word ok hW' hk args) hins (ev_word ok hW' hini args)
    (g := F0 m pc ls (st.map (ev_v w))) rfl d0 (Nat.le_refl _) (Nat.le_refl _)
  generalize hT1 : (T.setVm vm₁).pushCell { cls := cX, slots := kX.instanceTypes.map defaultValue, vm := .none } = T1 at X₁ st1
  have hcat : (Value.ref T.heap.size).category = 1 := rfl
  have hcellA : T1.heap[T.heap.size]? = some (freshCell cX kX) := by rw [← hT1]; exact State.heap_pushCell_size _ _
  obtain ⟨U, hsteps, hrun, hend, hWU, hsame, cE, hcE, hO⟩ := X₁.ctorThrowS hexec htr (own := M.1.cls) (cls := q.1) (names := ev_names) (ic := ic) hown' hfit (by decide) hat' (fun x hx => by cases hx) hfX hkX hcellA (by rw [hhp, hT]; exact Nat.le_refl _) (msg := .ref sa) rfl
    (g := { method := m, pc := pc + 6, locals := ls, stack := .ref sa :: .ref T.heap.size :: .ref T.heap.size :: st.map (ev_v w), locked := none }) rfl hlsz rfl rfl (rest := st.map (ev_v w)) rfl
    d6 d9 (fun x hx => by
      have h3 := hh (x.startPc, x.endPc, x.handlerPc, x.catchType) (by rw [← C.1.2.2.2.2.2.2.2.1]; exact List.mem_map.mpr ⟨x, hx, rfl⟩)
      simpa [covers] using h3)
    (by show ev_names.length + 3 < R.frames; simp only [ev_names, List.length_cons, List.length_nil]; omega)
    (by
      show 2 * 0 + ((Value.ref T.heap.size :: st.map (ev_v w)).map fun v => v.category).sum + (13 * (ev_names.length + 1) + 42) ≤ R.locals
      simp only [List.map_cons, List.sum_cons, hcat, ev_catsum, ev_names, List.length_cons, List.length_nil]; omega) C.1.2.2.2.2.1
  obtain ⟨z1, z2, z3⟩ := ev_same hsame
  rw [hhp] at z1 z2 z3
  have hTs : T.heap.size = ev_base w + h.length := by rw [hT]; exact hsz
  have hUlt : T.heap.size < U.heap.size := (Array.getElem?_eq_some_iff.mp hcE).1
  have hWs : s.WarmedH U.vm := by
    have h3 : s'.WarmedH U.vm := hWU
    have h4 : s.WarmedH s'.vm := by rw [hvm]; exact State.WarmedH.refl s
    exact State.WarmedH.trans h4 h3
  have hfE : s.vm.findClass q.1 = some cE.cls := by
    have h3 := hO.cls
    rw [hvm] at h3
    exact h3
  have hK := va_K.moved hW.alike ok.2.1
  have hD1 : w.2.2.2.1.1 ce = cE.cls := Option.some.inj ((hK.1 ce q hq).2.1.symm.trans hfE)
  have hrepU : ev_rep w (h ++ [.inr (ce, [])]) U.heap := by
    refine ⟨?_, ?_, fun x hx => ?_⟩
    · rw [ev_ws_app]
      refine va_P.app ((C.2.2.2.1).kept (fun k z hz => z3 z.1 ((C.2.2.2.1 k z hz).lt))) (fun k z hz => ?_)
      have hk0 : k = 0 := by
        have := (List.getElem?_eq_some_iff.mp hz).1
        simp at this; omega
      subst hk0
      cases hz
      refine ⟨q, hq, cE, ?_, hD1.symm, hO.vm, fun j hj => ?_⟩
      · show U.heap[ev_base w + h.length]? = some cE
        rw [← hTs]; exact hcE
      · rw [hq0] at hj; omega
    · rw [List.length_append, List.length_singleton]; omega
    · rw [z3 x (by omega)]
      rw [← hhp]
      exact hold x hx
  have hall : s.sameButNew ({ U with vm := s.vm } : State) locs (h.length - h0.length + 1) (ev_cost h - ev_cost h0 + 6) := by
    have h3 : s'.sameButNew ({ U with vm := s'.vm } : State) [] 1 6 := hsame
    rw [hvm] at h3
    subst hs'
    obtain ⟨q1, q2⟩ := h3
    rw [State.setFrames_setFrames] at q1
    have h4 : (T.setVm s.vm).sameButNew ({ U with vm := s.vm } : State) [] 1 6 := ⟨q1, q2⟩
    have h5 := X.same.trans h4
    rw [List.append_nil] at h5
    exact h5
  obtain ⟨-, -, -, -, c5, -, c7, c8, c9, c10⟩ := C
  have e1 : (h ++ [(.inr (ce, []) : ev_E)]).length - h0.length = h.length - h0.length + 1 := by rw [List.length_append, List.length_singleton]; omega
  have e2 : ev_c1 (.inr (ce, [])) = 6 := hqs
  have e3 : ev_cost (h ++ [(.inr (ce, []) : ev_E)]) - ev_cost h0 = ev_cost h - ev_cost h0 + 6 := by rw [ev_cost_app, e2]; omega
  refine ⟨U, ?_, .threw T.heap.size, hrun, hend, .inr h.length, h ++ [.inr (ce, [])], hQ, ⟨by rw [hTs], ce, by simp⟩, hrepU, by rw [List.length_append]; omega, by rw [ev_cost_app]; omega, by rw [List.length_append]; exact h1, by rw [ev_cost_app, e2]; exact h2, hWs, locs, by rw [e1, e3]; exact hall, ?_⟩
  · refine st1 _ ?_
    show Steps p.tables e below (T1.setTop { method := m, pc := pc + 3, locals := ls, stack := .ref T.heap.size :: st.map (ev_v w), locked := none }) _
    jvm_step X₁.here [X₁.here.top, hexec, d3, Value.category]
    exact X₁.ldcString hexec (own := M.1.cls) (text := tx) (index := is) (a := sa) hown' hv.1 hv.2
      (g := { method := m, pc := pc + 4, locals := ls, stack := .ref T.heap.size :: .ref T.heap.size :: st.map (ev_v w), locked := none }) rfl d4 _ hsteps
  · exact c5.2.2
theorem ev_throwW (ok : ev_ok w) (hsp : ∀ x ∈ ev_sp, x.before w.2.2.1 w.2.1 = true) (hM : ev_dec M = true) {ik is ic ce a3 b3 a4 b4 a6 b6 a9 b9 : Nat} {q : vw_C} {tx : String} (hq : ev_cl[ce]? = some q) (hq0 : q.2.2 = 0) (hqs : ev_sz ce = 6)
    (i0 : ev_ins M pc = some (.new ik, ce, b)) (i3 : ev_ins M (pc + 3) = some (.dup, a3, b3)) (i4 : ev_ins M (pc + 4) = some (.ldc_w is, a4, b4)) (i6 : ev_ins M (pc + 7) = some (.invokespecial ic, a6, b6)) (i9 : ev_ins M (pc + 10) = some (.athrow, a9, b9))
    (hw : ev_thw M.1.cls ik is ic q.1 tx = true) (hh : ∀ z ∈ M.2.2.2.2.1, (decide (z.1 ≤ pc + 10) && decide (pc + 10 < z.2.1)) = false) (hdf : 6 ≤ d.1) (hgs : (st.map fun v => v.category).sum + 82 ≤ d.2)
    (h1 : h.length + 1 ≤ w.2.2.2.2.2.2.1) (h2 : ev_cost h + 6 ≤ w.2.2.2.2.2.2.2.1) (hQ : Q (.inr h.length) (h ++ [.inr (ce, [])])) : ev_G w M d h0 Q pc L st h := by
  intro p e R s m args below meth c H locs ls C T hT X
  have hW := C.1.warm
  have hsz := ev_size C hT X
  have hb := C.1.2.1
  have hexec := C.1.1
  obtain ⟨r1, r2⟩ := C.room h1 h2
  obtain ⟨f1, f2, -, -⟩ := C.2.2.1
  have hlsz : ls.size = c.maxLocals := by rw [C.1.2.2.1]; exact C.2.2.2.2.2.1.1.1
  have htr : e.platform.stackTraces = false := (show e.platform.stackTraces = w.1.stackTraces by rw [X.admits.platform]).trans ok.2.2.1
  have Y := ev_anew X (R' := { frames := R.frames, locals := R.locals, cells := 1, slots := 6 }) (Nat.le_refl _) (Nat.le_refl _) r1 r2
  obtain ⟨s', hs'⟩ : ∃ z, z = (T.setVm s.vm).setFrames (.invoking m args :: below) := ⟨_, rfl⟩
  rw [← hs'] at Y
  have hvm : s'.vm = s.vm := by rw [hs']; rfl
  have hhp : s'.heap = H := by rw [hs']; exact hT
  have hW' : w.2.1.WarmedH s'.vm := by rw [hvm]; exact hW
  have hrep := ev_rep_of C hsz hhp
  have hold : ∀ x : Nat, x < w.2.1.heap.size → s'.heap[x]? = w.2.1.heap[x]? := hrep.2.2
  simp only [ev_thw, Bool.and_eq_true, decide_eq_true_eq] at hw
  obtain ⟨⟨⟨⟨hat, hk⟩, hini⟩, hstr⟩, hfit⟩ := hw
  have hlU := hsp (.laysStatic Bundle.tN "UNASSIGNED_STACK" Bundle.steD) (by simp [ev_sp])
  have hlS := hsp (.laysStatic Bundle.tN "SUPPRESSED_SENTINEL" Bundle.listD) (by simp [ev_sp])
  have hat' : ∀ x ∈ Bundle.ownAtoms M.1.cls ic q.1 ev_names, x.before args s' = true := by
    intro x hx
    have h3 := List.all_eq_true.mp hat x hx
    simp only [Bool.or_eq_true, decide_eq_true_eq] at h3
    rcases h3 with h3 | h3
    · exact ev_word ok hW' h3 args
    · simp only [ev_sp, List.mem_cons, List.not_mem_nil, or_false] at h3
      rcases h3 with rfl | rfl | rfl | rfl
      · exact ev_statR hW'.alike hold hlU (hsp _ (by simp [ev_sp]))
      · exact ev_statR hW'.alike hold hlS (hsp _ (by simp [ev_sp]))
      · exact ev_stat hW'.alike hold hlU
      · exact ev_stat hW'.alike hold hlS
  have hown' : s'.vm.findClass M.1.cls = some m.cls := by rw [hvm]; exact C.1.own
  have hins : (Cond.instantiable q.1 6).before args s' = true := hat' _ (by simp [Bundle.ownAtoms])
  have d0 : decode c.code pc = .ok (.new ik, 3) := by rw [hb]; exact ev_dec_at hM i0
  have d3 : decode c.code (pc + 3) = .ok (.dup, 1) := by rw [hb]; exact ev_dec_at hM i3
  have d4 : decode c.code (pc + 4) = .ok (.ldc_w is, 3) := by rw [hb]; exact ev_dec_at hM i4
  have d6 : decode c.code (pc + 7) = .ok (.invokespecial ic, 3) := by rw [hb]; exact ev_dec_at hM i6
  have d9 : decode c.code (pc + 10) = .ok (.athrow, 1) := by rw [hb]; exact ev_dec_at hM i9
  have hstr0 : (Cond.stringRef M.1.cls is tx).before w.2.2.1 w.2.1 = true := ok.1 _ hstr
  obtain ⟨cown0, hcown0⟩ : ∃ z, w.2.1.vm.findClass M.1.cls = some z := ⟨m.cls, by rw [← hW'.alike.findClass]; exact hown'⟩
  obtain ⟨-, -, -, sa, -, -, -, -, -, hev⟩ := Cond.stringRef_spec hcown0 hstr0
  have hv := vk_R.warm hW' (vk_R.of hstr0 hev)
  obtain ⟨vm₁, cX, kX, hfX, hkX, -, -, X₁, st1⟩ := Y.newCold hexec (own := M.1.cls) (C := q.1) (index := ik) (n := 6) hown' (ev_word ok hW' hk args) hins (ev_word ok hW' hini args)
    (g := F0 m pc ls (st.map (ev_v w))) rfl d0 (Nat.le_refl _) (Nat.le_refl _)
  generalize hT1 : (T.setVm vm₁).pushCell { cls := cX, slots := kX.instanceTypes.map defaultValue, vm := .none } = T1 at X₁ st1
  have hcat : (Value.ref T.heap.size).category = 1 := rfl
  have hcellA : T1.heap[T.heap.size]? = some (freshCell cX kX) := by rw [← hT1]; exact State.heap_pushCell_size _ _
  obtain ⟨U, hsteps, hrun, hend, hWU, hsame, cE, hcE, hO⟩ := X₁.ctorThrowS hexec htr (own := M.1.cls) (cls := q.1) (names := ev_names) (ic := ic) hown' hfit (by decide) hat' (fun x hx => by cases hx) hfX hkX hcellA (by rw [hhp, hT]; exact Nat.le_refl _) (msg := .ref sa) rfl
    (g := { method := m, pc := pc + 7, locals := ls, stack := .ref sa :: .ref T.heap.size :: .ref T.heap.size :: st.map (ev_v w), locked := none }) rfl hlsz rfl rfl (rest := st.map (ev_v w)) rfl
    d6 d9 (fun x hx => by
      have h3 := hh (x.startPc, x.endPc, x.handlerPc, x.catchType) (by rw [← C.1.2.2.2.2.2.2.2.1]; exact List.mem_map.mpr ⟨x, hx, rfl⟩)
      simpa [covers] using h3)
    (by show ev_names.length + 3 < R.frames; simp only [ev_names, List.length_cons, List.length_nil]; omega)
    (by
      show 2 * 0 + ((Value.ref T.heap.size :: st.map (ev_v w)).map fun v => v.category).sum + (13 * (ev_names.length + 1) + 42) ≤ R.locals
      simp only [List.map_cons, List.sum_cons, hcat, ev_catsum, ev_names, List.length_cons, List.length_nil]; omega) C.1.2.2.2.2.1
  obtain ⟨z1, z2, z3⟩ := ev_same hsame
  rw [hhp] at z1 z2 z3
  have hTs : T.heap.size = ev_base w + h.length := by rw [hT]; exact hsz
  have hUlt : T.heap.size < U.heap.size := (Array.getElem?_eq_some_iff.mp hcE).1
  have hWs : s.WarmedH U.vm := by
    have h3 : s'.WarmedH U.vm := hWU
    have h4 : s.WarmedH s'.vm := by rw [hvm]; exact State.WarmedH.refl s
    exact State.WarmedH.trans h4 h3
  have hfE : s.vm.findClass q.1 = some cE.cls := by
    have h3 := hO.cls
    rw [hvm] at h3
    exact h3
  have hK := va_K.moved hW.alike ok.2.1
  have hD1 : w.2.2.2.1.1 ce = cE.cls := Option.some.inj ((hK.1 ce q hq).2.1.symm.trans hfE)
  have hrepU : ev_rep w (h ++ [.inr (ce, [])]) U.heap := by
    refine ⟨?_, ?_, fun x hx => ?_⟩
    · rw [ev_ws_app]
      refine va_P.app ((C.2.2.2.1).kept (fun k z hz => z3 z.1 ((C.2.2.2.1 k z hz).lt))) (fun k z hz => ?_)
      have hk0 : k = 0 := by
        have := (List.getElem?_eq_some_iff.mp hz).1
        simp at this; omega
      subst hk0
      cases hz
      refine ⟨q, hq, cE, ?_, hD1.symm, hO.vm, fun j hj => ?_⟩
      · show U.heap[ev_base w + h.length]? = some cE
        rw [← hTs]; exact hcE
      · rw [hq0] at hj; omega
    · rw [List.length_append, List.length_singleton]; omega
    · rw [z3 x (by omega)]
      rw [← hhp]
      exact hold x hx
  have hall : s.sameButNew ({ U with vm := s.vm } : State) locs (h.length - h0.length + 1) (ev_cost h - ev_cost h0 + 6) := by
    have h3 : s'.sameButNew ({ U with vm := s'.vm } : State) [] 1 6 := hsame
    rw [hvm] at h3
    subst hs'
    obtain ⟨q1, q2⟩ := h3
    rw [State.setFrames_setFrames] at q1
    have h4 : (T.setVm s.vm).sameButNew ({ U with vm := s.vm } : State) [] 1 6 := ⟨q1, q2⟩
    have h5 := X.same.trans h4
    rw [List.append_nil] at h5
    exact h5
  obtain ⟨-, -, -, -, c5, -, c7, c8, c9, c10⟩ := C
  have e1 : (h ++ [(.inr (ce, []) : ev_E)]).length - h0.length = h.length - h0.length + 1 := by rw [List.length_append, List.length_singleton]; omega
  have e2 : ev_c1 (.inr (ce, [])) = 6 := hqs
  have e3 : ev_cost (h ++ [(.inr (ce, []) : ev_E)]) - ev_cost h0 = ev_cost h - ev_cost h0 + 6 := by rw [ev_cost_app, e2]; omega
  refine ⟨U, ?_, .threw T.heap.size, hrun, hend, .inr h.length, h ++ [.inr (ce, [])], hQ, ⟨by rw [hTs], ce, by simp⟩, hrepU, by rw [List.length_append]; omega, by rw [ev_cost_app]; omega, by rw [List.length_append]; exact h1, by rw [ev_cost_app, e2]; exact h2, hWs, locs, by rw [e1, e3]; exact hall, ?_⟩
  · refine st1 _ ?_
    show Steps p.tables e below (T1.setTop { method := m, pc := pc + 3, locals := ls, stack := .ref T.heap.size :: st.map (ev_v w), locked := none }) _
    jvm_step X₁.here [X₁.here.top, hexec, d3, Value.category]
    exact ldcStringW X₁ hexec (own := M.1.cls) (text := tx) (index := is) (a := sa) hown' hv.1 hv.2
      (g := { method := m, pc := pc + 4, locals := ls, stack := .ref T.heap.size :: .ref T.heap.size :: st.map (ev_v w), locked := none }) rfl d4 _ hsteps
  · exact c5.2.2
end EvThrow
end
