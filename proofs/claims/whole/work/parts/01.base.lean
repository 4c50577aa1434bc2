-- ===== PART A: goes FIRST, ahead of the names: the tables' words, and 'selects' of the private methods out of them =====
/-- a private method of a class that the tables say can be made, by its rows of tables_1 -/
def lw_okq (q : MethodName × Nat) : Prop := (q.1.cls ≠ "java/lang/invoke/MethodHandle" ∧ q.1.cls ≠ "java/lang/invoke/VarHandle") ∧ Cond.instantiable q.1.cls q.2 ∈ tables_1 ∧ Cond.privateMethod q.1 ∈ tables_1 ∧ Cond.instanceMethod q.1 ∈ tables_1
theorem lw_p0 : lw_okq (⟨"DuckWalk", "found", "(I)I"⟩, 15) := ⟨⟨by decide +kernel, by decide +kernel⟩, List.mem_of_getElem? (i := 17) (by decide +kernel), List.mem_of_getElem? (i := 310) (by decide +kernel), List.mem_of_getElem? (i := 311) (by decide +kernel)⟩
theorem lw_p1 : lw_okq (⟨"DuckWalk", "tell", "(I)I"⟩, 15) := ⟨⟨by decide +kernel, by decide +kernel⟩, List.mem_of_getElem? (i := 17) (by decide +kernel), List.mem_of_getElem? (i := 333) (by decide +kernel), List.mem_of_getElem? (i := 334) (by decide +kernel)⟩
theorem lw_p2 : lw_okq (⟨"DuckWalk$Reader", "readRub", "(LDuckWalk$Script;I)I"⟩, 4) := ⟨⟨by decide +kernel, by decide +kernel⟩, List.mem_of_getElem? (i := 134) (by decide +kernel), List.mem_of_getElem? (i := 408) (by decide +kernel), List.mem_of_getElem? (i := 409) (by decide +kernel)⟩
theorem lw_p3 : lw_okq (⟨"DuckWalk$Reader", "faultAt", "(I)I"⟩, 4) := ⟨⟨by decide +kernel, by decide +kernel⟩, List.mem_of_getElem? (i := 134) (by decide +kernel), List.mem_of_getElem? (i := 418) (by decide +kernel), List.mem_of_getElem? (i := 419) (by decide +kernel)⟩
theorem lw_p4 : lw_okq (⟨"DuckWalk$Reader", "readBump", "(LDuckWalk$Script;I)I"⟩, 4) := ⟨⟨by decide +kernel, by decide +kernel⟩, List.mem_of_getElem? (i := 134) (by decide +kernel), List.mem_of_getElem? (i := 422) (by decide +kernel), List.mem_of_getElem? (i := 423) (by decide +kernel)⟩
theorem lw_p5 : lw_okq (⟨"DuckWalk$Reader", "readSize", "(LDuckWalk$Script;I)I"⟩, 4) := ⟨⟨by decide +kernel, by decide +kernel⟩, List.mem_of_getElem? (i := 134) (by decide +kernel), List.mem_of_getElem? (i := 440) (by decide +kernel), List.mem_of_getElem? (i := 441) (by decide +kernel)⟩
theorem lw_p6 : lw_okq (⟨"DuckWalk", "isReady", "(II)Z"⟩, 15) := ⟨⟨by decide +kernel, by decide +kernel⟩, List.mem_of_getElem? (i := 17) (by decide +kernel), List.mem_of_getElem? (i := 597) (by decide +kernel), List.mem_of_getElem? (i := 598) (by decide +kernel)⟩
theorem lw_p7 : lw_okq (⟨"DuckWalk$Trial", "closeTrip", "(II)V"⟩, 8) := ⟨⟨by decide +kernel, by decide +kernel⟩, List.mem_of_getElem? (i := 160) (by decide +kernel), List.mem_of_getElem? (i := 610) (by decide +kernel), List.mem_of_getElem? (i := 611) (by decide +kernel)⟩
theorem lw_p8 : lw_okq (⟨"DuckWalk", "refusalOfTocks", "(III)I"⟩, 15) := ⟨⟨by decide +kernel, by decide +kernel⟩, List.mem_of_getElem? (i := 17) (by decide +kernel), List.mem_of_getElem? (i := 677) (by decide +kernel), List.mem_of_getElem? (i := 678) (by decide +kernel)⟩
theorem lw_p9 : lw_okq (⟨"DuckWalk$Guess", "offOf", "(LDuckWalk$Course;LDuckWalk$Row;I)I"⟩, 4) := ⟨⟨by decide +kernel, by decide +kernel⟩, List.mem_of_getElem? (i := 198) (by decide +kernel), List.mem_of_getElem? (i := 686) (by decide +kernel), List.mem_of_getElem? (i := 687) (by decide +kernel)⟩
theorem lw_p10 : lw_okq (⟨"DuckWalk$Guess", "weigh", "(III)V"⟩, 4) := ⟨⟨by decide +kernel, by decide +kernel⟩, List.mem_of_getElem? (i := 198) (by decide +kernel), List.mem_of_getElem? (i := 693) (by decide +kernel), List.mem_of_getElem? (i := 694) (by decide +kernel)⟩
theorem lw_p11 : lw_okq (⟨"DuckWalk", "tellFraction", "(II)V"⟩, 15) := ⟨⟨by decide +kernel, by decide +kernel⟩, List.mem_of_getElem? (i := 17) (by decide +kernel), List.mem_of_getElem? (i := 701) (by decide +kernel), List.mem_of_getElem? (i := 702) (by decide +kernel)⟩
theorem lw_p12 : lw_okq (⟨"DuckWalk", "leastPush", "(LDuckWalk$Duck;IZ)I"⟩, 15) := ⟨⟨by decide +kernel, by decide +kernel⟩, List.mem_of_getElem? (i := 17) (by decide +kernel), List.mem_of_getElem? (i := 745) (by decide +kernel), List.mem_of_getElem? (i := 746) (by decide +kernel)⟩
theorem lw_p13 : lw_okq (⟨"DuckWalk", "bearsBump", "(IIII)Z"⟩, 15) := ⟨⟨by decide +kernel, by decide +kernel⟩, List.mem_of_getElem? (i := 17) (by decide +kernel), List.mem_of_getElem? (i := 753) (by decide +kernel), List.mem_of_getElem? (i := 754) (by decide +kernel)⟩
theorem lw_p14 : lw_okq (⟨"DuckWalk", "countOf", "(I)I"⟩, 15) := ⟨⟨by decide +kernel, by decide +kernel⟩, List.mem_of_getElem? (i := 17) (by decide +kernel), List.mem_of_getElem? (i := 777) (by decide +kernel), List.mem_of_getElem? (i := 778) (by decide +kernel)⟩
theorem lw_p15 : lw_okq (⟨"DuckWalk", "countDucks", "(Z)I"⟩, 15) := ⟨⟨by decide +kernel, by decide +kernel⟩, List.mem_of_getElem? (i := 17) (by decide +kernel), List.mem_of_getElem? (i := 781) (by decide +kernel), List.mem_of_getElem? (i := 782) (by decide +kernel)⟩
def lw_privs_1 : List (MethodName × Nat) := [(⟨"DuckWalk", "found", "(I)I"⟩, 15), (⟨"DuckWalk", "tell", "(I)I"⟩, 15), (⟨"DuckWalk$Reader", "readRub", "(LDuckWalk$Script;I)I"⟩, 4), (⟨"DuckWalk$Reader", "faultAt", "(I)I"⟩, 4), (⟨"DuckWalk$Reader", "readBump", "(LDuckWalk$Script;I)I"⟩, 4), (⟨"DuckWalk$Reader", "readSize", "(LDuckWalk$Script;I)I"⟩, 4), (⟨"DuckWalk", "isReady", "(II)Z"⟩, 15), (⟨"DuckWalk$Trial", "closeTrip", "(II)V"⟩, 8), (⟨"DuckWalk", "refusalOfTocks", "(III)I"⟩, 15), (⟨"DuckWalk$Guess", "offOf", "(LDuckWalk$Course;LDuckWalk$Row;I)I"⟩, 4), (⟨"DuckWalk$Guess", "weigh", "(III)V"⟩, 4), (⟨"DuckWalk", "tellFraction", "(II)V"⟩, 15), (⟨"DuckWalk", "leastPush", "(LDuckWalk$Duck;IZ)I"⟩, 15), (⟨"DuckWalk", "bearsBump", "(IIII)Z"⟩, 15), (⟨"DuckWalk", "countOf", "(I)I"⟩, 15), (⟨"DuckWalk", "countDucks", "(Z)I"⟩, 15)]
theorem lw_r1 : ∀ q ∈ lw_privs_1, lw_okq q := List.forall_mem_cons.mpr ⟨lw_p0, List.forall_mem_cons.mpr ⟨lw_p1, List.forall_mem_cons.mpr ⟨lw_p2, List.forall_mem_cons.mpr ⟨lw_p3, List.forall_mem_cons.mpr ⟨lw_p4, List.forall_mem_cons.mpr ⟨lw_p5, List.forall_mem_cons.mpr ⟨lw_p6, List.forall_mem_cons.mpr ⟨lw_p7, List.forall_mem_cons.mpr ⟨lw_p8, List.forall_mem_cons.mpr ⟨lw_p9, List.forall_mem_cons.mpr ⟨lw_p10, List.forall_mem_cons.mpr ⟨lw_p11, List.forall_mem_cons.mpr ⟨lw_p12, List.forall_mem_cons.mpr ⟨lw_p13, List.forall_mem_cons.mpr ⟨lw_p14, List.forall_mem_cons.mpr ⟨lw_p15, fun _ h => absurd h List.not_mem_nil⟩⟩⟩⟩⟩⟩⟩⟩⟩⟩⟩⟩⟩⟩⟩⟩
theorem lw_p16 : lw_okq (⟨"DuckWalk", "countPlanks", "()I"⟩, 15) := ⟨⟨by decide +kernel, by decide +kernel⟩, List.mem_of_getElem? (i := 17) (by decide +kernel), List.mem_of_getElem? (i := 785) (by decide +kernel), List.mem_of_getElem? (i := 786) (by decide +kernel)⟩
theorem lw_p17 : lw_okq (⟨"DuckWalk", "countKept", "()I"⟩, 15) := ⟨⟨by decide +kernel, by decide +kernel⟩, List.mem_of_getElem? (i := 17) (by decide +kernel), List.mem_of_getElem? (i := 789) (by decide +kernel), List.mem_of_getElem? (i := 790) (by decide +kernel)⟩
theorem lw_p18 : lw_okq (⟨"DuckWalk", "countRows", "()I"⟩, 15) := ⟨⟨by decide +kernel, by decide +kernel⟩, List.mem_of_getElem? (i := 17) (by decide +kernel), List.mem_of_getElem? (i := 793) (by decide +kernel), List.mem_of_getElem? (i := 794) (by decide +kernel)⟩
theorem lw_p19 : lw_okq (⟨"DuckWalk", "countScripts", "()I"⟩, 15) := ⟨⟨by decide +kernel, by decide +kernel⟩, List.mem_of_getElem? (i := 17) (by decide +kernel), List.mem_of_getElem? (i := 797) (by decide +kernel), List.mem_of_getElem? (i := 798) (by decide +kernel)⟩
theorem lw_p20 : lw_okq (⟨"DuckWalkModel", "notes", "(I)I"⟩, 41) := ⟨⟨by decide +kernel, by decide +kernel⟩, List.mem_of_getElem? (i := 842) (by decide +kernel), List.mem_of_getElem? (i := 1003) (by decide +kernel), List.mem_of_getElem? (i := 1004) (by decide +kernel)⟩
theorem lw_p21 : lw_okq (⟨"DuckWalkModel", "rowAt", "(II)I"⟩, 41) := ⟨⟨by decide +kernel, by decide +kernel⟩, List.mem_of_getElem? (i := 842) (by decide +kernel), List.mem_of_getElem? (i := 1011) (by decide +kernel), List.mem_of_getElem? (i := 1012) (by decide +kernel)⟩
theorem lw_p22 : lw_okq (⟨"DuckWalkModel", "tells", "(II)I"⟩, 41) := ⟨⟨by decide +kernel, by decide +kernel⟩, List.mem_of_getElem? (i := 842) (by decide +kernel), List.mem_of_getElem? (i := 1015) (by decide +kernel), List.mem_of_getElem? (i := 1016) (by decide +kernel)⟩
theorem lw_p23 : lw_okq (⟨"DuckWalkModel", "boardFault", "(I)I"⟩, 41) := ⟨⟨by decide +kernel, by decide +kernel⟩, List.mem_of_getElem? (i := 842) (by decide +kernel), List.mem_of_getElem? (i := 1050) (by decide +kernel), List.mem_of_getElem? (i := 1051) (by decide +kernel)⟩
theorem lw_p24 : lw_okq (⟨"DuckWalkModel", "byteAt", "(II)I"⟩, 41) := ⟨⟨by decide +kernel, by decide +kernel⟩, List.mem_of_getElem? (i := 842) (by decide +kernel), List.mem_of_getElem? (i := 1054) (by decide +kernel), List.mem_of_getElem? (i := 1055) (by decide +kernel)⟩
theorem lw_p25 : lw_okq (⟨"DuckWalkModel", "readsBoard", "(I)Z"⟩, 41) := ⟨⟨by decide +kernel, by decide +kernel⟩, List.mem_of_getElem? (i := 842) (by decide +kernel), List.mem_of_getElem? (i := 1058) (by decide +kernel), List.mem_of_getElem? (i := 1059) (by decide +kernel)⟩
theorem lw_p26 : lw_okq (⟨"DuckWalkModel", "figure", "(II)Z"⟩, 41) := ⟨⟨by decide +kernel, by decide +kernel⟩, List.mem_of_getElem? (i := 842) (by decide +kernel), List.mem_of_getElem? (i := 1062) (by decide +kernel), List.mem_of_getElem? (i := 1063) (by decide +kernel)⟩
theorem lw_p27 : lw_okq (⟨"DuckWalkModel", "walkerFault", "(I)I"⟩, 41) := ⟨⟨by decide +kernel, by decide +kernel⟩, List.mem_of_getElem? (i := 842) (by decide +kernel), List.mem_of_getElem? (i := 1066) (by decide +kernel), List.mem_of_getElem? (i := 1067) (by decide +kernel)⟩
theorem lw_p28 : lw_okq (⟨"DuckWalkModel", "readsSize", "(I)Z"⟩, 41) := ⟨⟨by decide +kernel, by decide +kernel⟩, List.mem_of_getElem? (i := 842) (by decide +kernel), List.mem_of_getElem? (i := 1070) (by decide +kernel), List.mem_of_getElem? (i := 1071) (by decide +kernel)⟩
theorem lw_p29 : lw_okq (⟨"DuckWalkModel", "starts", "(II)V"⟩, 41) := ⟨⟨by decide +kernel, by decide +kernel⟩, List.mem_of_getElem? (i := 842) (by decide +kernel), List.mem_of_getElem? (i := 1107) (by decide +kernel), List.mem_of_getElem? (i := 1108) (by decide +kernel)⟩
theorem lw_p30 : lw_okq (⟨"DuckWalkModel", "storeWalk", "()V"⟩, 41) := ⟨⟨by decide +kernel, by decide +kernel⟩, List.mem_of_getElem? (i := 842) (by decide +kernel), List.mem_of_getElem? (i := 1111) (by decide +kernel), List.mem_of_getElem? (i := 1112) (by decide +kernel)⟩
theorem lw_p31 : lw_okq (⟨"DuckWalkModel", "layWalk", "()V"⟩, 41) := ⟨⟨by decide +kernel, by decide +kernel⟩, List.mem_of_getElem? (i := 842) (by decide +kernel), List.mem_of_getElem? (i := 1115) (by decide +kernel), List.mem_of_getElem? (i := 1116) (by decide +kernel)⟩
def lw_privs_2 : List (MethodName × Nat) := [(⟨"DuckWalk", "countPlanks", "()I"⟩, 15), (⟨"DuckWalk", "countKept", "()I"⟩, 15), (⟨"DuckWalk", "countRows", "()I"⟩, 15), (⟨"DuckWalk", "countScripts", "()I"⟩, 15), (⟨"DuckWalkModel", "notes", "(I)I"⟩, 41), (⟨"DuckWalkModel", "rowAt", "(II)I"⟩, 41), (⟨"DuckWalkModel", "tells", "(II)I"⟩, 41), (⟨"DuckWalkModel", "boardFault", "(I)I"⟩, 41), (⟨"DuckWalkModel", "byteAt", "(II)I"⟩, 41), (⟨"DuckWalkModel", "readsBoard", "(I)Z"⟩, 41), (⟨"DuckWalkModel", "figure", "(II)Z"⟩, 41), (⟨"DuckWalkModel", "walkerFault", "(I)I"⟩, 41), (⟨"DuckWalkModel", "readsSize", "(I)Z"⟩, 41), (⟨"DuckWalkModel", "starts", "(II)V"⟩, 41), (⟨"DuckWalkModel", "storeWalk", "()V"⟩, 41), (⟨"DuckWalkModel", "layWalk", "()V"⟩, 41)]
theorem lw_r2 : ∀ q ∈ lw_privs_2, lw_okq q := List.forall_mem_cons.mpr ⟨lw_p16, List.forall_mem_cons.mpr ⟨lw_p17, List.forall_mem_cons.mpr ⟨lw_p18, List.forall_mem_cons.mpr ⟨lw_p19, List.forall_mem_cons.mpr ⟨lw_p20, List.forall_mem_cons.mpr ⟨lw_p21, List.forall_mem_cons.mpr ⟨lw_p22, List.forall_mem_cons.mpr ⟨lw_p23, List.forall_mem_cons.mpr ⟨lw_p24, List.forall_mem_cons.mpr ⟨lw_p25, List.forall_mem_cons.mpr ⟨lw_p26, List.forall_mem_cons.mpr ⟨lw_p27, List.forall_mem_cons.mpr ⟨lw_p28, List.forall_mem_cons.mpr ⟨lw_p29, List.forall_mem_cons.mpr ⟨lw_p30, List.forall_mem_cons.mpr ⟨lw_p31, fun _ h => absurd h List.not_mem_nil⟩⟩⟩⟩⟩⟩⟩⟩⟩⟩⟩⟩⟩⟩⟩⟩
theorem lw_p32 : lw_okq (⟨"DuckWalkModel", "gain", "()I"⟩, 41) := ⟨⟨by decide +kernel, by decide +kernel⟩, List.mem_of_getElem? (i := 842) (by decide +kernel), List.mem_of_getElem? (i := 1119) (by decide +kernel), List.mem_of_getElem? (i := 1120) (by decide +kernel)⟩
theorem lw_p33 : lw_okq (⟨"DuckWalkModel", "walksOn", "()Z"⟩, 41) := ⟨⟨by decide +kernel, by decide +kernel⟩, List.mem_of_getElem? (i := 842) (by decide +kernel), List.mem_of_getElem? (i := 1127) (by decide +kernel), List.mem_of_getElem? (i := 1128) (by decide +kernel)⟩
theorem lw_p34 : lw_okq (⟨"DuckWalkModel", "step", "(I)V"⟩, 41) := ⟨⟨by decide +kernel, by decide +kernel⟩, List.mem_of_getElem? (i := 842) (by decide +kernel), List.mem_of_getElem? (i := 1131) (by decide +kernel), List.mem_of_getElem? (i := 1132) (by decide +kernel)⟩
theorem lw_p35 : lw_okq (⟨"DuckWalkModel", "fallsAt", "()I"⟩, 41) := ⟨⟨by decide +kernel, by decide +kernel⟩, List.mem_of_getElem? (i := 842) (by decide +kernel), List.mem_of_getElem? (i := 1135) (by decide +kernel), List.mem_of_getElem? (i := 1136) (by decide +kernel)⟩
theorem lw_p36 : lw_okq (⟨"DuckWalkModel", "walkTells", "(I)I"⟩, 41) := ⟨⟨by decide +kernel, by decide +kernel⟩, List.mem_of_getElem? (i := 842) (by decide +kernel), List.mem_of_getElem? (i := 1143) (by decide +kernel), List.mem_of_getElem? (i := 1144) (by decide +kernel)⟩
theorem lw_p37 : lw_okq (⟨"DuckWalkModel", "copyWalk", "(II)V"⟩, 41) := ⟨⟨by decide +kernel, by decide +kernel⟩, List.mem_of_getElem? (i := 842) (by decide +kernel), List.mem_of_getElem? (i := 1159) (by decide +kernel), List.mem_of_getElem? (i := 1160) (by decide +kernel)⟩
theorem lw_p38 : lw_okq (⟨"DuckWalkModel", "need", "(ZIIII)I"⟩, 41) := ⟨⟨by decide +kernel, by decide +kernel⟩, List.mem_of_getElem? (i := 842) (by decide +kernel), List.mem_of_getElem? (i := 1175) (by decide +kernel), List.mem_of_getElem? (i := 1176) (by decide +kernel)⟩
theorem lw_p39 : lw_okq (⟨"DuckWalkModel", "areGood", "(IIII)Z"⟩, 41) := ⟨⟨by decide +kernel, by decide +kernel⟩, List.mem_of_getElem? (i := 842) (by decide +kernel), List.mem_of_getElem? (i := 1179) (by decide +kernel), List.mem_of_getElem? (i := 1180) (by decide +kernel)⟩
theorem lw_p40 : lw_okq (⟨"DuckWalkModel", "looksAt", "(III)V"⟩, 41) := ⟨⟨by decide +kernel, by decide +kernel⟩, List.mem_of_getElem? (i := 842) (by decide +kernel), List.mem_of_getElem? (i := 1183) (by decide +kernel), List.mem_of_getElem? (i := 1184) (by decide +kernel)⟩
theorem lw_p41 : lw_okq (⟨"DuckWalkModel", "goingOf", "(I)I"⟩, 41) := ⟨⟨by decide +kernel, by decide +kernel⟩, List.mem_of_getElem? (i := 842) (by decide +kernel), List.mem_of_getElem? (i := 1187) (by decide +kernel), List.mem_of_getElem? (i := 1188) (by decide +kernel)⟩
theorem lw_p42 : lw_okq (⟨"DuckWalkModel", "steps", "(I)V"⟩, 41) := ⟨⟨by decide +kernel, by decide +kernel⟩, List.mem_of_getElem? (i := 842) (by decide +kernel), List.mem_of_getElem? (i := 1191) (by decide +kernel), List.mem_of_getElem? (i := 1192) (by decide +kernel)⟩
theorem lw_p43 : lw_okq (⟨"DuckWalkModel", "unlikePaces", "(I)I"⟩, 41) := ⟨⟨by decide +kernel, by decide +kernel⟩, List.mem_of_getElem? (i := 842) (by decide +kernel), List.mem_of_getElem? (i := 1208) (by decide +kernel), List.mem_of_getElem? (i := 1209) (by decide +kernel)⟩
theorem lw_p44 : lw_okq (⟨"DuckWalkModel", "walksWell", "(I)Z"⟩, 41) := ⟨⟨by decide +kernel, by decide +kernel⟩, List.mem_of_getElem? (i := 842) (by decide +kernel), List.mem_of_getElem? (i := 1220) (by decide +kernel), List.mem_of_getElem? (i := 1221) (by decide +kernel)⟩
theorem lw_p45 : lw_okq (⟨"DuckWalkModel", "span", "(I)I"⟩, 41) := ⟨⟨by decide +kernel, by decide +kernel⟩, List.mem_of_getElem? (i := 842) (by decide +kernel), List.mem_of_getElem? (i := 1232) (by decide +kernel), List.mem_of_getElem? (i := 1233) (by decide +kernel)⟩
theorem lw_p46 : lw_okq (⟨"DuckWalkModel", "needTocks", "(III)I"⟩, 41) := ⟨⟨by decide +kernel, by decide +kernel⟩, List.mem_of_getElem? (i := 842) (by decide +kernel), List.mem_of_getElem? (i := 1244) (by decide +kernel), List.mem_of_getElem? (i := 1245) (by decide +kernel)⟩
theorem lw_p47 : lw_okq (⟨"DuckWalkModel", "offTocks", "(III)I"⟩, 41) := ⟨⟨by decide +kernel, by decide +kernel⟩, List.mem_of_getElem? (i := 842) (by decide +kernel), List.mem_of_getElem? (i := 1248) (by decide +kernel), List.mem_of_getElem? (i := 1249) (by decide +kernel)⟩
def lw_privs_3 : List (MethodName × Nat) := [(⟨"DuckWalkModel", "gain", "()I"⟩, 41), (⟨"DuckWalkModel", "walksOn", "()Z"⟩, 41), (⟨"DuckWalkModel", "step", "(I)V"⟩, 41), (⟨"DuckWalkModel", "fallsAt", "()I"⟩, 41), (⟨"DuckWalkModel", "walkTells", "(I)I"⟩, 41), (⟨"DuckWalkModel", "copyWalk", "(II)V"⟩, 41), (⟨"DuckWalkModel", "need", "(ZIIII)I"⟩, 41), (⟨"DuckWalkModel", "areGood", "(IIII)Z"⟩, 41), (⟨"DuckWalkModel", "looksAt", "(III)V"⟩, 41), (⟨"DuckWalkModel", "goingOf", "(I)I"⟩, 41), (⟨"DuckWalkModel", "steps", "(I)V"⟩, 41), (⟨"DuckWalkModel", "unlikePaces", "(I)I"⟩, 41), (⟨"DuckWalkModel", "walksWell", "(I)Z"⟩, 41), (⟨"DuckWalkModel", "span", "(I)I"⟩, 41), (⟨"DuckWalkModel", "needTocks", "(III)I"⟩, 41), (⟨"DuckWalkModel", "offTocks", "(III)I"⟩, 41)]
theorem lw_r3 : ∀ q ∈ lw_privs_3, lw_okq q := List.forall_mem_cons.mpr ⟨lw_p32, List.forall_mem_cons.mpr ⟨lw_p33, List.forall_mem_cons.mpr ⟨lw_p34, List.forall_mem_cons.mpr ⟨lw_p35, List.forall_mem_cons.mpr ⟨lw_p36, List.forall_mem_cons.mpr ⟨lw_p37, List.forall_mem_cons.mpr ⟨lw_p38, List.forall_mem_cons.mpr ⟨lw_p39, List.forall_mem_cons.mpr ⟨lw_p40, List.forall_mem_cons.mpr ⟨lw_p41, List.forall_mem_cons.mpr ⟨lw_p42, List.forall_mem_cons.mpr ⟨lw_p43, List.forall_mem_cons.mpr ⟨lw_p44, List.forall_mem_cons.mpr ⟨lw_p45, List.forall_mem_cons.mpr ⟨lw_p46, List.forall_mem_cons.mpr ⟨lw_p47, fun _ h => absurd h List.not_mem_nil⟩⟩⟩⟩⟩⟩⟩⟩⟩⟩⟩⟩⟩⟩⟩⟩
theorem lw_p48 : lw_okq (⟨"DuckWalkModel", "fraction", "(JJI)I"⟩, 41) := ⟨⟨by decide +kernel, by decide +kernel⟩, List.mem_of_getElem? (i := 842) (by decide +kernel), List.mem_of_getElem? (i := 1256) (by decide +kernel), List.mem_of_getElem? (i := 1257) (by decide +kernel)⟩
theorem lw_p49 : lw_okq (⟨"DuckWalkModel", "counted", "(I)I"⟩, 41) := ⟨⟨by decide +kernel, by decide +kernel⟩, List.mem_of_getElem? (i := 842) (by decide +kernel), List.mem_of_getElem? (i := 1292) (by decide +kernel), List.mem_of_getElem? (i := 1293) (by decide +kernel)⟩
theorem lw_p50 : lw_okq (⟨"DuckWalkModel", "mix", "(J)V"⟩, 41) := ⟨⟨by decide +kernel, by decide +kernel⟩, List.mem_of_getElem? (i := 842) (by decide +kernel), List.mem_of_getElem? (i := 1301) (by decide +kernel), List.mem_of_getElem? (i := 1302) (by decide +kernel)⟩
theorem lw_p51 : lw_okq (⟨"DuckWalkModel", "mixBooks", "()V"⟩, 41) := ⟨⟨by decide +kernel, by decide +kernel⟩, List.mem_of_getElem? (i := 842) (by decide +kernel), List.mem_of_getElem? (i := 1306) (by decide +kernel), List.mem_of_getElem? (i := 1307) (by decide +kernel)⟩
def lw_privs_4 : List (MethodName × Nat) := [(⟨"DuckWalkModel", "fraction", "(JJI)I"⟩, 41), (⟨"DuckWalkModel", "counted", "(I)I"⟩, 41), (⟨"DuckWalkModel", "mix", "(J)V"⟩, 41), (⟨"DuckWalkModel", "mixBooks", "()V"⟩, 41)]
theorem lw_r4 : ∀ q ∈ lw_privs_4, lw_okq q := List.forall_mem_cons.mpr ⟨lw_p48, List.forall_mem_cons.mpr ⟨lw_p49, List.forall_mem_cons.mpr ⟨lw_p50, List.forall_mem_cons.mpr ⟨lw_p51, fun _ h => absurd h List.not_mem_nil⟩⟩⟩⟩
def lw_privs : List (MethodName × Nat) := lw_privs_1 ++ (lw_privs_2 ++ (lw_privs_3 ++ (lw_privs_4)))
def lw_tbl : List Cond := k2_sels lw_privs ++ tables_1
theorem lw_privs_ok : ∀ q ∈ lw_privs, lw_okq q := by
  show ∀ q ∈ lw_privs_1 ++ (lw_privs_2 ++ (lw_privs_3 ++ (lw_privs_4))), lw_okq q
  exact List.forall_mem_append.mpr ⟨lw_r1, List.forall_mem_append.mpr ⟨lw_r2, List.forall_mem_append.mpr ⟨lw_r3, lw_r4⟩⟩⟩
def RX0 : String := "DuckWalk$Course"
def TX0 : u_T := fun k => match k with
  | 0 => ("DuckWalk$Course", "duck", "LDuckWalk$Duck;", true)
  | 1 => ("DuckWalk$Course", "plank", "LDuckWalk$Plank;", true)
  | 2 => ("DuckWalk$Course", "there", "Z", false)
  | 3 => ("DuckWalk$Course", "slope", "I", false)
  | 4 => ("DuckWalk$Course", "pace", "I", false)
  | 5 => ("DuckWalk$Course", "foot", "I", false)
  | 6 => ("DuckWalk$Course", "steps", "I", false)
  | 7 => ("DuckWalk$Course", "end", "I", false)
  | 8 => ("DuckWalk$Course", "lost", "I", false)
  | _ => ("DuckWalk$Course", "went", "I", false)
def tyX0 : Nat → FieldType := fun k => match k with
  | 0 => .object "DuckWalk$Duck"
  | 1 => .object "DuckWalk$Plank"
  | 2 => .boolean
  | 3 => .int
  | 4 => .int
  | 5 => .int
  | 6 => .int
  | 7 => .int
  | 8 => .int
  | _ => .int
theorem nmX0 : ∀ a, a < 10 → ∀ b, b < 10 → a ≠ b → (TX0 a).2.1 ≠ (TX0 b).2.1 := by decide +kernel
theorem tyX0_ok : ∀ k, k < 10 → parseFieldDescriptor (TX0 k).2.2.1 = some (tyX0 k) := by decide +kernel
abbrev cX0_init : ByteArray := prog_2_method_1_code
def yX0_init : MethodName := ⟨RX0, "<init>", "()V"⟩
abbrev cX0_begin : ByteArray := prog_2_method_2_code
def yX0_begin : MethodName := ⟨RX0, "begin", "(III)V"⟩
abbrev cX0_take : ByteArray := prog_2_method_3_code
def yX0_take : MethodName := ⟨RX0, "take", "(LDuckWalk$Course;)V"⟩
abbrev cX0_stride : ByteArray := prog_2_method_4_code
def yX0_stride : MethodName := ⟨RX0, "stride", "()Z"⟩
abbrev cX0_strideOn : ByteArray := prog_2_method_5_code
def yX0_strideOn : MethodName := ⟨RX0, "strideOn", "(I)I"⟩
abbrev cX0_value : ByteArray := prog_2_method_6_code
def yX0_value : MethodName := ⟨RX0, "value", "(I)I"⟩
abbrev cX0_digestOn : ByteArray := prog_2_method_7_code
def yX0_digestOn : MethodName := ⟨RX0, "digestOn", "(J)J"⟩
def RX1 : String := "DuckWalk$Duck"
def TX1 : u_T := fun k => match k with
  | 0 => ("DuckWalk$Duck", "sizes", "[I", true)
  | 1 => ("DuckWalk$Duck", "untold", "I", false)
  | _ => ("DuckWalk$Duck", "there", "Z", false)
def tyX1 : Nat → FieldType := fun k => match k with
  | 0 => .array .int
  | 1 => .int
  | _ => .boolean
theorem nmX1 : ∀ a, a < 3 → ∀ b, b < 3 → a ≠ b → (TX1 a).2.1 ≠ (TX1 b).2.1 := by decide +kernel
theorem tyX1_ok : ∀ k, k < 3 → parseFieldDescriptor (TX1 k).2.2.1 = some (tyX1 k) := by decide +kernel
abbrev cX1_init : ByteArray := prog_3_method_1_code
def yX1_init : MethodName := ⟨RX1, "<init>", "()V"⟩
abbrev cX1_clear : ByteArray := prog_3_method_2_code
def yX1_clear : MethodName := ⟨RX1, "clear", "()V"⟩
abbrev cX1_take : ByteArray := prog_3_method_3_code
def yX1_take : MethodName := ⟨RX1, "take", "(LDuckWalk$Duck;)V"⟩
abbrev cX1_shape : ByteArray := prog_3_method_4_code
def yX1_shape : MethodName := ⟨RX1, "shape", "(III)V"⟩
abbrev cX1_isUntold : ByteArray := prog_3_method_5_code
def yX1_isUntold : MethodName := ⟨RX1, "isUntold", "(I)Z"⟩
abbrev cX1_ways : ByteArray := prog_3_method_6_code
def yX1_ways : MethodName := ⟨RX1, "ways", "()I"⟩
abbrev cX1_tellUntold : ByteArray := prog_3_method_7_code
def yX1_tellUntold : MethodName := ⟨RX1, "tellUntold", "(I)V"⟩
abbrev cX1_asNumber : ByteArray := prog_3_method_8_code
def yX1_asNumber : MethodName := ⟨RX1, "asNumber", "()I"⟩
abbrev cX1_value : ByteArray := prog_3_method_9_code
def yX1_value : MethodName := ⟨RX1, "value", "(I)I"⟩
abbrev cX1_gain : ByteArray := prog_3_method_10_code
def yX1_gain : MethodName := ⟨RX1, "gain", "(II)I"⟩
abbrev cX1_damp : ByteArray := prog_3_method_11_code
def yX1_damp : MethodName := ⟨RX1, "damp", "()I"⟩
abbrev cX1_limit : ByteArray := prog_3_method_12_code
def yX1_limit : MethodName := ⟨RX1, "limit", "()I"⟩
abbrev cX1_digestOn : ByteArray := prog_3_method_13_code
def yX1_digestOn : MethodName := ⟨RX1, "digestOn", "(J)J"⟩
def RX2 : String := "DuckWalk$Guess"
def TX2 : u_T := fun k => match k with
  | 0 => ("DuckWalk$Guess", "least", "I", false)
  | 1 => ("DuckWalk$Guess", "first", "I", false)
  | 2 => ("DuckWalk$Guess", "pairs", "I", false)
  | _ => ("DuckWalk$Guess", "leading", "I", false)
def tyX2 : Nat → FieldType := fun k => match k with
  | 0 => .int
  | 1 => .int
  | 2 => .int
  | _ => .int
theorem nmX2 : ∀ a, a < 4 → ∀ b, b < 4 → a ≠ b → (TX2 a).2.1 ≠ (TX2 b).2.1 := by decide +kernel
theorem tyX2_ok : ∀ k, k < 4 → parseFieldDescriptor (TX2 k).2.2.1 = some (tyX2 k) := by decide +kernel
abbrev cX2_init : ByteArray := prog_4_method_1_code
def yX2_init : MethodName := ⟨RX2, "<init>", "()V"⟩
abbrev cX2_search : ByteArray := prog_4_method_2_code
def yX2_search : MethodName := ⟨RX2, "search", "(LDuckWalk$Course;LDuckWalk$Row;)V"⟩
abbrev cX2_weigh : ByteArray := prog_4_method_3_code
def yX2_weigh : MethodName := ⟨RX2, "weigh", "(III)V"⟩
abbrev cX2_offOf : ByteArray := prog_4_method_4_code
def yX2_offOf : MethodName := ⟨RX2, "offOf", "(LDuckWalk$Course;LDuckWalk$Row;I)I"⟩
def RX3 : String := "DuckWalk$Plank"
def TX3 : u_T := fun k => match k with
  | 0 => ("DuckWalk$Plank", "bumps", "[I", true)
  | 1 => ("DuckWalk$Plank", "rub", "I", false)
  | _ => ("DuckWalk$Plank", "there", "Z", false)
def tyX3 : Nat → FieldType := fun k => match k with
  | 0 => .array .int
  | 1 => .int
  | _ => .boolean
theorem nmX3 : ∀ a, a < 3 → ∀ b, b < 3 → a ≠ b → (TX3 a).2.1 ≠ (TX3 b).2.1 := by decide +kernel
theorem tyX3_ok : ∀ k, k < 3 → parseFieldDescriptor (TX3 k).2.2.1 = some (tyX3 k) := by decide +kernel
abbrev cX3_init : ByteArray := prog_5_method_1_code
def yX3_init : MethodName := ⟨RX3, "<init>", "()V"⟩
abbrev cX3_clear : ByteArray := prog_5_method_2_code
def yX3_clear : MethodName := ⟨RX3, "clear", "()V"⟩
abbrev cX3_take : ByteArray := prog_5_method_3_code
def yX3_take : MethodName := ⟨RX3, "take", "(LDuckWalk$Plank;)V"⟩
abbrev cX3_bumpsOf : ByteArray := prog_5_method_4_code
def yX3_bumpsOf : MethodName := ⟨RX3, "bumpsOf", "(I)I"⟩
abbrev cX3_digestOn : ByteArray := prog_5_method_5_code
def yX3_digestOn : MethodName := ⟨RX3, "digestOn", "(J)J"⟩
def RX4 : String := "DuckWalk$Reader"
def TX4 : u_T := fun k => match k with
  | 0 => ("DuckWalk$Reader", "duck", "LDuckWalk$Duck;", true)
  | 1 => ("DuckWalk$Reader", "plank", "LDuckWalk$Plank;", true)
  | 2 => ("DuckWalk$Reader", "bumps", "I", false)
  | _ => ("DuckWalk$Reader", "fault", "I", false)
def tyX4 : Nat → FieldType := fun k => match k with
  | 0 => .object "DuckWalk$Duck"
  | 1 => .object "DuckWalk$Plank"
  | 2 => .int
  | _ => .int
theorem nmX4 : ∀ a, a < 4 → ∀ b, b < 4 → a ≠ b → (TX4 a).2.1 ≠ (TX4 b).2.1 := by decide +kernel
theorem tyX4_ok : ∀ k, k < 4 → parseFieldDescriptor (TX4 k).2.2.1 = some (tyX4 k) := by decide +kernel
abbrev cX4_init : ByteArray := prog_6_method_1_code
def yX4_init : MethodName := ⟨RX4, "<init>", "()V"⟩
abbrev cX4_readDuck : ByteArray := prog_6_method_2_code
def yX4_readDuck : MethodName := ⟨RX4, "readDuck", "(LDuckWalk$Script;)I"⟩
abbrev cX4_readPlank : ByteArray := prog_6_method_3_code
def yX4_readPlank : MethodName := ⟨RX4, "readPlank", "(LDuckWalk$Script;)I"⟩
abbrev cX4_faultAt : ByteArray := prog_6_method_4_code
def yX4_faultAt : MethodName := ⟨RX4, "faultAt", "(I)I"⟩
abbrev cX4_sizeOf : ByteArray := prog_6_method_5_code
def yX4_sizeOf : MethodName := ⟨RX4, "sizeOf", "(I)I"⟩
abbrev cX4_readSize : ByteArray := prog_6_method_6_code
def yX4_readSize : MethodName := ⟨RX4, "readSize", "(LDuckWalk$Script;I)I"⟩
abbrev cX4_readRub : ByteArray := prog_6_method_7_code
def yX4_readRub : MethodName := ⟨RX4, "readRub", "(LDuckWalk$Script;I)I"⟩
abbrev cX4_readBump : ByteArray := prog_6_method_8_code
def yX4_readBump : MethodName := ⟨RX4, "readBump", "(LDuckWalk$Script;I)I"⟩
def RX5 : String := "DuckWalk$Row"
def TX5 : u_T := fun k => match k with
  | 0 => ("DuckWalk$Row", "places", "[I", true)
  | _ => ("DuckWalk$Row", "size", "I", false)
def tyX5 : Nat → FieldType := fun k => match k with
  | 0 => .array .int
  | _ => .int
theorem nmX5 : ∀ a, a < 2 → ∀ b, b < 2 → a ≠ b → (TX5 a).2.1 ≠ (TX5 b).2.1 := by decide +kernel
theorem tyX5_ok : ∀ k, k < 2 → parseFieldDescriptor (TX5 k).2.2.1 = some (tyX5 k) := by decide +kernel
abbrev cX5_init : ByteArray := prog_7_method_1_code
def yX5_init : MethodName := ⟨RX5, "<init>", "()V"⟩
abbrev cX5_isMissing : ByteArray := prog_7_method_2_code
def yX5_isMissing : MethodName := ⟨RX5, "isMissing", "()Z"⟩
abbrev cX5_has : ByteArray := prog_7_method_3_code
def yX5_has : MethodName := ⟨RX5, "has", "(I)Z"⟩
abbrev cX5_hasSpan : ByteArray := prog_7_method_4_code
def yX5_hasSpan : MethodName := ⟨RX5, "hasSpan", "(II)Z"⟩
abbrev cX5_renew : ByteArray := prog_7_method_5_code
def yX5_renew : MethodName := ⟨RX5, "renew", "(I)V"⟩
abbrev cX5_sum : ByteArray := prog_7_method_6_code
def yX5_sum : MethodName := ⟨RX5, "sum", "()J"⟩
abbrev cX5_digestOn : ByteArray := prog_7_method_7_code
def yX5_digestOn : MethodName := ⟨RX5, "digestOn", "(J)J"⟩
def RX6 : String := "DuckWalk$Script"
def TX6 : u_T := fun k => match k with
  | 0 => ("DuckWalk$Script", "bytes", "[B", true)
  | _ => ("DuckWalk$Script", "size", "I", false)
def tyX6 : Nat → FieldType := fun k => match k with
  | 0 => .array .byte
  | _ => .int
theorem nmX6 : ∀ a, a < 2 → ∀ b, b < 2 → a ≠ b → (TX6 a).2.1 ≠ (TX6 b).2.1 := by decide +kernel
theorem tyX6_ok : ∀ k, k < 2 → parseFieldDescriptor (TX6 k).2.2.1 = some (tyX6 k) := by decide +kernel
abbrev cX6_init : ByteArray := prog_8_method_1_code
def yX6_init : MethodName := ⟨RX6, "<init>", "()V"⟩
abbrev cX6_isMissing : ByteArray := prog_8_method_2_code
def yX6_isMissing : MethodName := ⟨RX6, "isMissing", "()Z"⟩
abbrev cX6_has : ByteArray := prog_8_method_3_code
def yX6_has : MethodName := ⟨RX6, "has", "(I)Z"⟩
abbrev cX6_renew : ByteArray := prog_8_method_4_code
def yX6_renew : MethodName := ⟨RX6, "renew", "(I)V"⟩
abbrev cX6_sign : ByteArray := prog_8_method_5_code
def yX6_sign : MethodName := ⟨RX6, "sign", "(I)I"⟩
abbrev cX6_figure : ByteArray := prog_8_method_6_code
def yX6_figure : MethodName := ⟨RX6, "figure", "(I)I"⟩
abbrev cX6_digestOn : ByteArray := prog_8_method_7_code
def yX6_digestOn : MethodName := ⟨RX6, "digestOn", "(J)J"⟩
def RX7 : String := "DuckWalk$Trial"
def TX7 : u_T := fun k => match k with
  | 0 => ("DuckWalk$Trial", "course", "LDuckWalk$Course;", true)
  | 1 => ("DuckWalk$Trial", "kind", "I", false)
  | 2 => ("DuckWalk$Trial", "trip", "I", false)
  | 3 => ("DuckWalk$Trial", "least", "I", false)
  | 4 => ("DuckWalk$Trial", "most", "I", false)
  | 5 => ("DuckWalk$Trial", "paces", "[I", true)
  | 6 => ("DuckWalk$Trial", "seen", "[J", true)
  | _ => ("DuckWalk$Trial", "stamp", "J", false)
def tyX7 : Nat → FieldType := fun k => match k with
  | 0 => .object "DuckWalk$Course"
  | 1 => .int
  | 2 => .int
  | 3 => .int
  | 4 => .int
  | 5 => .array .int
  | 6 => .array .long
  | _ => .long
theorem nmX7 : ∀ a, a < 8 → ∀ b, b < 8 → a ≠ b → (TX7 a).2.1 ≠ (TX7 b).2.1 := by decide +kernel
theorem tyX7_ok : ∀ k, k < 8 → parseFieldDescriptor (TX7 k).2.2.1 = some (tyX7 k) := by decide +kernel
abbrev cX7_init : ByteArray := prog_9_method_1_code
def yX7_init : MethodName := ⟨RX7, "<init>", "()V"⟩
abbrev cX7_find : ByteArray := prog_9_method_2_code
def yX7_find : MethodName := ⟨RX7, "find", "(II)V"⟩
abbrev cX7_closeTrip : ByteArray := prog_9_method_3_code
def yX7_closeTrip : MethodName := ⟨RX7, "closeTrip", "(II)V"⟩
abbrev cX7_isOf : ByteArray := prog_9_method_4_code
def yX7_isOf : MethodName := ⟨RX7, "isOf", "(I)Z"⟩
abbrev cX7_walksWell : ByteArray := prog_9_method_5_code
def yX7_walksWell : MethodName := ⟨RX7, "walksWell", "(II)Z"⟩
abbrev cX7_tells : ByteArray := prog_9_method_6_code
def yX7_tells : MethodName := ⟨RX7, "tells", "(I)I"⟩
abbrev cX7_unlikePaces : ByteArray := prog_9_method_7_code
def yX7_unlikePaces : MethodName := ⟨RX7, "unlikePaces", "(II)I"⟩
abbrev cX7_span : ByteArray := prog_9_method_8_code
def yX7_span : MethodName := ⟨RX7, "span", "(I)I"⟩
def RX8 : String := "DuckWalk"
def TX8 : u_T := fun k => match k with
  | 0 => ("DuckWalk", "rows", "[LDuckWalk$Row;", true)
  | 1 => ("DuckWalk", "scripts", "[LDuckWalk$Script;", true)
  | 2 => ("DuckWalk", "ducks", "[LDuckWalk$Duck;", true)
  | 3 => ("DuckWalk", "planks", "[LDuckWalk$Plank;", true)
  | 4 => ("DuckWalk", "course", "LDuckWalk$Course;", true)
  | 5 => ("DuckWalk", "kept", "[LDuckWalk$Course;", true)
  | 6 => ("DuckWalk", "reader", "LDuckWalk$Reader;", true)
  | 7 => ("DuckWalk", "trial", "LDuckWalk$Trial;", true)
  | 8 => ("DuckWalk", "second", "LDuckWalk$Course;", true)
  | 9 => ("DuckWalk", "guess", "LDuckWalk$Guess;", true)
  | 10 => ("DuckWalk", "findingCounts", "[I", true)
  | 11 => ("DuckWalk", "latestFinding", "I", false)
  | 12 => ("DuckWalk", "latestAsked", "I", false)
  | 13 => ("DuckWalk", "upperNumber", "J", false)
  | _ => ("DuckWalk", "lowerNumber", "J", false)
def tyX8 : Nat → FieldType := fun k => match k with
  | 0 => .array (.object "DuckWalk$Row")
  | 1 => .array (.object "DuckWalk$Script")
  | 2 => .array (.object "DuckWalk$Duck")
  | 3 => .array (.object "DuckWalk$Plank")
  | 4 => .object "DuckWalk$Course"
  | 5 => .array (.object "DuckWalk$Course")
  | 6 => .object "DuckWalk$Reader"
  | 7 => .object "DuckWalk$Trial"
  | 8 => .object "DuckWalk$Course"
  | 9 => .object "DuckWalk$Guess"
  | 10 => .array .int
  | 11 => .int
  | 12 => .int
  | 13 => .long
  | _ => .long
theorem nmX8 : ∀ a, a < 15 → ∀ b, b < 15 → a ≠ b → (TX8 a).2.1 ≠ (TX8 b).2.1 := by decide +kernel
theorem tyX8_ok : ∀ k, k < 15 → parseFieldDescriptor (TX8 k).2.2.1 = some (tyX8 k) := by decide +kernel
abbrev cX8_init : ByteArray := prog_1_method_1_code
def yX8_init : MethodName := ⟨RX8, "<init>", "()V"⟩
abbrev cX8_isOutside : ByteArray := prog_1_method_2_code
def yX8_isOutside : MethodName := ⟨RX8, "isOutside", "(III)Z"⟩
abbrev cX8_noRow : ByteArray := prog_1_method_3_code
def yX8_noRow : MethodName := ⟨RX8, "noRow", "(I)Z"⟩
abbrev cX8_noText : ByteArray := prog_1_method_4_code
def yX8_noText : MethodName := ⟨RX8, "noText", "(I)Z"⟩
abbrev cX8_noWalker : ByteArray := prog_1_method_5_code
def yX8_noWalker : MethodName := ⟨RX8, "noWalker", "(I)Z"⟩
abbrev cX8_noBoard : ByteArray := prog_1_method_6_code
def yX8_noBoard : MethodName := ⟨RX8, "noBoard", "(I)Z"⟩
abbrev cX8_noSlope : ByteArray := prog_1_method_7_code
def yX8_noSlope : MethodName := ⟨RX8, "noSlope", "(I)Z"⟩
abbrev cX8_noPace : ByteArray := prog_1_method_8_code
def yX8_noPace : MethodName := ⟨RX8, "noPace", "(I)Z"⟩
abbrev cX8_noPair : ByteArray := prog_1_method_9_code
def yX8_noPair : MethodName := ⟨RX8, "noPair", "(III)Z"⟩
abbrev cX8_noGoing : ByteArray := prog_1_method_10_code
def yX8_noGoing : MethodName := ⟨RX8, "noGoing", "(IIII)Z"⟩
abbrev cX8_found : ByteArray := prog_1_method_11_code
def yX8_found : MethodName := ⟨RX8, "found", "(I)I"⟩
abbrev cX8_tell : ByteArray := prog_1_method_12_code
def yX8_tell : MethodName := ⟨RX8, "tell", "(I)I"⟩
abbrev cX8_isReady : ByteArray := prog_1_method_13_code
def yX8_isReady : MethodName := ⟨RX8, "isReady", "(II)Z"⟩
abbrev cX8_tellFraction : ByteArray := prog_1_method_14_code
def yX8_tellFraction : MethodName := ⟨RX8, "tellFraction", "(II)V"⟩
abbrev cX8_divisor : ByteArray := prog_1_method_15_code
def yX8_divisor : MethodName := ⟨RX8, "divisor", "(II)I"⟩
abbrev cX8_row : ByteArray := prog_1_method_16_code
def yX8_row : MethodName := ⟨RX8, "row", "(II)I"⟩
abbrev cX8_lay : ByteArray := prog_1_method_17_code
def yX8_lay : MethodName := ⟨RX8, "lay", "(III)I"⟩
abbrev cX8_at : ByteArray := prog_1_method_18_code
def yX8_at : MethodName := ⟨RX8, "at", "(II)I"⟩
abbrev cX8_tear : ByteArray := prog_1_method_19_code
def yX8_tear : MethodName := ⟨RX8, "tear", "(I)I"⟩
abbrev cX8_copy : ByteArray := prog_1_method_20_code
def yX8_copy : MethodName := ⟨RX8, "copy", "(IIIII)I"⟩
abbrev cX8_mean : ByteArray := prog_1_method_21_code
def yX8_mean : MethodName := ⟨RX8, "mean", "(I)I"⟩
abbrev cX8_text : ByteArray := prog_1_method_22_code
def yX8_text : MethodName := ⟨RX8, "text", "(II)I"⟩
abbrev cX8_put : ByteArray := prog_1_method_23_code
def yX8_put : MethodName := ⟨RX8, "put", "(III)I"⟩
abbrev cX8_fault : ByteArray := prog_1_method_24_code
def yX8_fault : MethodName := ⟨RX8, "fault", "(IZ)I"⟩
abbrev cX8_walker : ByteArray := prog_1_method_25_code
def yX8_walker : MethodName := ⟨RX8, "walker", "(II)I"⟩
abbrev cX8_board : ByteArray := prog_1_method_26_code
def yX8_board : MethodName := ⟨RX8, "board", "(II)I"⟩
abbrev cX8_about : ByteArray := prog_1_method_27_code
def yX8_about : MethodName := ⟨RX8, "about", "(II)I"⟩
abbrev cX8_rub : ByteArray := prog_1_method_28_code
def yX8_rub : MethodName := ⟨RX8, "rub", "(II)I"⟩
abbrev cX8_wax : ByteArray := prog_1_method_29_code
def yX8_wax : MethodName := ⟨RX8, "wax", "(III)I"⟩
abbrev cX8_walk : ByteArray := prog_1_method_30_code
def yX8_walk : MethodName := ⟨RX8, "walk", "(IIIII)I"⟩
abbrev cX8_go : ByteArray := prog_1_method_31_code
def yX8_go : MethodName := ⟨RX8, "go", "(I)I"⟩
abbrev cX8_told : ByteArray := prog_1_method_32_code
def yX8_told : MethodName := ⟨RX8, "told", "(I)I"⟩
abbrev cX8_tocks : ByteArray := prog_1_method_33_code
def yX8_tocks : MethodName := ⟨RX8, "tocks", "(II)I"⟩
abbrev cX8_tilt : ByteArray := prog_1_method_34_code
def yX8_tilt : MethodName := ⟨RX8, "tilt", "(I)I"⟩
abbrev cX8_keep : ByteArray := prog_1_method_35_code
def yX8_keep : MethodName := ⟨RX8, "keep", "(I)I"⟩
abbrev cX8_on : ByteArray := prog_1_method_36_code
def yX8_on : MethodName := ⟨RX8, "on", "(I)I"⟩
abbrev cX8_turns : ByteArray := prog_1_method_37_code
def yX8_turns : MethodName := ⟨RX8, "turns", "()I"⟩
abbrev cX8_going : ByteArray := prog_1_method_38_code
def yX8_going : MethodName := ⟨RX8, "going", "(IIII)I"⟩
abbrev cX8_mark : ByteArray := prog_1_method_39_code
def yX8_mark : MethodName := ⟨RX8, "mark", "(IIIII)I"⟩
abbrev cX8_lines : ByteArray := prog_1_method_40_code
def yX8_lines : MethodName := ⟨RX8, "lines", "(IIII)I"⟩
abbrev cX8_begins : ByteArray := prog_1_method_41_code
def yX8_begins : MethodName := ⟨RX8, "begins", "(III)I"⟩
abbrev cX8_mends : ByteArray := prog_1_method_42_code
def yX8_mends : MethodName := ⟨RX8, "mends", "(IIIII)I"⟩
abbrev cX8_wide : ByteArray := prog_1_method_43_code
def yX8_wide : MethodName := ⟨RX8, "wide", "(III)I"⟩
abbrev cX8_mend : ByteArray := prog_1_method_44_code
def yX8_mend : MethodName := ⟨RX8, "mend", "(IIII)I"⟩
abbrev cX8_limp : ByteArray := prog_1_method_45_code
def yX8_limp : MethodName := ⟨RX8, "limp", "(III)I"⟩
abbrev cX8_odds : ByteArray := prog_1_method_46_code
def yX8_odds : MethodName := ⟨RX8, "odds", "(III)I"⟩
abbrev cX8_refusalOfTocks : ByteArray := prog_1_method_47_code
def yX8_refusalOfTocks : MethodName := ⟨RX8, "refusalOfTocks", "(III)I"⟩
abbrev cX8_part : ByteArray := prog_1_method_48_code
def yX8_part : MethodName := ⟨RX8, "part", "(IIII)I"⟩
abbrev cX8_made : ByteArray := prog_1_method_49_code
def yX8_made : MethodName := ⟨RX8, "made", "(IIII)I"⟩
abbrev cX8_would : ByteArray := prog_1_method_50_code
def yX8_would : MethodName := ⟨RX8, "would", "(IIII)I"⟩
abbrev cX8_yard : ByteArray := prog_1_method_51_code
def yX8_yard : MethodName := ⟨RX8, "yard", "(IIIII)I"⟩
abbrev cX8_push : ByteArray := prog_1_method_52_code
def yX8_push : MethodName := ⟨RX8, "push", "(III)I"⟩
abbrev cX8_leastPush : ByteArray := prog_1_method_53_code
def yX8_leastPush : MethodName := ⟨RX8, "leastPush", "(LDuckWalk$Duck;IZ)I"⟩
abbrev cX8_bears : ByteArray := prog_1_method_54_code
def yX8_bears : MethodName := ⟨RX8, "bears", "(IIIII)I"⟩
abbrev cX8_bearsBump : ByteArray := prog_1_method_55_code
def yX8_bearsBump : MethodName := ⟨RX8, "bearsBump", "(IIII)Z"⟩
abbrev cX8_meets : ByteArray := prog_1_method_56_code
def yX8_meets : MethodName := ⟨RX8, "meets", "(IIIII)I"⟩
abbrev cX8_asked : ByteArray := prog_1_method_57_code
def yX8_asked : MethodName := ⟨RX8, "asked", "()I"⟩
abbrev cX8_upper : ByteArray := prog_1_method_58_code
def yX8_upper : MethodName := ⟨RX8, "upper", "()J"⟩
abbrev cX8_lower : ByteArray := prog_1_method_59_code
def yX8_lower : MethodName := ⟨RX8, "lower", "()J"⟩
abbrev cX8_count : ByteArray := prog_1_method_60_code
def yX8_count : MethodName := ⟨RX8, "count", "(I)I"⟩
abbrev cX8_countOf : ByteArray := prog_1_method_61_code
def yX8_countOf : MethodName := ⟨RX8, "countOf", "(I)I"⟩
abbrev cX8_countDucks : ByteArray := prog_1_method_62_code
def yX8_countDucks : MethodName := ⟨RX8, "countDucks", "(Z)I"⟩
abbrev cX8_countPlanks : ByteArray := prog_1_method_63_code
def yX8_countPlanks : MethodName := ⟨RX8, "countPlanks", "()I"⟩
abbrev cX8_countKept : ByteArray := prog_1_method_64_code
def yX8_countKept : MethodName := ⟨RX8, "countKept", "()I"⟩
abbrev cX8_countRows : ByteArray := prog_1_method_65_code
def yX8_countRows : MethodName := ⟨RX8, "countRows", "()I"⟩
abbrev cX8_countScripts : ByteArray := prog_1_method_66_code
def yX8_countScripts : MethodName := ⟨RX8, "countScripts", "()I"⟩
abbrev cX8_finding : ByteArray := prog_1_method_67_code
def yX8_finding : MethodName := ⟨RX8, "finding", "()I"⟩
abbrev cX8_findings : ByteArray := prog_1_method_68_code
def yX8_findings : MethodName := ⟨RX8, "findings", "(I)I"⟩
abbrev cX8_digest : ByteArray := prog_1_method_69_code
def yX8_digest : MethodName := ⟨RX8, "digest", "()J"⟩
def RX9 : String := "DuckWalkModel"
def TX9 : u_T := fun k => match k with
  | 0 => ("DuckWalkModel", "latest", "I", false)
  | 1 => ("DuckWalkModel", "came", "[I", true)
  | 2 => ("DuckWalkModel", "asked", "I", false)
  | 3 => ("DuckWalkModel", "upper", "J", false)
  | 4 => ("DuckWalkModel", "lower", "J", false)
  | 5 => ("DuckWalkModel", "sizes", "[I", true)
  | 6 => ("DuckWalkModel", "rows", "[I", true)
  | 7 => ("DuckWalkModel", "copied", "[I", true)
  | 8 => ("DuckWalkModel", "textSizes", "[I", true)
  | 9 => ("DuckWalkModel", "bytes", "[B", true)
  | 10 => ("DuckWalkModel", "isWalker", "[Z", true)
  | 11 => ("DuckWalkModel", "walkers", "[I", true)
  | 12 => ("DuckWalkModel", "isBoard", "[Z", true)
  | 13 => ("DuckWalkModel", "boards", "[I", true)
  | 14 => ("DuckWalkModel", "readAt", "I", false)
  | 15 => ("DuckWalkModel", "readNumber", "I", false)
  | 16 => ("DuckWalkModel", "readMany", "I", false)
  | 17 => ("DuckWalkModel", "readWalker", "[I", true)
  | 18 => ("DuckWalkModel", "readBoard", "[I", true)
  | 19 => ("DuckWalkModel", "size", "[I", true)
  | 20 => ("DuckWalkModel", "grip", "I", false)
  | 21 => ("DuckWalkModel", "slope0", "I", false)
  | 22 => ("DuckWalkModel", "pushes", "[I", true)
  | 23 => ("DuckWalkModel", "bumpAt", "I", false)
  | 24 => ("DuckWalkModel", "bumpBy", "I", false)
  | 25 => ("DuckWalkModel", "pace", "I", false)
  | 26 => ("DuckWalkModel", "foot", "I", false)
  | 27 => ("DuckWalkModel", "is", "I", false)
  | 28 => ("DuckWalkModel", "lost", "I", false)
  | 29 => ("DuckWalkModel", "went", "I", false)
  | 30 => ("DuckWalkModel", "isWalk", "[Z", true)
  | 31 => ("DuckWalkModel", "walks", "[I", true)
  | 32 => ("DuckWalkModel", "when", "[I", true)
  | 33 => ("DuckWalkModel", "paces", "[I", true)
  | 34 => ("DuckWalkModel", "ended", "I", false)
  | 35 => ("DuckWalkModel", "round", "I", false)
  | 36 => ("DuckWalkModel", "cycleLow", "I", false)
  | 37 => ("DuckWalkModel", "cycleHigh", "I", false)
  | 38 => ("DuckWalkModel", "seen", "[Z", true)
  | 39 => ("DuckWalkModel", "otherPaces", "[I", true)
  | _ => ("DuckWalkModel", "hash", "J", false)
def tyX9 : Nat → FieldType := fun k => match k with
  | 0 => .int
  | 1 => .array .int
  | 2 => .int
  | 3 => .long
  | 4 => .long
  | 5 => .array .int
  | 6 => .array .int
  | 7 => .array .int
  | 8 => .array .int
  | 9 => .array .byte
  | 10 => .array .boolean
  | 11 => .array .int
  | 12 => .array .boolean
  | 13 => .array .int
  | 14 => .int
  | 15 => .int
  | 16 => .int
  | 17 => .array .int
  | 18 => .array .int
  | 19 => .array .int
  | 20 => .int
  | 21 => .int
  | 22 => .array .int
  | 23 => .int
  | 24 => .int
  | 25 => .int
  | 26 => .int
  | 27 => .int
  | 28 => .int
  | 29 => .int
  | 30 => .array .boolean
  | 31 => .array .int
  | 32 => .array .int
  | 33 => .array .int
  | 34 => .int
  | 35 => .int
  | 36 => .int
  | 37 => .int
  | 38 => .array .boolean
  | 39 => .array .int
  | _ => .long
theorem nmX9 : ∀ a, a < 41 → ∀ b, b < 41 → a ≠ b → (TX9 a).2.1 ≠ (TX9 b).2.1 := by decide +kernel
theorem tyX9_ok : ∀ k, k < 41 → parseFieldDescriptor (TX9 k).2.2.1 = some (tyX9 k) := by decide +kernel
abbrev cX9_init : ByteArray := prog_11_method_1_code
def yX9_init : MethodName := ⟨RX9, "<init>", "()V"⟩
abbrev cX9_in : ByteArray := prog_11_method_2_code
def yX9_in : MethodName := ⟨RX9, "in", "(III)Z"⟩
abbrev cX9_lesser : ByteArray := prog_11_method_3_code
def yX9_lesser : MethodName := ⟨RX9, "lesser", "(II)I"⟩
abbrev cX9_greater : ByteArray := prog_11_method_4_code
def yX9_greater : MethodName := ⟨RX9, "greater", "(II)I"⟩
abbrev cX9_notes : ByteArray := prog_11_method_5_code
def yX9_notes : MethodName := ⟨RX9, "notes", "(I)I"⟩
abbrev cX9_finding : ByteArray := prog_11_method_6_code
def yX9_finding : MethodName := ⟨RX9, "finding", "()I"⟩
abbrev cX9_findings : ByteArray := prog_11_method_7_code
def yX9_findings : MethodName := ⟨RX9, "findings", "(I)I"⟩
abbrev cX9_tells : ByteArray := prog_11_method_8_code
def yX9_tells : MethodName := ⟨RX9, "tells", "(II)I"⟩
abbrev cX9_asked : ByteArray := prog_11_method_9_code
def yX9_asked : MethodName := ⟨RX9, "asked", "()I"⟩
abbrev cX9_fraction : ByteArray := prog_11_method_10_code
def yX9_fraction : MethodName := ⟨RX9, "fraction", "(JJI)I"⟩
abbrev cX9_upper : ByteArray := prog_11_method_11_code
def yX9_upper : MethodName := ⟨RX9, "upper", "()J"⟩
abbrev cX9_lower : ByteArray := prog_11_method_12_code
def yX9_lower : MethodName := ⟨RX9, "lower", "()J"⟩
abbrev cX9_isRow : ByteArray := prog_11_method_13_code
def yX9_isRow : MethodName := ⟨RX9, "isRow", "(I)Z"⟩
abbrev cX9_rowAt : ByteArray := prog_11_method_14_code
def yX9_rowAt : MethodName := ⟨RX9, "rowAt", "(II)I"⟩
abbrev cX9_row : ByteArray := prog_11_method_15_code
def yX9_row : MethodName := ⟨RX9, "row", "(II)I"⟩
abbrev cX9_lay : ByteArray := prog_11_method_16_code
def yX9_lay : MethodName := ⟨RX9, "lay", "(III)I"⟩
abbrev cX9_at : ByteArray := prog_11_method_17_code
def yX9_at : MethodName := ⟨RX9, "at", "(II)I"⟩
abbrev cX9_tear : ByteArray := prog_11_method_18_code
def yX9_tear : MethodName := ⟨RX9, "tear", "(I)I"⟩
abbrev cX9_copy : ByteArray := prog_11_method_19_code
def yX9_copy : MethodName := ⟨RX9, "copy", "(IIIII)I"⟩
abbrev cX9_mean : ByteArray := prog_11_method_20_code
def yX9_mean : MethodName := ⟨RX9, "mean", "(I)I"⟩
abbrev cX9_isText : ByteArray := prog_11_method_21_code
def yX9_isText : MethodName := ⟨RX9, "isText", "(I)Z"⟩
abbrev cX9_text : ByteArray := prog_11_method_22_code
def yX9_text : MethodName := ⟨RX9, "text", "(II)I"⟩
abbrev cX9_put : ByteArray := prog_11_method_23_code
def yX9_put : MethodName := ⟨RX9, "put", "(III)I"⟩
abbrev cX9_byteAt : ByteArray := prog_11_method_24_code
def yX9_byteAt : MethodName := ⟨RX9, "byteAt", "(II)I"⟩
abbrev cX9_figure : ByteArray := prog_11_method_25_code
def yX9_figure : MethodName := ⟨RX9, "figure", "(II)Z"⟩
abbrev cX9_itemOf : ByteArray := prog_11_method_26_code
def yX9_itemOf : MethodName := ⟨RX9, "itemOf", "(I)I"⟩
abbrev cX9_readsSize : ByteArray := prog_11_method_27_code
def yX9_readsSize : MethodName := ⟨RX9, "readsSize", "(I)Z"⟩
abbrev cX9_walkerFault : ByteArray := prog_11_method_28_code
def yX9_walkerFault : MethodName := ⟨RX9, "walkerFault", "(I)I"⟩
abbrev cX9_readsBoard : ByteArray := prog_11_method_29_code
def yX9_readsBoard : MethodName := ⟨RX9, "readsBoard", "(I)Z"⟩
abbrev cX9_boardFault : ByteArray := prog_11_method_30_code
def yX9_boardFault : MethodName := ⟨RX9, "boardFault", "(I)I"⟩
abbrev cX9_fault : ByteArray := prog_11_method_31_code
def yX9_fault : MethodName := ⟨RX9, "fault", "(IZ)I"⟩
abbrev cX9_isPlace : ByteArray := prog_11_method_32_code
def yX9_isPlace : MethodName := ⟨RX9, "isPlace", "(I)Z"⟩
abbrev cX9_bits : ByteArray := prog_11_method_33_code
def yX9_bits : MethodName := ⟨RX9, "bits", "(I)I"⟩
abbrev cX9_walker : ByteArray := prog_11_method_34_code
def yX9_walker : MethodName := ⟨RX9, "walker", "(II)I"⟩
abbrev cX9_board : ByteArray := prog_11_method_35_code
def yX9_board : MethodName := ⟨RX9, "board", "(II)I"⟩
abbrev cX9_about : ByteArray := prog_11_method_36_code
def yX9_about : MethodName := ⟨RX9, "about", "(II)I"⟩
abbrev cX9_rub : ByteArray := prog_11_method_37_code
def yX9_rub : MethodName := ⟨RX9, "rub", "(II)I"⟩
abbrev cX9_wax : ByteArray := prog_11_method_38_code
def yX9_wax : MethodName := ⟨RX9, "wax", "(III)I"⟩
abbrev cX9_looksAt : ByteArray := prog_11_method_39_code
def yX9_looksAt : MethodName := ⟨RX9, "looksAt", "(III)V"⟩
abbrev cX9_starts : ByteArray := prog_11_method_40_code
def yX9_starts : MethodName := ⟨RX9, "starts", "(II)V"⟩
abbrev cX9_gain : ByteArray := prog_11_method_41_code
def yX9_gain : MethodName := ⟨RX9, "gain", "()I"⟩
abbrev cX9_fallsAt : ByteArray := prog_11_method_42_code
def yX9_fallsAt : MethodName := ⟨RX9, "fallsAt", "()I"⟩
abbrev cX9_step : ByteArray := prog_11_method_43_code
def yX9_step : MethodName := ⟨RX9, "step", "(I)V"⟩
abbrev cX9_steps : ByteArray := prog_11_method_44_code
def yX9_steps : MethodName := ⟨RX9, "steps", "(I)V"⟩
abbrev cX9_copyWalk : ByteArray := prog_11_method_45_code
def yX9_copyWalk : MethodName := ⟨RX9, "copyWalk", "(II)V"⟩
abbrev cX9_layWalk : ByteArray := prog_11_method_46_code
def yX9_layWalk : MethodName := ⟨RX9, "layWalk", "()V"⟩
abbrev cX9_storeWalk : ByteArray := prog_11_method_47_code
def yX9_storeWalk : MethodName := ⟨RX9, "storeWalk", "()V"⟩
abbrev cX9_walk : ByteArray := prog_11_method_48_code
def yX9_walk : MethodName := ⟨RX9, "walk", "(IIIII)I"⟩
abbrev cX9_walksOn : ByteArray := prog_11_method_49_code
def yX9_walksOn : MethodName := ⟨RX9, "walksOn", "()Z"⟩
abbrev cX9_go : ByteArray := prog_11_method_50_code
def yX9_go : MethodName := ⟨RX9, "go", "(I)I"⟩
abbrev cX9_walkTells : ByteArray := prog_11_method_51_code
def yX9_walkTells : MethodName := ⟨RX9, "walkTells", "(I)I"⟩
abbrev cX9_told : ByteArray := prog_11_method_52_code
def yX9_told : MethodName := ⟨RX9, "told", "(I)I"⟩
abbrev cX9_tocks : ByteArray := prog_11_method_53_code
def yX9_tocks : MethodName := ⟨RX9, "tocks", "(II)I"⟩
abbrev cX9_tilt : ByteArray := prog_11_method_54_code
def yX9_tilt : MethodName := ⟨RX9, "tilt", "(I)I"⟩
abbrev cX9_keep : ByteArray := prog_11_method_55_code
def yX9_keep : MethodName := ⟨RX9, "keep", "(I)I"⟩
abbrev cX9_on : ByteArray := prog_11_method_56_code
def yX9_on : MethodName := ⟨RX9, "on", "(I)I"⟩
abbrev cX9_turns : ByteArray := prog_11_method_57_code
def yX9_turns : MethodName := ⟨RX9, "turns", "()I"⟩
abbrev cX9_goingOf : ByteArray := prog_11_method_58_code
def yX9_goingOf : MethodName := ⟨RX9, "goingOf", "(I)I"⟩
abbrev cX9_isOf : ByteArray := prog_11_method_59_code
def yX9_isOf : MethodName := ⟨RX9, "isOf", "(II)Z"⟩
abbrev cX9_walksWell : ByteArray := prog_11_method_60_code
def yX9_walksWell : MethodName := ⟨RX9, "walksWell", "(I)Z"⟩
abbrev cX9_areGood : ByteArray := prog_11_method_61_code
def yX9_areGood : MethodName := ⟨RX9, "areGood", "(IIII)Z"⟩
abbrev cX9_need : ByteArray := prog_11_method_62_code
def yX9_need : MethodName := ⟨RX9, "need", "(ZIIII)I"⟩
abbrev cX9_going : ByteArray := prog_11_method_63_code
def yX9_going : MethodName := ⟨RX9, "going", "(IIII)I"⟩
abbrev cX9_unlikePaces : ByteArray := prog_11_method_64_code
def yX9_unlikePaces : MethodName := ⟨RX9, "unlikePaces", "(I)I"⟩
abbrev cX9_mark : ByteArray := prog_11_method_65_code
def yX9_mark : MethodName := ⟨RX9, "mark", "(IIIII)I"⟩
abbrev cX9_lines : ByteArray := prog_11_method_66_code
def yX9_lines : MethodName := ⟨RX9, "lines", "(IIII)I"⟩
abbrev cX9_begins : ByteArray := prog_11_method_67_code
def yX9_begins : MethodName := ⟨RX9, "begins", "(III)I"⟩
abbrev cX9_mends : ByteArray := prog_11_method_68_code
def yX9_mends : MethodName := ⟨RX9, "mends", "(IIIII)I"⟩
abbrev cX9_span : ByteArray := prog_11_method_69_code
def yX9_span : MethodName := ⟨RX9, "span", "(I)I"⟩
abbrev cX9_wide : ByteArray := prog_11_method_70_code
def yX9_wide : MethodName := ⟨RX9, "wide", "(III)I"⟩
abbrev cX9_mend : ByteArray := prog_11_method_71_code
def yX9_mend : MethodName := ⟨RX9, "mend", "(IIII)I"⟩
abbrev cX9_needTocks : ByteArray := prog_11_method_72_code
def yX9_needTocks : MethodName := ⟨RX9, "needTocks", "(III)I"⟩
abbrev cX9_offTocks : ByteArray := prog_11_method_73_code
def yX9_offTocks : MethodName := ⟨RX9, "offTocks", "(III)I"⟩
abbrev cX9_limp : ByteArray := prog_11_method_74_code
def yX9_limp : MethodName := ⟨RX9, "limp", "(III)I"⟩
abbrev cX9_odds : ByteArray := prog_11_method_75_code
def yX9_odds : MethodName := ⟨RX9, "odds", "(III)I"⟩
abbrev cX9_part : ByteArray := prog_11_method_76_code
def yX9_part : MethodName := ⟨RX9, "part", "(IIII)I"⟩
abbrev cX9_made : ByteArray := prog_11_method_77_code
def yX9_made : MethodName := ⟨RX9, "made", "(IIII)I"⟩
abbrev cX9_would : ByteArray := prog_11_method_78_code
def yX9_would : MethodName := ⟨RX9, "would", "(IIII)I"⟩
abbrev cX9_yard : ByteArray := prog_11_method_79_code
def yX9_yard : MethodName := ⟨RX9, "yard", "(IIIII)I"⟩
abbrev cX9_push : ByteArray := prog_11_method_80_code
def yX9_push : MethodName := ⟨RX9, "push", "(III)I"⟩
abbrev cX9_bears : ByteArray := prog_11_method_81_code
def yX9_bears : MethodName := ⟨RX9, "bears", "(IIIII)I"⟩
abbrev cX9_meets : ByteArray := prog_11_method_82_code
def yX9_meets : MethodName := ⟨RX9, "meets", "(IIIII)I"⟩
abbrev cX9_counted : ByteArray := prog_11_method_83_code
def yX9_counted : MethodName := ⟨RX9, "counted", "(I)I"⟩
abbrev cX9_count : ByteArray := prog_11_method_84_code
def yX9_count : MethodName := ⟨RX9, "count", "(I)I"⟩
abbrev cX9_mix : ByteArray := prog_11_method_85_code
def yX9_mix : MethodName := ⟨RX9, "mix", "(J)V"⟩
abbrev cX9_mixBooks : ByteArray := prog_11_method_86_code
def yX9_mixBooks : MethodName := ⟨RX9, "mixBooks", "()V"⟩
abbrev cX9_digest : ByteArray := prog_11_method_87_code
def yX9_digest : MethodName := ⟨RX9, "digest", "()J"⟩
def RJ6 : String := "java/lang/Integer"
abbrev cJ6_bitCount_0f7a4 : ByteArray := prog_12_method_49_code
def yJ6_bitCount_0f7a4 : MethodName := ⟨RJ6, "bitCount", "(I)I"⟩
def RJ13 : String := "java/lang/Long"
abbrev cJ13_bitCount_95d88 : ByteArray := prog_13_method_50_code
def yJ13_bitCount_95d88 : MethodName := ⟨RJ13, "bitCount", "(J)I"⟩
def RJ9 : String := "java/lang/Math"
abbrev cJ9_floorMod_7cf53 : ByteArray := prog_14_method_50_code
def yJ9_floorMod_7cf53 : MethodName := ⟨RJ9, "floorMod", "(II)I"⟩
abbrev cJ9_abs_0f7a4 : ByteArray := prog_14_method_59_code
def yJ9_abs_0f7a4 : MethodName := ⟨RJ9, "abs", "(I)I"⟩
abbrev cJ9_max_7cf53 : ByteArray := prog_14_method_65_code
def yJ9_max_7cf53 : MethodName := ⟨RJ9, "max", "(II)I"⟩
abbrev cJ9_min_7cf53 : ByteArray := prog_14_method_69_code
def yJ9_min_7cf53 : MethodName := ⟨RJ9, "min", "(II)I"⟩
def RJ10 : String := "java/lang/System"
def RJ7 : String := "java/util/Arrays"
abbrev cJ7_rangeCheck_23922 : ByteArray := prog_16_method_30_code
def yJ7_rangeCheck_23922 : MethodName := ⟨RJ7, "rangeCheck", "(III)V"⟩
abbrev cJ7_fill_53178 : ByteArray := prog_16_method_103_code
def yJ7_fill_53178 : MethodName := ⟨RJ7, "fill", "([II)V"⟩
abbrev cJ7_fill_fda19 : ByteArray := prog_16_method_104_code
def yJ7_fill_fda19 : MethodName := ⟨RJ7, "fill", "([IIII)V"⟩
abbrev cJ7_fill_031fb : ByteArray := prog_16_method_109_code
def yJ7_fill_031fb : MethodName := ⟨RJ7, "fill", "([BB)V"⟩
def RL : String := "DuckWalkLaw"
abbrev cL_law : ByteArray := code
def yL_law : MethodName := ⟨RL, "law", "([I)Z"⟩
abbrev vwCl : List vw_C := [(RX0, TX0, 10), (RX1, TX1, 3), (RX2, TX2, 4), (RX3, TX3, 3), (RX4, TX4, 4), (RX5, TX5, 2), (RX6, TX6, 2), (RX7, TX7, 8), (RX8, TX8, 15), (RX9, TX9, 41)]
theorem dk_tb1 : ∀ w ∈ tables_1_1, w ∈ lw_tbl := fun w h => List.mem_append_right _ (List.mem_append_left _ h)
theorem dk_tb2 : ∀ w ∈ tables_1_2, w ∈ lw_tbl := fun w h => List.mem_append_right _ (List.mem_append_right _ (List.mem_append_left _ h))
theorem dk_tb3 : ∀ w ∈ tables_1_3, w ∈ lw_tbl := fun w h => List.mem_append_right _ (List.mem_append_right _ (List.mem_append_right _ (List.mem_append_left _ h)))
theorem dk_tb4 : ∀ w ∈ tables_1_4, w ∈ lw_tbl := fun w h => List.mem_append_right _ (List.mem_append_right _ (List.mem_append_right _ (List.mem_append_right _ (List.mem_append_left _ h))))
theorem dk_tb5 : ∀ w ∈ tables_1_5, w ∈ lw_tbl := fun w h => List.mem_append_right _ (List.mem_append_right _ (List.mem_append_right _ (List.mem_append_right _ (List.mem_append_right _ (List.mem_append_left _ h)))))
theorem dk_tb6 : ∀ w ∈ tables_1_6, w ∈ lw_tbl := fun w h => List.mem_append_right _ (List.mem_append_right _ (List.mem_append_right _ (List.mem_append_right _ (List.mem_append_right _ (List.mem_append_right _ h)))))
def dk_tb : List Cond := lw_tbl.filter goodWord
theorem dk_m1 {w : Cond} (i : Nat) (h : tables_1_1[i]? = some w) (hg : goodWord w = true) : w ∈ dk_tb := List.mem_filter.mpr ⟨dk_tb1 _ (List.mem_of_getElem? h), hg⟩
theorem dk_m2 {w : Cond} (i : Nat) (h : tables_1_2[i]? = some w) (hg : goodWord w = true) : w ∈ dk_tb := List.mem_filter.mpr ⟨dk_tb2 _ (List.mem_of_getElem? h), hg⟩
theorem dk_m3 {w : Cond} (i : Nat) (h : tables_1_3[i]? = some w) (hg : goodWord w = true) : w ∈ dk_tb := List.mem_filter.mpr ⟨dk_tb3 _ (List.mem_of_getElem? h), hg⟩
theorem dk_m4 {w : Cond} (i : Nat) (h : tables_1_4[i]? = some w) (hg : goodWord w = true) : w ∈ dk_tb := List.mem_filter.mpr ⟨dk_tb4 _ (List.mem_of_getElem? h), hg⟩
theorem dk_m5 {w : Cond} (i : Nat) (h : tables_1_5[i]? = some w) (hg : goodWord w = true) : w ∈ dk_tb := List.mem_filter.mpr ⟨dk_tb5 _ (List.mem_of_getElem? h), hg⟩
theorem dk_m6 {w : Cond} (i : Nat) (h : tables_1_6[i]? = some w) (hg : goodWord w = true) : w ∈ dk_tb := List.mem_filter.mpr ⟨dk_tb6 _ (List.mem_of_getElem? h), hg⟩
theorem dk_mp {w : Cond} (i : Nat) (h : (k2_sels lw_privs)[i]? = some w) (hg : goodWord w = true) : w ∈ dk_tb := List.mem_filter.mpr ⟨List.mem_append_left _ (List.mem_of_getElem? h), hg⟩
theorem dk_tb_in {w : Cond} (h : w ∈ dk_tb) : w ∈ lw_tbl := (List.mem_filter.mp h).1
theorem dk_good {y : MethodName} {cc : ByteArray} {n : Nat} {r : Option FieldType} (h : Cond.code y cc n r ∈ dk_tb) : GoodIn dk_tb (Cond.code y cc n r :: dk_tb) := fun w hw => (List.mem_cons.mp hw).elim (fun e => by subst e; exact ⟨h, good_of_word (List.mem_filter.mp h).2⟩) (fun h2 => ⟨h2, good_of_word (List.mem_filter.mp h2).2⟩)
